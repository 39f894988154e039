/-! images, seen, feed -/
set_option maxRecDepth 8000 in
theorem qx191 {X : tb_X} {A : tb_H} {s : Nat} (hs : tb_isS s) {x1 : Nat} (hx1 : tb_isS x1) {K : tb_H → Prop} (h : tb_E X 191 8 [tb_r s, tb_r x1] [] (tb_upI A s 0 (A.1 x1 0)) (tb_Rv 191 K)) : tb_Cv X 191 [tb_r s, tb_r x1] A K :=
  tb_in (n := 2) (lv0 := [tb_r s, tb_r x1]) mx_191 rfl <| tb_r3 at_191_0 rfl rfl <| tb_r3 at_191_1 rfl rfl <| tb_r18 (v := tb_i (A.1 x1 0)) at_191_2 (tb_gS hx1 (by decide)) <| tb_r19 at_191_5 (tb_pS hs (by decide)) <| h
set_option maxRecDepth 8000 in
theorem qx191_8 {X : tb_X} {A : tb_H} {x0 : Nat} (hx0 : tb_isS x0) {x1 : Nat} (hx1 : tb_isS x1) {K : tb_H → Prop} (h : tb_E X 191 16 [tb_r x0, tb_r x1] [] (tb_upI A x0 1 (A.1 x1 1)) (tb_Rv 191 K)) : tb_E X 191 8 [tb_r x0, tb_r x1] [] A (tb_Rv 191 K) :=
  tb_r3 at_191_8 rfl rfl <| tb_r3 at_191_9 rfl rfl <| tb_r18 (v := tb_i (A.1 x1 1)) at_191_10 (tb_gS hx1 (by decide)) <| tb_r19 at_191_13 (tb_pS hx0 (by decide)) <| h
set_option maxRecDepth 8000 in
theorem qx191_16 {X : tb_X} {A : tb_H} {x0 : Nat} (hx0 : tb_isS x0) {x1 : Nat} (hx1 : tb_isS x1) {K : tb_H → Prop} (h : tb_E X 191 24 [tb_r x0, tb_r x1] [] (tb_upI A x0 2 (A.1 x1 2)) (tb_Rv 191 K)) : tb_E X 191 16 [tb_r x0, tb_r x1] [] A (tb_Rv 191 K) :=
  tb_r3 at_191_16 rfl rfl <| tb_r3 at_191_17 rfl rfl <| tb_r18 (v := tb_i (A.1 x1 2)) at_191_18 (tb_gS hx1 (by decide)) <| tb_r19 at_191_21 (tb_pS hx0 (by decide)) <| h
set_option maxRecDepth 8000 in
theorem qx191_24 {X : tb_X} {A : tb_H} {x0 : Nat} (hx0 : tb_isS x0) {x1 : Nat} (hx1 : tb_isS x1) {K : tb_H → Prop} (h : tb_E X 191 32 [tb_r x0, tb_r x1] [] (tb_upI A x0 3 (A.1 x1 3)) (tb_Rv 191 K)) : tb_E X 191 24 [tb_r x0, tb_r x1] [] A (tb_Rv 191 K) :=
  tb_r3 at_191_24 rfl rfl <| tb_r3 at_191_25 rfl rfl <| tb_r18 (v := tb_i (A.1 x1 3)) at_191_26 (tb_gS hx1 (by decide)) <| tb_r19 at_191_29 (tb_pS hx0 (by decide)) <| h
set_option maxRecDepth 8000 in
theorem qx191_32 {X : tb_X} {A : tb_H} {x0 : Nat} (hx0 : tb_isS x0) {x1 : Nat} (hx1 : tb_isS x1) {K : tb_H → Prop} (h : tb_E X 191 40 [tb_r x0, tb_r x1] [] (tb_upI A x0 4 (A.1 x1 4)) (tb_Rv 191 K)) : tb_E X 191 32 [tb_r x0, tb_r x1] [] A (tb_Rv 191 K) :=
  tb_r3 at_191_32 rfl rfl <| tb_r3 at_191_33 rfl rfl <| tb_r18 (v := tb_i (A.1 x1 4)) at_191_34 (tb_gS hx1 (by decide)) <| tb_r19 at_191_37 (tb_pS hx0 (by decide)) <| h
set_option maxRecDepth 8000 in
theorem qx191_40 {X : tb_X} {A : tb_H} {x0 : Nat} (hx0 : tb_isS x0) {x1 : Nat} (hx1 : tb_isS x1) {K : tb_H → Prop} (h : tb_E X 191 48 [tb_r x0, tb_r x1] [] (tb_upI A x0 5 (A.1 x1 5)) (tb_Rv 191 K)) : tb_E X 191 40 [tb_r x0, tb_r x1] [] A (tb_Rv 191 K) :=
  tb_r3 at_191_40 rfl rfl <| tb_r3 at_191_41 rfl rfl <| tb_r18 (v := tb_i (A.1 x1 5)) at_191_42 (tb_gS hx1 (by decide)) <| tb_r19 at_191_45 (tb_pS hx0 (by decide)) <| h
set_option maxRecDepth 8000 in
theorem qx191_48 {X : tb_X} {A : tb_H} {x0 : Nat} (hx0 : tb_isS x0) {x1 : Nat} (hx1 : tb_isS x1) {K : tb_H → Prop} (h : tb_E X 191 56 [tb_r x0, tb_r x1] [] (tb_upI A x0 6 (A.1 x1 6)) (tb_Rv 191 K)) : tb_E X 191 48 [tb_r x0, tb_r x1] [] A (tb_Rv 191 K) :=
  tb_r3 at_191_48 rfl rfl <| tb_r3 at_191_49 rfl rfl <| tb_r18 (v := tb_i (A.1 x1 6)) at_191_50 (tb_gS hx1 (by decide)) <| tb_r19 at_191_53 (tb_pS hx0 (by decide)) <| h
set_option maxRecDepth 8000 in
theorem qx191_56 {X : tb_X} {A : tb_H} {x0 : Nat} (hx0 : tb_isS x0) {x1 : Nat} (hx1 : tb_isS x1) {K : tb_H → Prop} (h : tb_E X 191 64 [tb_r x0, tb_r x1] [] (tb_upI A x0 7 (A.1 x1 7)) (tb_Rv 191 K)) : tb_E X 191 56 [tb_r x0, tb_r x1] [] A (tb_Rv 191 K) :=
  tb_r3 at_191_56 rfl rfl <| tb_r3 at_191_57 rfl rfl <| tb_r18 (v := tb_i (A.1 x1 7)) at_191_58 (tb_gS hx1 (by decide)) <| tb_r19 at_191_61 (tb_pS hx0 (by decide)) <| h
set_option maxRecDepth 8000 in
theorem qx191_64 {X : tb_X} {A : tb_H} {x0 : Nat} (hx0 : tb_isS x0) {x1 : Nat} (hx1 : tb_isS x1) {K : tb_H → Prop} (h : tb_E X 191 72 [tb_r x0, tb_r x1] [] (tb_upI A x0 8 (A.1 x1 8)) (tb_Rv 191 K)) : tb_E X 191 64 [tb_r x0, tb_r x1] [] A (tb_Rv 191 K) :=
  tb_r3 at_191_64 rfl rfl <| tb_r3 at_191_65 rfl rfl <| tb_r18 (v := tb_i (A.1 x1 8)) at_191_66 (tb_gS hx1 (by decide)) <| tb_r19 at_191_69 (tb_pS hx0 (by decide)) <| h
set_option maxRecDepth 8000 in
theorem qx191_72 {X : tb_X} {A : tb_H} {x0 : Nat} (hx0 : tb_isS x0) {x1 : Nat} (hx1 : tb_isS x1) {K : tb_H → Prop} (h : tb_E X 191 80 [tb_r x0, tb_r x1] [] (tb_upI A x0 9 (A.1 x1 9)) (tb_Rv 191 K)) : tb_E X 191 72 [tb_r x0, tb_r x1] [] A (tb_Rv 191 K) :=
  tb_r3 at_191_72 rfl rfl <| tb_r3 at_191_73 rfl rfl <| tb_r18 (v := tb_i (A.1 x1 9)) at_191_74 (tb_gS hx1 (by decide)) <| tb_r19 at_191_77 (tb_pS hx0 (by decide)) <| h
set_option maxRecDepth 8000 in
theorem qx191_80 {X : tb_X} {A : tb_H} {x0 : Nat} (hx0 : tb_isS x0) {x1 : Nat} (hx1 : tb_isS x1) {K : tb_H → Prop} (h : tb_E X 191 88 [tb_r x0, tb_r x1] [] (tb_upI A x0 10 (A.1 x1 10)) (tb_Rv 191 K)) : tb_E X 191 80 [tb_r x0, tb_r x1] [] A (tb_Rv 191 K) :=
  tb_r3 at_191_80 rfl rfl <| tb_r3 at_191_81 rfl rfl <| tb_r18 (v := tb_i (A.1 x1 10)) at_191_82 (tb_gS hx1 (by decide)) <| tb_r19 at_191_85 (tb_pS hx0 (by decide)) <| h
set_option maxRecDepth 8000 in
theorem qx191_88 {X : tb_X} {A : tb_H} {x0 : Nat} (hx0 : tb_isS x0) {x1 : Nat} (hx1 : tb_isS x1) {K : tb_H → Prop} (h : tb_E X 191 96 [tb_r x0, tb_r x1] [] (tb_upI A x0 11 (A.1 x1 11)) (tb_Rv 191 K)) : tb_E X 191 88 [tb_r x0, tb_r x1] [] A (tb_Rv 191 K) :=
  tb_r3 at_191_88 rfl rfl <| tb_r3 at_191_89 rfl rfl <| tb_r18 (v := tb_i (A.1 x1 11)) at_191_90 (tb_gS hx1 (by decide)) <| tb_r19 at_191_93 (tb_pS hx0 (by decide)) <| h
set_option maxRecDepth 8000 in
theorem qx191_96 {X : tb_X} {A : tb_H} {x0 : Nat} (hx0 : tb_isS x0) {x1 : Nat} (hx1 : tb_isS x1) {K : tb_H → Prop} (h : tb_Cv X 192 [tb_r (x1 + 1), tb_r (x0 + 1)] A (fun A1 => tb_Cv X 192 [tb_r (x1 + 2), tb_r (x0 + 2)] A1 (fun A2 => tb_Cv X 192 [tb_r (x1 + 3), tb_r (x0 + 3)] A2 (fun A3 => tb_Cv X 192 [tb_r (x1 + 4), tb_r (x0 + 4)] A3 (fun A4 => tb_Cv X 192 [tb_r (x1 + 5), tb_r (x0 + 5)] A4 (fun A5 => K A5)))))) : tb_E X 191 96 [tb_r x0, tb_r x1] [] A (tb_Rv 191 K) :=
  tb_r3 at_191_96 rfl rfl <| tb_r18 (v := tb_r (x1 + 1)) at_191_97 (tb_gS12 hx1) <| tb_r3 at_191_100 rfl rfl <| tb_r18 (v := tb_r (x0 + 1)) at_191_101 (tb_gS12 hx0) <| tb_rcv0 (rest := []) at_191_104 (Or.inr rfl) (Nat.le_of_ble_eq_true rfl) rfl (Nat.le_of_ble_eq_true rfl) rfl mx_192 (Nat.le_of_ble_eq_true rfl) (fun q => absurd q (by decide)) ((h).imp (fun A1 h10 => tb_r3 at_191_107 rfl rfl <| tb_r18 (v := tb_r (x1 + 2)) at_191_108 (tb_gS13 hx1) <| tb_r3 at_191_111 rfl rfl <| tb_r18 (v := tb_r (x0 + 2)) at_191_112 (tb_gS13 hx0) <| tb_rcv0 (rest := []) at_191_115 (Or.inr rfl) (Nat.le_of_ble_eq_true rfl) rfl (Nat.le_of_ble_eq_true rfl) rfl mx_192 (Nat.le_of_ble_eq_true rfl) (fun q => absurd q (by decide)) ((h10).imp (fun A2 h9 => tb_r3 at_191_118 rfl rfl <| tb_r18 (v := tb_r (x1 + 3)) at_191_119 (tb_gS14 hx1) <| tb_r3 at_191_122 rfl rfl <| tb_r18 (v := tb_r (x0 + 3)) at_191_123 (tb_gS14 hx0) <| tb_rcv0 (rest := []) at_191_126 (Or.inr rfl) (Nat.le_of_ble_eq_true rfl) rfl (Nat.le_of_ble_eq_true rfl) rfl mx_192 (Nat.le_of_ble_eq_true rfl) (fun q => absurd q (by decide)) ((h9).imp (fun A3 h8 => tb_r3 at_191_129 rfl rfl <| tb_r18 (v := tb_r (x1 + 4)) at_191_130 (tb_gS15 hx1) <| tb_r3 at_191_133 rfl rfl <| tb_r18 (v := tb_r (x0 + 4)) at_191_134 (tb_gS15 hx0) <| tb_rcv0 (rest := []) at_191_137 (Or.inr rfl) (Nat.le_of_ble_eq_true rfl) rfl (Nat.le_of_ble_eq_true rfl) rfl mx_192 (Nat.le_of_ble_eq_true rfl) (fun q => absurd q (by decide)) ((h8).imp (fun A4 h7 => tb_r3 at_191_140 rfl rfl <| tb_r18 (v := tb_r (x1 + 5)) at_191_141 (tb_gS16 hx1) <| tb_r3 at_191_144 rfl rfl <| tb_r18 (v := tb_r (x0 + 5)) at_191_145 (tb_gS16 hx0) <| tb_rcv0 (rest := []) at_191_148 (Or.inr rfl) (Nat.le_of_ble_eq_true rfl) rfl (Nat.le_of_ble_eq_true rfl) rfl mx_192 (Nat.le_of_ble_eq_true rfl) (fun q => absurd q (by decide)) ((h7).imp (fun A5 h6 => tb_rr at_191_151 rfl rfl ⟨rfl, h6⟩))))))))))

section TBIMG
variable {X : tb_X} {A D : tb_H} {K : Int → tb_H → Prop} {Kv : tb_H → Prop}
theorem sp192 {o q n : Nat} (ho : tb_kd o = (1, n, [0])) (hq : tb_kd q = (1, n, [0])) (k : Kv (tb_cpy A o 0 q 0 n)) : tb_Cv X 192 [tb_r o, tb_r q] A Kv := by
  refine q192 ho hq ?_
  rw [show (if (n : Int) < (n : Int) then (n : Int) else (n : Int)) = (n : Int) by split <;> rfl]
  exact ⟨⟨by omega, by omega, by omega, by omega, by omega⟩, k⟩
theorem tb_cpy1 {o q : Nat} {sp dp n : Int} {o' : Nat} {k' : Int} : (tb_cpy A o sp q dp n).1 o' k' = if o' = q ∧ dp ≤ k' ∧ k' < dp + n then A.1 o (k' - dp + sp) else A.1 o' k' := rfl
theorem tb_cpz {o q : Nat} {n : Int} {o' : Nat} {k' : Int} : (tb_cpy A o 0 q 0 n).1 o' k' = if o' = q ∧ 0 ≤ k' ∧ k' < n then A.1 o k' else A.1 o' k' := by
  show (if o' = q ∧ 0 ≤ k' ∧ k' < 0 + n then A.1 o (k' - 0 + 0) else A.1 o' k') = _
  rw [Int.zero_add, Int.sub_zero, Int.add_zero]
/-- a state copied: s's rows are x's -/
def tb_cp (A A' : tb_H) (s x : Nat) : Prop := A'.2 = A.2 ∧ (∀ o k, (o < s ∨ s + 5 < o) → A'.1 o k = A.1 o k) ∧ (∀ k, 0 ≤ k → k < 12 → A'.1 s k = A.1 x k) ∧ (∀ k, 0 ≤ k → k < 6 → A'.1 (s + 1) k = A.1 (x + 1) k) ∧ (∀ k, 0 ≤ k → k < 4 → A'.1 (s + 2) k = A.1 (x + 2) k) ∧ (∀ k, 0 ≤ k → k < 4 → A'.1 (s + 3) k = A.1 (x + 3) k) ∧ (∀ k, 0 ≤ k → k < 8 → A'.1 (s + 4) k = A.1 (x + 4) k) ∧ (∀ k, 0 ≤ k → k < 201 → A'.1 (s + 5) k = A.1 (x + 5) k)
def tb_cq (A A' : tb_H) (s x : Nat) (m : Int) : Prop := A'.2 = A.2 ∧ (∀ o k, o ≠ s → A'.1 o k = A.1 o k) ∧ (∀ k, 0 ≤ k → k < m → A'.1 s k = A.1 x k)
theorem tb_cq.s {A' : tb_H} {s x : Nat} {m : Int} (h : tb_cq A A' s x m) (hm : 0 ≤ m) (hx : x ≠ s) : tb_cq A (tb_upI A' s m (A'.1 x m)) s x (m + 1) := by
  refine ⟨h.1, fun o k q => ?_, fun k a b => ?_⟩
  · rw [tb_uI_o q]; exact h.2.1 o k q
  · by_cases e : k = m
    · rw [e, tb_uI_s]; exact h.2.1 x m hx
    · rw [tb_uI_k e]; exact h.2.2 k a (by omega)
theorem sp191 {s x : Nat} (hs : tb_isS s) (hx : tb_isS x) (ap : x + 5 < s ∨ s + 5 < x) (k : ∀ A', tb_cp A A' s x → Kv A') : tb_Cv X 191 [tb_r s, tb_r x] A Kv := by
  have ne : x ≠ s := by omega
  have c : tb_cq A A s x 0 := ⟨rfl, fun _ _ _ => rfl, fun k a b => by omega⟩
  refine qx191 hs hx ?_
  have c0 : tb_cq A (tb_upI A s 0 (A.1 x 0)) s x 1 := c.s (by decide) ne
  revert c0
  generalize tb_upI A s 0 (A.1 x 0) = B0
  intro c0
  refine qx191_8 hs hx ?_
  have c1 : tb_cq A (tb_upI B0 s 1 (B0.1 x 1)) s x 2 := c0.s (by decide) ne
  revert c1
  generalize tb_upI B0 s 1 (B0.1 x 1) = B1
  intro c1
  refine qx191_16 hs hx ?_
  have c2 : tb_cq A (tb_upI B1 s 2 (B1.1 x 2)) s x 3 := c1.s (by decide) ne
  revert c2
  generalize tb_upI B1 s 2 (B1.1 x 2) = B2
  intro c2
  refine qx191_24 hs hx ?_
  have c3 : tb_cq A (tb_upI B2 s 3 (B2.1 x 3)) s x 4 := c2.s (by decide) ne
  revert c3
  generalize tb_upI B2 s 3 (B2.1 x 3) = B3
  intro c3
  refine qx191_32 hs hx ?_
  have c4 : tb_cq A (tb_upI B3 s 4 (B3.1 x 4)) s x 5 := c3.s (by decide) ne
  revert c4
  generalize tb_upI B3 s 4 (B3.1 x 4) = B4
  intro c4
  refine qx191_40 hs hx ?_
  have c5 : tb_cq A (tb_upI B4 s 5 (B4.1 x 5)) s x 6 := c4.s (by decide) ne
  revert c5
  generalize tb_upI B4 s 5 (B4.1 x 5) = B5
  intro c5
  refine qx191_48 hs hx ?_
  have c6 : tb_cq A (tb_upI B5 s 6 (B5.1 x 6)) s x 7 := c5.s (by decide) ne
  revert c6
  generalize tb_upI B5 s 6 (B5.1 x 6) = B6
  intro c6
  refine qx191_56 hs hx ?_
  have c7 : tb_cq A (tb_upI B6 s 7 (B6.1 x 7)) s x 8 := c6.s (by decide) ne
  revert c7
  generalize tb_upI B6 s 7 (B6.1 x 7) = B7
  intro c7
  refine qx191_64 hs hx ?_
  have c8 : tb_cq A (tb_upI B7 s 8 (B7.1 x 8)) s x 9 := c7.s (by decide) ne
  revert c8
  generalize tb_upI B7 s 8 (B7.1 x 8) = B8
  intro c8
  refine qx191_72 hs hx ?_
  have c9 : tb_cq A (tb_upI B8 s 9 (B8.1 x 9)) s x 10 := c8.s (by decide) ne
  revert c9
  generalize tb_upI B8 s 9 (B8.1 x 9) = B9
  intro c9
  refine qx191_80 hs hx ?_
  have c10 : tb_cq A (tb_upI B9 s 10 (B9.1 x 10)) s x 11 := c9.s (by decide) ne
  revert c10
  generalize tb_upI B9 s 10 (B9.1 x 10) = B10
  intro c10
  refine qx191_88 hs hx ?_
  have c11 : tb_cq A (tb_upI B10 s 11 (B10.1 x 11)) s x 12 := c10.s (by decide) ne
  revert c11
  generalize tb_upI B10 s 11 (B10.1 x 11) = B11
  intro c11
  refine qx191_96 hs hx ?_
  refine sp192 hx.2.1 hs.2.1 (sp192 hx.2.2.1 hs.2.2.1 (sp192 hx.2.2.2.1 hs.2.2.2.1 (sp192 hx.2.2.2.2.1 hs.2.2.2.2.1 (sp192 hx.2.2.2.2.2 hs.2.2.2.2.2 (k _ ⟨c11.1, ?_, ?_, ?_, ?_, ?_, ?_, ?_⟩)))))
  · intro o j q
    rw [tb_cpz, if_neg (by omega)]
    rw [tb_cpz, if_neg (by omega)]
    rw [tb_cpz, if_neg (by omega)]
    rw [tb_cpz, if_neg (by omega)]
    rw [tb_cpz, if_neg (by omega)]
    exact c11.2.1 o j (by omega)
  · intro j a b
    rw [tb_cpz, if_neg (by omega)]
    rw [tb_cpz, if_neg (by omega)]
    rw [tb_cpz, if_neg (by omega)]
    rw [tb_cpz, if_neg (by omega)]
    rw [tb_cpz, if_neg (by omega)]
    exact c11.2.2 j a b
  · intro j a b
    rw [tb_cpz, if_neg (by omega)]
    rw [tb_cpz, if_neg (by omega)]
    rw [tb_cpz, if_neg (by omega)]
    rw [tb_cpz, if_neg (by omega)]
    rw [tb_cpz, if_pos ⟨rfl, by omega, by omega⟩]
    exact c11.2.1 _ j (by omega)
  · intro j a b
    rw [tb_cpz, if_neg (by omega)]
    rw [tb_cpz, if_neg (by omega)]
    rw [tb_cpz, if_neg (by omega)]
    rw [tb_cpz, if_pos ⟨rfl, by omega, by omega⟩]
    rw [tb_cpz, if_neg (by omega)]
    exact c11.2.1 _ j (by omega)
  · intro j a b
    rw [tb_cpz, if_neg (by omega)]
    rw [tb_cpz, if_neg (by omega)]
    rw [tb_cpz, if_pos ⟨rfl, by omega, by omega⟩]
    rw [tb_cpz, if_neg (by omega)]
    rw [tb_cpz, if_neg (by omega)]
    exact c11.2.1 _ j (by omega)
  · intro j a b
    rw [tb_cpz, if_neg (by omega)]
    rw [tb_cpz, if_pos ⟨rfl, by omega, by omega⟩]
    rw [tb_cpz, if_neg (by omega)]
    rw [tb_cpz, if_neg (by omega)]
    rw [tb_cpz, if_neg (by omega)]
    exact c11.2.1 _ j (by omega)
  · intro j a b
    rw [tb_cpz, if_pos ⟨rfl, by omega, by omega⟩]
    rw [tb_cpz, if_neg (by omega)]
    rw [tb_cpz, if_neg (by omega)]
    rw [tb_cpz, if_neg (by omega)]
    rw [tb_cpz, if_neg (by omega)]
    exact c11.2.1 _ j (by omega)
theorem tb_cp.rs {A' : tb_H} {q x : Nat} {s s' : Int → Int} (h : tb_cp A A' q x) (e : ∀ k, 0 ≤ k → k < 453 → s' k = s k) (h9 : 0 ≤ s 9 ∧ s 9 ≤ 200) (r : tc_rs A.1 x s) : tc_rs A'.1 q s' := by
  obtain ⟨_, _, h0, h1, h2, h3, h4, h5⟩ := h
  obtain ⟨⟨a0, a1, a2, a3, a4, a5, a6, a7, a8, a9⟩, ⟨b0, b1⟩, ⟨g0, g1⟩, f1, f2, f3, f4, f5⟩ := r
  refine ⟨⟨?_, ?_, ?_, ?_, ?_, ?_, ?_, ?_, ?_, ?_⟩, ⟨?_, ?_⟩, ⟨?_, ?_⟩, ?_, ?_, ?_, ?_, ?_⟩
  · rw [h0 0 (by decide) (by decide), e 9 (by decide) (by decide)]; exact a0
  · rw [h0 1 (by decide) (by decide), e 10 (by decide) (by decide)]; exact a1
  · rw [h0 2 (by decide) (by decide), e 1 (by decide) (by decide), e 0 (by decide) (by decide)]; exact a2
  · rw [h0 3 (by decide) (by decide), e 2 (by decide) (by decide)]; exact a3
  · rw [h0 4 (by decide) (by decide), e 3 (by decide) (by decide)]; exact a4
  · rw [h0 5 (by decide) (by decide), e 4 (by decide) (by decide)]; exact a5
  · rw [h0 6 (by decide) (by decide), e 5 (by decide) (by decide)]; exact a6
  · rw [h0 7 (by decide) (by decide), e 6 (by decide) (by decide)]; exact a7
  · rw [h0 8 (by decide) (by decide), e 7 (by decide) (by decide)]; exact a8
  · rw [h0 9 (by decide) (by decide), e 8 (by decide) (by decide)]; exact a9
  · rw [h0 10 (by decide) (by decide)]; exact b0
  · intro j j0 j1
    rw [h0 10 (by decide) (by decide), e (21 + j) (by omega) (by omega)]; exact b1 j j0 j1
  · rw [h0 11 (by decide) (by decide)]; exact g0
  · intro j j0 j1
    rw [h0 11 (by decide) (by decide), e (35 + j) (by omega) (by omega)]; exact g1 j j0 j1
  · intro j j0 j1
    rw [h1 j j0 j1, e (15 + j) (by omega) (by omega)]; exact f1 j j0 j1
  · intro j j0 j1
    rw [h2 j j0 j1, e (27 + j) (by omega) (by omega)]; exact f2 j j0 j1
  · intro j j0 j1
    rw [h3 j j0 j1, e (31 + j) (by omega) (by omega)]; exact f3 j j0 j1
  · intro j j0 j1
    rw [h4 j j0 j1, e (43 + j) (by omega) (by omega)]; exact f4 j j0 j1
  · intro j j0 j1
    rw [e 9 (by decide) (by decide)] at j1
    rw [h5 j j0 (by omega), e (51 + 2 * j + 1) (by omega) (by omega), e (51 + 2 * j) (by omega) (by omega)]; exact f5 j j0 j1
theorem tb_bs.e {r s s' : Int → Int} (e : ∀ k, 0 ≤ k → k < 453 → s' k = s k) (c2 : r 112 ≤ 8) (c4 : r 114 ≤ 4) (c7 : r 117 ≤ 4) (h : tb_bs r s) : tb_bs r s' := by
  obtain ⟨⟨a0, a1, a2, a3, a4, a5, a6, a7, a8, a9, a10⟩, b1, b2, b3, b4, b5, b6, b7⟩ := h
  refine ⟨⟨?_, ?_, ?_, ?_, ?_, ?_, ?_, ?_, ?_, ?_, ?_⟩, ?_, ?_, ?_, ?_, ?_, ?_, ?_⟩
  · rw [e 0 (by decide) (by decide)]; exact a0
  · rw [e 1 (by decide) (by decide)]; exact a1
  · rw [e 2 (by decide) (by decide)]; exact a2
  · rw [e 3 (by decide) (by decide), e 9 (by decide) (by decide)]; exact a3
  · rw [e 4 (by decide) (by decide)]; exact a4
  · rw [e 5 (by decide) (by decide)]; exact a5
  · rw [e 6 (by decide) (by decide)]; exact a6
  · rw [e 7 (by decide) (by decide)]; exact a7
  · rw [e 8 (by decide) (by decide)]; exact a8
  · rw [e 9 (by decide) (by decide)]; exact a9
  · rw [e 10 (by decide) (by decide)]; exact a10
  · intro j j0 j1
    rw [e (15 + j) (by omega) (by omega), e (21 + j) (by omega) (by omega)]; exact b1 j j0 j1
  · intro j j0 j1
    rw [e (27 + j) (by omega) (by omega), e (31 + j) (by omega) (by omega)]; exact b2 j j0 j1
  · intro j j0 j1
    rw [e (35 + j) (by omega) (by omega), e (43 + j) (by omega) (by omega)]; exact b3 j j0 j1
  · intro j j0 j1
    rw [e 9 (by decide) (by decide)] at j1
    rw [e (51 + 2 * j + 1) (by omega) (by omega), e (51 + 2 * j) (by omega) (by omega)]; exact b4 j j0 j1
  · rw [e 9 (by decide) (by decide), e 0 (by decide) (by decide), e 1 (by decide) (by decide), e (51 + 2 * s 9) (by omega) (by omega), e (51 + 2 * s 9 + 1) (by omega) (by omega)]; exact b5
  · intro j j0 j1 q
    have w := b2 j j0 (by omega)
    rw [e (27 + j) (by omega) (by omega)] at q
    rw [e (31 + j) (by omega) (by omega), e (35 + s (31 + j)) (by omega) (by omega)]
    exact b6 j j0 j1 q
  · intro j j0 j1
    have g := b7 j j0 j1
    rw [e 9 (by decide) (by decide), e (11 + j) (by omega) (by omega)]
    have nr : ∀ t, 0 ≤ t → t ≤ s 9 → (tb_nr r s' j t ↔ tb_nr r s j t) := by
      intro t t0 t1
      unfold tb_nr
      rw [e (51 + 2 * t + 1) (by omega) (by omega), e (51 + 2 * t) (by omega) (by omega)]
    exact ⟨g.1, fun t p q => (nr t (by omega) q).mpr (g.2.1 t p q), fun p q => g.2.2 p ((nr _ (by omega) (by omega)).mp q)⟩
theorem tb_cp.fr {A' : tb_H} {s x : Nat} (h : tb_cp A A' s x) {S : List Nat} {F : List (Nat × Int)} {P : List Nat} (hs : ∀ o, S.contains o = false → o < s ∨ s + 5 < o) : tb_fr S F P A A' := by
  refine ⟨fun o k a _ => h.2.1 o k (hs o a), fun o k _ => ?_, fun o k _ => ?_⟩
  · rw [show A'.2 = A.2 from h.1]
  · rw [show A'.2 = A.2 from h.1]
end TBIMG
