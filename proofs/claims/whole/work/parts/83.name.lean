/-! READER 6: names -/
section TENAME
variable {X : tb_X} {A B A0 B0 : tb_H} {K : Int → tb_H → Prop} {Kv : tb_H → Prop}
variable {n : Int} {b : Nat} {a0 sort N cs m : Int} {vs rho : Int → Int}
theorem te_w127 : te_ws 127 128 3 := ⟨⟨kd_127, kd_128, by decide, by decide +kernel⟩, by decide, by decide +kernel⟩
theorem te_w141 : te_ws 141 142 6 := ⟨⟨kd_141, kd_142, by decide, by decide +kernel⟩, by decide, by decide +kernel⟩
theorem te_w147 : te_ws 147 148 5 := ⟨⟨kd_147, kd_148, by decide, by decide +kernel⟩, by decide, by decide +kernel⟩
theorem te_w149 : te_ws 149 150 5 := ⟨⟨kd_149, kd_150, by decide, by decide +kernel⟩, by decide, by decide +kernel⟩
theorem te_w151 : te_ws 151 152 6 := ⟨⟨kd_151, kd_152, by decide, by decide +kernel⟩, by decide, by decide +kernel⟩
theorem te_w153 : te_ws 153 154 5 := ⟨⟨kd_153, kd_154, by decide, by decide +kernel⟩, by decide, by decide +kernel⟩
theorem te_w155 : te_ws 155 156 4 := ⟨⟨kd_155, kd_156, by decide, by decide +kernel⟩, by decide, by decide +kernel⟩
theorem te_w157 : te_ws 157 158 4 := ⟨⟨kd_157, kd_158, by decide, by decide +kernel⟩, by decide, by decide +kernel⟩
theorem te_w159 : te_ws 159 160 5 := ⟨⟨kd_159, kd_160, by decide, by decide +kernel⟩, by decide, by decide +kernel⟩
theorem te_w161 : te_ws 161 162 5 := ⟨⟨kd_161, kd_162, by decide, by decide +kernel⟩, by decide, by decide +kernel⟩
theorem te_fst_eq (c : Int) : te_fst te_L c = if te_code (tb_cI 128) 3 = c then 0 else if te_code (tb_cI 142) 6 = c then 1 else if te_code (tb_cI 148) 5 = c then 2 else if te_code (tb_cI 150) 5 = c then 3 else if te_code (tb_cI 152) 6 = c then 4 else if te_code (tb_cI 154) 5 = c then 5 else if te_code (tb_cI 156) 4 = c then 6 else if te_code (tb_cI 158) 4 = c then 7 else if te_code (tb_cI 160) 5 = c then 8 else if te_code (tb_cI 162) 5 = c then 9 else -1 := rfl
theorem te220 (f : B.1 77 13 = 0) (t : B.1 77 6 = 2) {c : Int} (wd : te_wd (B.1 79) (B.1 77 8) c) (h1 : te_fst te_L c = -1 → Kv B) (h2 : te_fst te_L c ≠ -1 → Kv (te_F2 B 1 (B.1 77 4))) : tb_Cv X 220 [tb_r 77] B Kv := by
  refine q220 ?_
  rw [te210 te_w127 f t wd]
  by_cases c0 : c = te_code (tb_cI 128) 3
  · rw [if_pos c0]
    exact ⟨fun _ => ⟨fun q => absurd t q, fun _ => by rw [te211 f]; exact h2 (by rw [c0]; decide +kernel)⟩, fun q => absurd q (by decide)⟩
  rw [if_neg c0]
  refine ⟨fun q => absurd rfl q, fun _ => ?_⟩
  rw [te210 te_w141 f t wd]
  by_cases c1 : c = te_code (tb_cI 142) 6
  · rw [if_pos c1]
    exact ⟨fun _ => ⟨fun q => absurd t q, fun _ => by rw [te211 f]; exact h2 (by rw [c1]; decide +kernel)⟩, fun q => absurd q (by decide)⟩
  rw [if_neg c1]
  refine ⟨fun q => absurd rfl q, fun _ => ?_⟩
  rw [te210 te_w147 f t wd]
  by_cases c2 : c = te_code (tb_cI 148) 5
  · rw [if_pos c2]
    exact ⟨fun _ => ⟨fun q => absurd t q, fun _ => by rw [te211 f]; exact h2 (by rw [c2]; decide +kernel)⟩, fun q => absurd q (by decide)⟩
  rw [if_neg c2]
  refine ⟨fun q => absurd rfl q, fun _ => ?_⟩
  rw [te210 te_w149 f t wd]
  by_cases c3 : c = te_code (tb_cI 150) 5
  · rw [if_pos c3]
    exact ⟨fun _ => ⟨fun q => absurd t q, fun _ => by rw [te211 f]; exact h2 (by rw [c3]; decide +kernel)⟩, fun q => absurd q (by decide)⟩
  rw [if_neg c3]
  refine ⟨fun q => absurd rfl q, fun _ => ?_⟩
  rw [te210 te_w151 f t wd]
  by_cases c4 : c = te_code (tb_cI 152) 6
  · rw [if_pos c4]
    exact ⟨fun _ => ⟨fun q => absurd t q, fun _ => by rw [te211 f]; exact h2 (by rw [c4]; decide +kernel)⟩, fun q => absurd q (by decide)⟩
  rw [if_neg c4]
  refine ⟨fun q => absurd rfl q, fun _ => ?_⟩
  rw [te210 te_w153 f t wd]
  by_cases c5 : c = te_code (tb_cI 154) 5
  · rw [if_pos c5]
    exact ⟨fun _ => ⟨fun q => absurd t q, fun _ => by rw [te211 f]; exact h2 (by rw [c5]; decide +kernel)⟩, fun q => absurd q (by decide)⟩
  rw [if_neg c5]
  refine ⟨fun q => absurd rfl q, fun _ => ?_⟩
  rw [te210 te_w155 f t wd]
  by_cases c6 : c = te_code (tb_cI 156) 4
  · rw [if_pos c6]
    exact ⟨fun _ => ⟨fun q => absurd t q, fun _ => by rw [te211 f]; exact h2 (by rw [c6]; decide +kernel)⟩, fun q => absurd q (by decide)⟩
  rw [if_neg c6]
  refine ⟨fun q => absurd rfl q, fun _ => ?_⟩
  rw [te210 te_w157 f t wd]
  by_cases c7 : c = te_code (tb_cI 158) 4
  · rw [if_pos c7]
    exact ⟨fun _ => ⟨fun q => absurd t q, fun _ => by rw [te211 f]; exact h2 (by rw [c7]; decide +kernel)⟩, fun q => absurd q (by decide)⟩
  rw [if_neg c7]
  refine ⟨fun q => absurd rfl q, fun _ => ?_⟩
  rw [te210 te_w159 f t wd]
  by_cases c8 : c = te_code (tb_cI 160) 5
  · rw [if_pos c8]
    exact ⟨fun _ => ⟨fun q => absurd t q, fun _ => by rw [te211 f]; exact h2 (by rw [c8]; decide +kernel)⟩, fun q => absurd q (by decide)⟩
  rw [if_neg c8]
  refine ⟨fun q => absurd rfl q, fun _ => ?_⟩
  rw [te210 te_w161 f t wd]
  by_cases c9 : c = te_code (tb_cI 162) 5
  · rw [if_pos c9]
    exact ⟨fun q => absurd t q, fun _ => ⟨fun q => absurd q (by decide), fun _ => by rw [te211 f]; exact h2 (by rw [c9]; decide +kernel)⟩⟩
  rw [if_neg c9]
  refine ⟨fun q => absurd t q, fun _ => ⟨fun _ => h1 ?_, fun q => absurd rfl q⟩⟩
  rw [te_fst_eq, if_neg (fun q => c0 q.symm), if_neg (fun q => c1 q.symm), if_neg (fun q => c2 q.symm), if_neg (fun q => c3 q.symm), if_neg (fun q => c4 q.symm), if_neg (fun q => c5 q.symm), if_neg (fun q => c6 q.symm), if_neg (fun q => c7 q.symm), if_neg (fun q => c8 q.symm), if_neg (fun q => c9 q.symm)]
theorem te220n (f : B.1 77 13 = 0) (t : B.1 77 6 ≠ 2) (h : Kv (te_F2 B 1 (B.1 77 4))) : tb_Cv X 220 [tb_r 77] B Kv := by
  refine q220 ?_
  rw [te210f te_w127.1 (Or.inr t)]
  refine ⟨fun q => absurd rfl q, fun _ => ?_⟩
  rw [te210f te_w141.1 (Or.inr t)]
  refine ⟨fun q => absurd rfl q, fun _ => ?_⟩
  rw [te210f te_w147.1 (Or.inr t)]
  refine ⟨fun q => absurd rfl q, fun _ => ?_⟩
  rw [te210f te_w149.1 (Or.inr t)]
  refine ⟨fun q => absurd rfl q, fun _ => ?_⟩
  rw [te210f te_w151.1 (Or.inr t)]
  refine ⟨fun q => absurd rfl q, fun _ => ?_⟩
  rw [te210f te_w153.1 (Or.inr t)]
  refine ⟨fun q => absurd rfl q, fun _ => ?_⟩
  rw [te210f te_w155.1 (Or.inr t)]
  refine ⟨fun q => absurd rfl q, fun _ => ?_⟩
  rw [te210f te_w157.1 (Or.inr t)]
  refine ⟨fun q => absurd rfl q, fun _ => ?_⟩
  rw [te210f te_w159.1 (Or.inr t)]
  refine ⟨fun q => absurd rfl q, fun _ => ?_⟩
  rw [te210f te_w161.1 (Or.inr t)]
  refine ⟨fun _ => ?_, fun q => absurd q t⟩
  rw [te211 f]
  exact h
/-- the first of k names from i on that is c -/
def te_find (cod : Int → Int) (c : Int) : Nat → Int → Int
  | 0, _ => -1
  | k + 1, i => if cod i = c then i else te_find cod c k (i + 1)
theorem te_find_r {cod : Int → Int} {c : Int} : ∀ (k : Nat) (i : Int), te_find cod c k i = -1 ∨ (i ≤ te_find cod c k i ∧ te_find cod c k i < i + k)
  | 0, _ => Or.inl rfl
  | k + 1, i => by
    have e : te_find cod c (k + 1) i = if cod i = c then i else te_find cod c k (i + 1) := rfl
    rw [e]
    by_cases h : cod i = c
    · rw [if_pos h]; exact Or.inr (by omega)
    · rw [if_neg h]
      rcases te_find_r (cod := cod) (c := c) k (i + 1) with q | q
      · exact Or.inl q
      · exact Or.inr (by omega)
theorem te_find_c {cod cod' : Int → Int} {c : Int} : ∀ (k : Nat) (i : Int), (∀ j, i ≤ j → j < i + k → cod j = cod' j) → te_find cod c k i = te_find cod' c k i
  | 0, _, _ => rfl
  | k + 1, i, h => by
    have e : te_find cod c (k + 1) i = if cod i = c then i else te_find cod c k (i + 1) := rfl
    have e' : te_find cod' c (k + 1) i = if cod' i = c then i else te_find cod' c k (i + 1) := rfl
    rw [e, e', h i (by omega) (by omega), te_find_c k (i + 1) (fun j a b => h j (by omega) (by omega))]
theorem te36 (hb : tb_isB b) (n4 : A.1 b 4 = N) (n22 : 0 ≤ N ∧ N ≤ 22) {c : Int} : tb_Ci X 36 [tb_r b, tb_j c] A K = K (if te_find (A.2.1 (b + 3)) c N.toNat 0 = -1 then 0 else 1) A := by
  refine tb_dei (q36 hb ?_)
  have loop : ∀ (k : Nat) (i : Int), i + k = N → 0 ≤ i → tb_E X 36 2 [tb_r b, tb_j c, tb_s 1, tb_i i] [] A (tb_Ri 36 (fun v A' => v = (if te_find (A.2.1 (b + 3)) c k i = -1 then 0 else 1) ∧ A' = A)) := by
    intro k
    induction k with
    | zero =>
      intro i ik i0
      refine q36_2 hb ⟨fun _ => ⟨?_, rfl⟩, fun q => absurd q (by rw [n4]; omega)⟩
      exact (if_pos rfl).symm
    | succ k ih =>
      intro i ik i0
      have e : te_find (A.2.1 (b + 3)) c (k + 1) i = if A.2.1 (b + 3) i = c then i else te_find (A.2.1 (b + 3)) c k (i + 1) := rfl
      refine q36_2 hb ⟨fun q => absurd q (by rw [n4]; omega), fun _ => ⟨fun q => absurd q (by omega), fun _ => ⟨⟨i0, by omega⟩, fun q => ?_, fun q => ?_⟩⟩⟩
      · have q' : ¬ (A.2.1 (b + 3) i = c) := fun z => q (te_lc.mpr z)
        rw [e, if_neg q', tb_w_id (x := i + 1) (by omega) (by omega)]
        exact ih (i + 1) (by omega) (by omega)
      · rw [te_lc] at q
        rw [e, if_pos q, if_neg (by omega)]
        exact ⟨rfl, rfl⟩
  exact loop N.toNat 0 (by omega) (by decide)
theorem te39 (hb : tb_isB b) (n4 : A.1 b 4 = N) (n22 : 0 ≤ N ∧ N ≤ 22) {c : Int} : tb_Ci X 39 [tb_r b, tb_j c] A K = K (if te_find (A.2.1 (b + 3)) c N.toNat 0 = -1 then -1 else A.1 (b + 4) (te_find (A.2.1 (b + 3)) c N.toNat 0)) A := by
  refine tb_dei (q39 hb ?_)
  have loop : ∀ (k : Nat) (i : Int), i + k = N → 0 ≤ i → tb_E X 39 2 [tb_r b, tb_j c, tb_s 1, tb_i i] [] A (tb_Ri 39 (fun v A' => v = (if te_find (A.2.1 (b + 3)) c k i = -1 then -1 else A.1 (b + 4) (te_find (A.2.1 (b + 3)) c k i)) ∧ A' = A)) := by
    intro k
    induction k with
    | zero =>
      intro i ik i0
      refine q39_2 hb ⟨fun _ => ⟨?_, rfl⟩, fun q => absurd q (by rw [n4]; omega)⟩
      exact (if_pos rfl).symm
    | succ k ih =>
      intro i ik i0
      have e : te_find (A.2.1 (b + 3)) c (k + 1) i = if A.2.1 (b + 3) i = c then i else te_find (A.2.1 (b + 3)) c k (i + 1) := rfl
      refine q39_2 hb ⟨fun q => absurd q (by rw [n4]; omega), fun _ => ⟨fun q => absurd q (by omega), fun _ => ⟨fun q => absurd q (by omega), fun _ => ⟨⟨i0, by omega⟩, fun q => ?_, fun q => ⟨⟨i0, by omega⟩, ?_⟩⟩⟩⟩⟩
      · have q' : ¬ (A.2.1 (b + 3) i = c) := fun z => q (te_lc.mpr z)
        rw [e, if_neg q', tb_w_id (x := i + 1) (by omega) (by omega)]
        exact ih (i + 1) (by omega) (by omega)
      · rw [te_lc] at q
        rw [e, if_pos q, if_neg (by omega)]
        exact ⟨rfl, rfl⟩
  exact loop N.toNat 0 (by omega) (by decide)
def te_cod (B : tb_H) (i : Int) : Int := te_code (fun k => B.1 81 (186 + 8 * i + k)) (B.1 81 (164 + i)).toNat
theorem te221 (n119 : B.1 81 119 = N) (n22 : 0 ≤ N ∧ N ≤ 22) (hn : ∀ i, 0 ≤ i → i < N → te_wd (fun k => B.1 81 (186 + 8 * i + k)) (B.1 81 (164 + i)) (te_cod B i)) {c : Int} (wd : te_wd (B.1 79) (B.1 77 8) c) : tb_Ci X 221 [tb_r 77] B K = K (te_find (te_cod B) c N.toNat 0) B := by
  refine tb_dei (q221 ?_)
  have wb := wd.1
  have iff : ∀ i, 0 ≤ i → i < N → (te_cod B i = c ↔ B.1 81 (164 + i) = B.1 77 8 ∧ ∀ k, 0 ≤ k → k < B.1 77 8 → B.1 81 (186 + 8 * i + k) = B.1 79 k) := by
    intro i i0 i1
    have w := hn i i0 i1
    have w1 := w.1
    rw [w.2.2, wd.2.2]
    refine ⟨fun q => ?_, fun q => ?_⟩
    · have u := te_code_u (B.1 81 (164 + i)).toNat (B.1 77 8).toNat (fun k a b => w.2.1 k a (by omega)) (fun k a b => wd.2.1 k a (by omega)) q
      exact ⟨by omega, fun k a b => u.2 k a (by omega)⟩
    · rw [te_code_c (l' := B.1 79) (B.1 81 (164 + i)).toNat (fun k a b => q.2 k a (by omega)), q.1]
  have loop : ∀ (k : Nat) (i : Int) (j2 j3 : tb_V), i + k = N → 0 ≤ i → tb_E X 221 2 [tb_r 77, tb_i i, j2, j3] [] B (tb_Ri 221 (fun v A' => v = te_find (te_cod B) c k i ∧ A' = B)) := by
    intro k
    induction k with
    | zero =>
      intro i j2 j3 ik i0
      exact q221_2 ⟨fun _ => ⟨rfl, rfl⟩, fun q => absurd q (by rw [n119]; omega)⟩
    | succ k ih =>
      intro i j2 j3 ik i0
      have e : te_find (te_cod B) c (k + 1) i = if te_cod B i = c then i else te_find (te_cod B) c k (i + 1) := rfl
      have ii := iff i i0 (by omega)
      refine q221_2 ⟨fun q => absurd q (by rw [n119]; omega), fun _ => ?_⟩
      rw [tb_w_id (x := 164 + i) (by omega) (by omega)]
      refine ⟨⟨by omega, by omega⟩, ?_⟩
      have no : ∀ (j3 : Int), ¬ (te_cod B i = c) → 0 ≤ j3 → tb_E X 221 38 [tb_r 77, tb_i i, tb_i 0, tb_i j3] [] B (tb_Ri 221 (fun v A' => v = te_find (te_cod B) c (k + 1) i ∧ A' = B)) := by
        intro j3 nq j0
        rw [e, if_neg nq]
        refine q221_38 ⟨fun _ => ⟨fun _ => ?_, fun q => absurd rfl q⟩, fun _ => ⟨fun _ => ⟨fun _ => ?_, fun q => absurd rfl q⟩, fun q => absurd rfl q⟩⟩
        · rw [tb_w_id (x := i + 1) (by omega) (by omega)]
          exact ih (i + 1) _ _ (by omega) (by omega)
        · rw [tb_w_id (x := i + 1) (by omega) (by omega)]
          exact ih (i + 1) _ _ (by omega) (by omega)
      by_cases sz : B.1 81 (164 + i) = B.1 77 8
      · rw [if_neg (fun q => q sz)]
        have inner := tb_lp (n := B.1 77 8) (E := fun l => (∀ y, 0 ≤ y → y < l → B.1 81 (186 + 8 * i + y) = B.1 79 y) → tb_E X 221 38 [tb_r 77, tb_i i, tb_i 1, tb_i l] [] B (tb_Ri 221 (fun v A' => v = te_find (te_cod B) c (k + 1) i ∧ A' = B))) (by omega) ?_ ?_
        · exact inner (fun y a b => absurd b (by omega))
        · intro h
          refine q221_38 ⟨fun _ => ⟨fun q => absurd q (by decide), fun _ => ⟨?_, rfl⟩⟩, fun q => absurd q (by omega)⟩
          rw [e, if_pos (ii.mpr ⟨sz, h⟩)]
        · intro l l0 l1 ihl h
          refine q221_38 ⟨fun q => absurd q (by omega), fun _ => ⟨fun q => absurd q (by decide), fun _ => ?_⟩⟩
          rw [tb_w_id (x := 8 * i) (by omega) (by omega), tb_w_id (x := 186 + 8 * i) (by omega) (by omega), tb_w_id (x := 186 + 8 * i + l) (by omega) (by omega), tb_w_id (x := l + 1) (by omega) (by omega)]
          refine ⟨⟨by omega, by omega⟩, ⟨l0, by omega⟩, ?_⟩
          by_cases q : B.1 81 (186 + 8 * i + l) = B.1 79 l
          · rw [if_neg (fun z => z q)]
            refine ihl (fun y y0 y1 => ?_)
            by_cases z : y = l
            · rw [z]; exact q
            · exact h y y0 (by omega)
          · rw [if_pos q]
            exact no (l + 1) (fun z => q ((ii.mp z).2 l l0 l1)) (by omega)
      · rw [if_pos sz]
        exact no 0 (fun z => sz (ii.mp z).1) (by decide)
  exact loop N.toNat 0 _ _ (by omega) (by decide)
theorem te37 (hb : tb_isB b) (n4 : A.1 b 4 = N) (n0 : 0 ≤ N) (n22 : N < 22) {c v : Int} : tb_Cv X 37 [tb_r b, tb_j c, tb_i v] A Kv = Kv (tb_upI (tb_upI (tb_upL A (b + 3) N c) (b + 4) N v) b 4 (N + 1)) := by
  refine tb_dev (q37 hb ⟨fun q => absurd q (by omega), fun _ => ⟨fun q => absurd q (by omega), fun _ => ⟨fun _ => ?_, fun q => absurd q (by omega)⟩⟩⟩)
  have e : (tb_upI (tb_upL A (b + 3) N c) (b + 4) N v).1 b 4 = N := by
    rw [td_upo (by omega)]
    exact n4
  rw [n4, e, tb_w_id (by omega) (by omega)]
end TENAME
