/-! THE REFERENCE'S LEANS; questions -/
section TBASK
variable {X : tb_X} {A : tb_H} {K : Int → tb_H → Prop} {Kv : tb_H → Prop}
theorem e247_0 (L : tc_M A) {q n : Nat} (hq : tb_kd q = (1, n, [0])) {i : Int} (hi0 : 0 ≤ i) (hi1 : i + A.1 80 114 ≤ n) (hn : (n : Int) ≤ 1000) (ha : ∀ f, 0 ≤ f → f < A.1 80 114 → 0 ≤ A.1 q (i + f) ∧ A.1 q (i + f) < A.1 80 112) : tb_Ci X 247 [tb_r 77, tb_i 0, tb_r q, tb_i i] A K = K (tb_lean (A.1 80) (A.1 82) (fun f => A.1 q (i + f)) 9 (A.1 80 0)) A := by
  have c3 := L.c113
  have c4 := L.c114
  have cs := L.c112
  have sH := L.sH (o := 9) (m := 0) (Or.inl ⟨rfl, rfl⟩) c3.1 (Int.le_refl _)
  have bm := L.v0
  refine tb_dei (q247 hq ?_)
  refine ⟨by decide, ?_⟩
  have l2 : tb_E X 247 110 [tb_r 77, tb_i 0, tb_r q, tb_i i, tb_i 9, tb_i (A.1 80 0), tb_i (tb_sum (tb_lnH (A.1 80) (A.1 82) 9 (A.1 80 0)) (A.1 80 113) + tb_sum (tb_lnF (A.1 80) (A.1 82) (fun f => A.1 q (i + f)) 9 (A.1 80 0)) 0), tb_i 0] [] A (tb_Ri 247 (fun v' A' => v' = tb_lean (A.1 80) (A.1 82) (fun f => A.1 q (i + f)) 9 (A.1 80 0) ∧ A' = A)) := by
    refine tb_lp (E := fun j => tb_E X 247 110 [tb_r 77, tb_i 0, tb_r q, tb_i i, tb_i 9, tb_i (A.1 80 0), tb_i (tb_sum (tb_lnH (A.1 80) (A.1 82) 9 (A.1 80 0)) (A.1 80 113) + tb_sum (tb_lnF (A.1 80) (A.1 82) (fun f => A.1 q (i + f)) 9 (A.1 80 0)) j), tb_i j] [] A (tb_Ri 247 (fun v' A' => v' = tb_lean (A.1 80) (A.1 82) (fun f => A.1 q (i + f)) 9 (A.1 80 0) ∧ A' = A))) c4.1 ?_ ?_
    · exact q247_110 hq ⟨fun _ => ⟨rfl, rfl⟩, fun h => by omega⟩
    · intro j h0 h1 ih
      have sF := L.sF (o := 9) (m := 0) ha (Or.inl ⟨rfl, rfl⟩) (n := j) h0 (by omega)
      have b1 := L.lnF0 (o := 9) (m := 0) ha (Or.inl ⟨rfl, rfl⟩) h0 h1
      have ba := ha j h0 h1
      have bb := L.v9 ba.1 ba.2
      rw [tb_sum_s h0] at ih
      refine q247_110 hq ⟨fun h => by omega, fun _ => ?_⟩
      rw [tb_w_id (x := j + 1) (by omega) (by omega), tb_w_id (x := 27 + j) (by omega) (by omega), tb_w_id (x := 61 + j) (by omega) (by omega), tb_w_id (x := i + j) (by omega) (by omega), tb_w_id (x := 9 + A.1 q (i + j)) (by omega) (by omega), tb_w_id (x := A.1 80 (9 + A.1 q (i + j)) - A.1 80 0) (by omega) (by omega)]
      refine ⟨by omega, fun hx => ?_, fun hx => ⟨by omega, by omega, by omega, ?_⟩⟩
      · unfold tb_lnF at ih
        rw [if_neg hx, Int.add_zero] at ih
        rw [tb_w_id (by omega) (by omega), Int.add_zero]
        exact ih
      · have e : A.1 80 (61 + j) * (A.1 80 (9 + A.1 q (i + j)) - A.1 80 0) = tb_lnF (A.1 80) (A.1 82) (fun f => A.1 q (i + f)) 9 (A.1 80 0) j := by
          unfold tb_lnF
          rw [if_pos hx]
        rw [e, tb_w_id (x := tb_lnF (A.1 80) (A.1 82) (fun f => A.1 q (i + f)) 9 (A.1 80 0) j) (by omega) (by omega), tb_w_id (by omega) (by omega), Int.add_assoc]
        exact ih
  rw [tb_sum_0, Int.add_zero] at l2
  have l1 : tb_E X 247 35 [tb_r 77, tb_i 0, tb_r q, tb_i i, tb_i 9, tb_i (A.1 80 0), tb_i (tb_sum (tb_lnH (A.1 80) (A.1 82) 9 (A.1 80 0)) 0), tb_i 0] [] A (tb_Ri 247 (fun v' A' => v' = tb_lean (A.1 80) (A.1 82) (fun f => A.1 q (i + f)) 9 (A.1 80 0) ∧ A' = A)) := by
    refine tb_lp (E := fun j => tb_E X 247 35 [tb_r 77, tb_i 0, tb_r q, tb_i i, tb_i 9, tb_i (A.1 80 0), tb_i (tb_sum (tb_lnH (A.1 80) (A.1 82) 9 (A.1 80 0)) j), tb_i j] [] A (tb_Ri 247 (fun v' A' => v' = tb_lean (A.1 80) (A.1 82) (fun f => A.1 q (i + f)) 9 (A.1 80 0) ∧ A' = A))) c3.1 ?_ ?_
    · exact q247_35 hq ⟨fun _ => l2, fun h => by omega⟩
    · intro j h0 h1 ih
      have sF := L.sH (o := 9) (m := 0) (Or.inl ⟨rfl, rfl⟩) (n := j) h0 (by omega)
      have b1 := L.lnH0 (o := 9) (m := 0) (Or.inl ⟨rfl, rfl⟩) h0 h1
      have ba := L.v33 h0 h1
      have bb := L.v9 ba.1 ba.2
      rw [tb_sum_s h0] at ih
      refine q247_35 hq ⟨fun h => by omega, fun _ => ?_⟩
      rw [tb_w_id (x := j + 1) (by omega) (by omega), tb_w_id (x := 15 + j) (by omega) (by omega), tb_w_id (x := 39 + j) (by omega) (by omega), tb_w_id (x := 33 + j) (by omega) (by omega), tb_w_id (x := 9 + A.1 80 (33 + j)) (by omega) (by omega), tb_w_id (x := A.1 80 (9 + A.1 80 (33 + j)) - A.1 80 0) (by omega) (by omega)]
      refine ⟨by omega, fun hx => ?_, fun hx => ⟨by omega, by omega, by omega, ?_⟩⟩
      · unfold tb_lnH at ih
        rw [if_neg hx, Int.add_zero] at ih
        rw [tb_w_id (by omega) (by omega), Int.add_zero]
        exact ih
      · have e : A.1 80 (39 + j) * (A.1 80 (9 + A.1 80 (33 + j)) - A.1 80 0) = tb_lnH (A.1 80) (A.1 82) 9 (A.1 80 0) j := by
          unfold tb_lnH
          rw [if_pos hx]
        rw [e, tb_w_id (x := tb_lnH (A.1 80) (A.1 82) 9 (A.1 80 0) j) (by omega) (by omega), tb_w_id (by omega) (by omega)]
        exact ih
  exact l1
theorem e247_1 (L : tc_M A) {q n : Nat} (hq : tb_kd q = (1, n, [0])) {i : Int} (hi0 : 0 ≤ i) (hi1 : i + A.1 80 114 ≤ n) (hn : (n : Int) ≤ 1000) (ha : ∀ f, 0 ≤ f → f < A.1 80 114 → 0 ≤ A.1 q (i + f) ∧ A.1 q (i + f) < A.1 80 112) : tb_Ci X 247 [tb_r 77, tb_i 1, tb_r q, tb_i i] A K = K (tb_lean (A.1 80) (A.1 82) (fun f => A.1 q (i + f)) 17 (A.1 80 1)) A := by
  have c3 := L.c113
  have c4 := L.c114
  have cs := L.c112
  have sH := L.sH (o := 17) (m := 1) (Or.inr ⟨rfl, rfl⟩) c3.1 (Int.le_refl _)
  have bm := L.v1
  refine tb_dei (q247 hq ?_)
  refine ⟨by decide, ?_⟩
  have l2 : tb_E X 247 110 [tb_r 77, tb_i 1, tb_r q, tb_i i, tb_i 17, tb_i (A.1 80 1), tb_i (tb_sum (tb_lnH (A.1 80) (A.1 82) 17 (A.1 80 1)) (A.1 80 113) + tb_sum (tb_lnF (A.1 80) (A.1 82) (fun f => A.1 q (i + f)) 17 (A.1 80 1)) 0), tb_i 0] [] A (tb_Ri 247 (fun v' A' => v' = tb_lean (A.1 80) (A.1 82) (fun f => A.1 q (i + f)) 17 (A.1 80 1) ∧ A' = A)) := by
    refine tb_lp (E := fun j => tb_E X 247 110 [tb_r 77, tb_i 1, tb_r q, tb_i i, tb_i 17, tb_i (A.1 80 1), tb_i (tb_sum (tb_lnH (A.1 80) (A.1 82) 17 (A.1 80 1)) (A.1 80 113) + tb_sum (tb_lnF (A.1 80) (A.1 82) (fun f => A.1 q (i + f)) 17 (A.1 80 1)) j), tb_i j] [] A (tb_Ri 247 (fun v' A' => v' = tb_lean (A.1 80) (A.1 82) (fun f => A.1 q (i + f)) 17 (A.1 80 1) ∧ A' = A))) c4.1 ?_ ?_
    · exact q247_110 hq ⟨fun _ => ⟨rfl, rfl⟩, fun h => by omega⟩
    · intro j h0 h1 ih
      have sF := L.sF (o := 17) (m := 1) ha (Or.inr ⟨rfl, rfl⟩) (n := j) h0 (by omega)
      have b1 := L.lnF0 (o := 17) (m := 1) ha (Or.inr ⟨rfl, rfl⟩) h0 h1
      have ba := ha j h0 h1
      have bb := L.v17 ba.1 ba.2
      rw [tb_sum_s h0] at ih
      refine q247_110 hq ⟨fun h => by omega, fun _ => ?_⟩
      rw [tb_w_id (x := j + 1) (by omega) (by omega), tb_w_id (x := 27 + j) (by omega) (by omega), tb_w_id (x := 61 + j) (by omega) (by omega), tb_w_id (x := i + j) (by omega) (by omega), tb_w_id (x := 17 + A.1 q (i + j)) (by omega) (by omega), tb_w_id (x := A.1 80 (17 + A.1 q (i + j)) - A.1 80 1) (by omega) (by omega)]
      refine ⟨by omega, fun hx => ?_, fun hx => ⟨by omega, by omega, by omega, ?_⟩⟩
      · unfold tb_lnF at ih
        rw [if_neg hx, Int.add_zero] at ih
        rw [tb_w_id (by omega) (by omega), Int.add_zero]
        exact ih
      · have e : A.1 80 (61 + j) * (A.1 80 (17 + A.1 q (i + j)) - A.1 80 1) = tb_lnF (A.1 80) (A.1 82) (fun f => A.1 q (i + f)) 17 (A.1 80 1) j := by
          unfold tb_lnF
          rw [if_pos hx]
        rw [e, tb_w_id (x := tb_lnF (A.1 80) (A.1 82) (fun f => A.1 q (i + f)) 17 (A.1 80 1) j) (by omega) (by omega), tb_w_id (by omega) (by omega), Int.add_assoc]
        exact ih
  rw [tb_sum_0, Int.add_zero] at l2
  have l1 : tb_E X 247 35 [tb_r 77, tb_i 1, tb_r q, tb_i i, tb_i 17, tb_i (A.1 80 1), tb_i (tb_sum (tb_lnH (A.1 80) (A.1 82) 17 (A.1 80 1)) 0), tb_i 0] [] A (tb_Ri 247 (fun v' A' => v' = tb_lean (A.1 80) (A.1 82) (fun f => A.1 q (i + f)) 17 (A.1 80 1) ∧ A' = A)) := by
    refine tb_lp (E := fun j => tb_E X 247 35 [tb_r 77, tb_i 1, tb_r q, tb_i i, tb_i 17, tb_i (A.1 80 1), tb_i (tb_sum (tb_lnH (A.1 80) (A.1 82) 17 (A.1 80 1)) j), tb_i j] [] A (tb_Ri 247 (fun v' A' => v' = tb_lean (A.1 80) (A.1 82) (fun f => A.1 q (i + f)) 17 (A.1 80 1) ∧ A' = A))) c3.1 ?_ ?_
    · exact q247_35 hq ⟨fun _ => l2, fun h => by omega⟩
    · intro j h0 h1 ih
      have sF := L.sH (o := 17) (m := 1) (Or.inr ⟨rfl, rfl⟩) (n := j) h0 (by omega)
      have b1 := L.lnH0 (o := 17) (m := 1) (Or.inr ⟨rfl, rfl⟩) h0 h1
      have ba := L.v33 h0 h1
      have bb := L.v17 ba.1 ba.2
      rw [tb_sum_s h0] at ih
      refine q247_35 hq ⟨fun h => by omega, fun _ => ?_⟩
      rw [tb_w_id (x := j + 1) (by omega) (by omega), tb_w_id (x := 15 + j) (by omega) (by omega), tb_w_id (x := 39 + j) (by omega) (by omega), tb_w_id (x := 33 + j) (by omega) (by omega), tb_w_id (x := 17 + A.1 80 (33 + j)) (by omega) (by omega), tb_w_id (x := A.1 80 (17 + A.1 80 (33 + j)) - A.1 80 1) (by omega) (by omega)]
      refine ⟨by omega, fun hx => ?_, fun hx => ⟨by omega, by omega, by omega, ?_⟩⟩
      · unfold tb_lnH at ih
        rw [if_neg hx, Int.add_zero] at ih
        rw [tb_w_id (by omega) (by omega), Int.add_zero]
        exact ih
      · have e : A.1 80 (39 + j) * (A.1 80 (17 + A.1 80 (33 + j)) - A.1 80 1) = tb_lnH (A.1 80) (A.1 82) 17 (A.1 80 1) j := by
          unfold tb_lnH
          rw [if_pos hx]
        rw [e, tb_w_id (x := tb_lnH (A.1 80) (A.1 82) 17 (A.1 80 1) j) (by omega) (by omega), tb_w_id (by omega) (by omega)]
        exact ih
  exact l1
theorem e246 (L : tc_M A) : tb_Ci X 246 [tb_r 77] A K = K (tb_lean (A.1 80) (A.1 82) (fun f => A.1 82 (31 + f)) 9 (A.1 80 0)) A := tb_dei (q246 (by rw [e247_0 L kd_82 (by decide) (by have := L.c114; show _ ≤ (453 : Int); omega) (by decide) L.at]; exact ⟨rfl, rfl⟩))
theorem e269' (L : tc_M A) : tb_Ci X 247 [tb_r 77, tb_i 1, tb_r 82, tb_i 31] A K = K (tb_lean (A.1 80) (A.1 82) (fun f => A.1 82 (31 + f)) 17 (A.1 80 1)) A := e247_1 L kd_82 (by decide) (by have := L.c114; show _ ≤ (453 : Int); omega) (by decide) L.at
/-- in bounds or not -/
theorem e5f {a b c : Int} (h : b ≤ a ∧ a ≤ c) : tb_Ci X 5 [tb_i a, tb_i b, tb_i c] A K = K 0 A := by rw [e5, if_neg (by omega), if_pos h.2]
theorem e5t {a b c : Int} (h : ¬ (b ≤ a ∧ a ≤ c)) : tb_Ci X 5 [tb_i a, tb_i b, tb_i c] A K = K 1 A := by
  rw [e5]
  by_cases h1 : a < b
  · rw [if_pos h1]
  · rw [if_neg h1, if_neg (by omega)]
theorem e202t {a b c : Int} (h : b ≤ a ∧ a ≤ c) : tb_Ci X 202 [tb_i a, tb_i b, tb_i c] A K = K 1 A := by rw [e202, if_neg (by omega), if_neg (by omega)]
theorem e202f {a b c : Int} (h : ¬ (b ≤ a ∧ a ≤ c)) : tb_Ci X 202 [tb_i a, tb_i b, tb_i c] A K = K 0 A := by
  rw [e202]
  by_cases h1 : a < b
  · rw [if_pos h1]
  · rw [if_neg h1, if_pos (by omega)]
theorem r6z {P Q : tb_H → Prop} (h : P (tb_upI A 0 13 0)) : tb_Ci X 6 [tb_r 0, tb_i 0] A (fun v A' => (v = 0 → P A') ∧ (v ≠ 0 → Q A')) := by rw [e6, if_pos rfl]; exact ⟨fun _ => h, fun h => absurd rfl h⟩
theorem r6n {P Q : tb_H → Prop} {x : Int} (hx : x ≠ 0) (h : Q (tb_upI A 0 13 x)) : tb_Ci X 6 [tb_r 0, tb_i x] A (fun v A' => (v = 0 → P A') ∧ (v ≠ 0 → Q A')) := by rw [e6, if_neg hx]; exact ⟨fun h => absurd h (by decide), fun _ => h⟩
/-- behind the class's refused(k) and the reference's good() -/
abbrev tb_g (A : tb_H) (k : Int) : tb_H := tb_upI (tb_upI (tb_upI A 0 13 k) 77 0 0) 77 11 0
theorem e201g {k : Int} : tb_Cv X 201 [tb_r 77] (tb_upI A 0 13 k) Kv = Kv (tb_g A k) := e201
theorem tb_g14 {k : Int} : (tb_g A k).1 77 14 = A.1 77 14 := by simp [tb_g, tb_uI1]
theorem tb_g80 {k : Int} : (tb_g A k).1 80 = A.1 80 := by funext j; simp [tb_g, tb_uI1]
theorem tb_g82 {k : Int} : (tb_g A k).1 82 = A.1 82 := by funext j; simp [tb_g, tb_uI1]
theorem tb_g7 {k j : Int} (h0 : j ≠ 0) (h1 : j ≠ 11) : (tb_g A k).1 77 j = A.1 77 j := by simp [tb_g, tb_uI1, h0, h1]
theorem tb_gL {k : Int} (L : tb_L A) : tb_L (tb_g A k) := ((L.up rfl).up rfl).up rfl
theorem tb_Rel.g0 (h : tb_Rel A) : tb_Rel (tb_g A 0) := h.q3 (by decide)
theorem tb_Rel.gk (h : tb_Rel A) {k : Int} (hk : k ≠ 4) : tb_Rel (tb_upI (tb_g A k) 77 11 k) := by rw [tb_uu]; exact h.q3 hk
theorem tb_Lu {k : Int} (L : tb_L A) : tb_L (tb_upI A 0 13 k) := L.up rfl
theorem tb_u80 {k : Int} : (tb_upI A 0 13 k).1 80 = A.1 80 := by funext j; simp [tb_uI1]
theorem tb_u82 {k : Int} : (tb_upI A 0 13 k).1 82 = A.1 82 := by funext j; simp [tb_uI1]
theorem tb_u5 {k : Int} : (tb_upI A 0 13 k).1 5 = A.1 5 := by funext j; simp [tb_uI1]
abbrev tb_A2 (X : tb_X) (w' : Nat) (as' : List tb_V) (v : Int) (A1 : tb_H) : Prop := tb_Ci X w' as' A1 (fun v' A2 => v = v' ∧ tb_Rel A2)
theorem c57 (h : tb_Rel A) : tb_Ci X 57 [tb_r 0] A (tb_A2 X 230 [tb_r 77]) := by rw [e57, tb_A2, e230]; exact ⟨h.1.2.2.1, h.q0⟩
theorem c58 (h : tb_Rel A) : tb_Ci X 58 [tb_r 0] A (tb_A2 X 231 [tb_r 77]) := by
  rw [e58, tb_A2, e231]
  refine ⟨?_, h.q0⟩
  rw [h.1.2.1]
  by_cases q : A.1 77 11 = 4
  · rw [if_neg (fun c => c q), if_neg (fun c => c q), h.1.2.2.2 q]
  · rw [if_pos q, if_pos q]
theorem c195 (h : tb_Rel A) : tb_Ci X 195 [tb_r 0] A (tb_A2 X 322 [tb_r 77]) := by rw [e195, tb_A2, e322]; exact ⟨h.1.2.1, h.q0⟩
theorem c106 (h : tb_Rel A) : tb_Ci X 106 [tb_r 0] A (tb_A2 X 258 [tb_r 77]) := by
  refine q106 ?_
  rw [h.told, e6]
  rcases h.t01 with t | t
  · rw [show (if A.1 77 14 ≠ 0 then (0 : Int) else 1) = 1 by rw [t]; rfl]
    refine q258 ?_
    rw [e201g]
    refine ⟨fun _ => ?_, fun q => absurd (tb_g14.trans t) q⟩
    rw [e259]
    exact ⟨rfl, h.gk (by decide)⟩
  · have L := h.L (by rw [t]; decide)
    rw [show (if A.1 77 14 ≠ 0 then (0 : Int) else 1) = 0 by rw [t]; rfl]
    refine q258 ?_
    rw [e201g]
    refine ⟨fun q => absurd (tb_g14.symm.trans q) (by rw [t]; decide), fun _ => ⟨?_, h.g0⟩⟩
    rw [tb_g82]
    exact L.sc0.2.2.2.2.2.2.2.2.2
theorem e109y (L : tb_L A) (t : A.1 0 9 ≠ 0) {s x : Int} (hs0 : 0 ≤ s) (hs1 : s < 9) (hc : A.1 80 (110 + s) ≤ 100) (hx : 0 ≤ x ∧ x < A.1 80 (110 + s)) : tb_Ci X 109 [tb_r 0, tb_i s, tb_i x] A K = K 0 A := by
  refine tb_dei (q109 ⟨fun q => absurd q t, fun _ => ⟨L.b, ?_⟩⟩)
  rw [e28 L hs0 hs1, tb_w_id (by omega) (by omega), e5f (by omega), if_pos rfl]
  exact ⟨rfl, rfl⟩
theorem e109n {s : Int} (hL : A.1 0 9 ≠ 0 → tb_L A ∧ 0 ≤ A.1 80 (110 + s) ∧ A.1 80 (110 + s) ≤ 100) {x : Int} (hs0 : 0 ≤ s) (hs1 : s < 9) (hx : ¬ (A.1 0 9 ≠ 0 ∧ 0 ≤ x ∧ x < A.1 80 (110 + s))) : tb_Ci X 109 [tb_r 0, tb_i s, tb_i x] A K = K 1 A := by
  refine tb_dei (q109 ⟨fun _ => ⟨rfl, rfl⟩, fun t => ⟨(hL t).1.b, ?_⟩⟩)
  have := hL t
  rw [e28 (hL t).1 hs0 hs1, tb_w_id (by omega) (by omega), e5t (fun q => hx ⟨t, by omega, by omega⟩), if_neg (by decide)]
  exact ⟨rfl, rfl⟩
theorem e109y_2 (h : tb_Rel A) {x : Int} (hx : A.1 77 14 ≠ 0 ∧ 0 ≤ x ∧ x < A.1 80 112) : tb_Ci X 109 [tb_r 0, tb_i 2, tb_i x] A K = K 0 A := e109y (h.L hx.1) (by rw [h.told]; exact hx.1) (by decide) (by decide) (by have := (h.L hx.1).c112; show A.1 80 112 ≤ 100; omega) hx.2
theorem e109n_2 (h : tb_Rel A) {x : Int} (hx : ¬ (A.1 77 14 ≠ 0 ∧ 0 ≤ x ∧ x < A.1 80 112)) : tb_Ci X 109 [tb_r 0, tb_i 2, tb_i x] A K = K 1 A := e109n (s := 2) (fun t => ⟨h.L (by rw [← h.told]; exact t), by have := (h.L (by rw [← h.told]; exact t)).c112; show 0 ≤ A.1 80 112 ∧ A.1 80 112 ≤ 100; omega⟩) (by decide) (by decide) (by rw [h.told]; exact hx)
theorem e266y (h : tb_Rel A) {k x : Int} (hx : A.1 77 14 ≠ 0 ∧ 0 ≤ x ∧ x < A.1 80 112) : tb_Ci X 266 [tb_r 77, tb_i x] (tb_g A k) K = K 1 (tb_g A k) := by
  have c := (h.L hx.1).c112
  refine tb_dei (q266 ⟨fun q => absurd (tb_g14.symm.trans q) hx.1, fun _ => ?_⟩)
  rw [tb_g80, tb_w_id (by omega) (by omega), e202t (by omega), if_neg (by decide)]
  exact ⟨rfl, rfl⟩
theorem e266n (h : tb_Rel A) {k x : Int} (hx : ¬ (A.1 77 14 ≠ 0 ∧ 0 ≤ x ∧ x < A.1 80 112)) : tb_Ci X 266 [tb_r 77, tb_i x] (tb_g A k) K = K 0 (tb_g A k) := by
  refine tb_dei (q266 ⟨fun q => ⟨rfl, rfl⟩, fun t => ?_⟩)
  rw [tb_g14] at t
  have c := (h.L t).c112
  rw [tb_g80, tb_w_id (by omega) (by omega), e202f (fun q => hx ⟨t, by omega, by omega⟩), if_pos rfl]
  exact ⟨rfl, rfl⟩
theorem e109y_3 (h : tb_Rel A) {x : Int} (hx : A.1 77 14 ≠ 0 ∧ 0 ≤ x ∧ x < A.1 80 113) : tb_Ci X 109 [tb_r 0, tb_i 3, tb_i x] A K = K 0 A := e109y (h.L hx.1) (by rw [h.told]; exact hx.1) (by decide) (by decide) (by have := (h.L hx.1).c113; show A.1 80 113 ≤ 100; omega) hx.2
theorem e109n_3 (h : tb_Rel A) {x : Int} (hx : ¬ (A.1 77 14 ≠ 0 ∧ 0 ≤ x ∧ x < A.1 80 113)) : tb_Ci X 109 [tb_r 0, tb_i 3, tb_i x] A K = K 1 A := e109n (s := 3) (fun t => ⟨h.L (by rw [← h.told]; exact t), by have := (h.L (by rw [← h.told]; exact t)).c113; show 0 ≤ A.1 80 113 ∧ A.1 80 113 ≤ 100; omega⟩) (by decide) (by decide) (by rw [h.told]; exact hx)
theorem e262y (h : tb_Rel A) {k x : Int} (hx : A.1 77 14 ≠ 0 ∧ 0 ≤ x ∧ x < A.1 80 113) : tb_Ci X 262 [tb_r 77, tb_i x] (tb_g A k) K = K 1 (tb_g A k) := by
  have c := (h.L hx.1).c113
  refine tb_dei (q262 ⟨fun q => absurd (tb_g14.symm.trans q) hx.1, fun _ => ?_⟩)
  rw [tb_g80, tb_w_id (by omega) (by omega), e202t (by omega), if_neg (by decide)]
  exact ⟨rfl, rfl⟩
theorem e262n (h : tb_Rel A) {k x : Int} (hx : ¬ (A.1 77 14 ≠ 0 ∧ 0 ≤ x ∧ x < A.1 80 113)) : tb_Ci X 262 [tb_r 77, tb_i x] (tb_g A k) K = K 0 (tb_g A k) := by
  refine tb_dei (q262 ⟨fun q => ⟨rfl, rfl⟩, fun t => ?_⟩)
  rw [tb_g14] at t
  have c := (h.L t).c113
  rw [tb_g80, tb_w_id (by omega) (by omega), e202f (fun q => hx ⟨t, by omega, by omega⟩), if_pos rfl]
  exact ⟨rfl, rfl⟩
theorem e109y_4 (h : tb_Rel A) {x : Int} (hx : A.1 77 14 ≠ 0 ∧ 0 ≤ x ∧ x < A.1 80 114) : tb_Ci X 109 [tb_r 0, tb_i 4, tb_i x] A K = K 0 A := e109y (h.L hx.1) (by rw [h.told]; exact hx.1) (by decide) (by decide) (by have := (h.L hx.1).c114; show A.1 80 114 ≤ 100; omega) hx.2
theorem e109n_4 (h : tb_Rel A) {x : Int} (hx : ¬ (A.1 77 14 ≠ 0 ∧ 0 ≤ x ∧ x < A.1 80 114)) : tb_Ci X 109 [tb_r 0, tb_i 4, tb_i x] A K = K 1 A := e109n (s := 4) (fun t => ⟨h.L (by rw [← h.told]; exact t), by have := (h.L (by rw [← h.told]; exact t)).c114; show 0 ≤ A.1 80 114 ∧ A.1 80 114 ≤ 100; omega⟩) (by decide) (by decide) (by rw [h.told]; exact hx)
theorem e264y (h : tb_Rel A) {k x : Int} (hx : A.1 77 14 ≠ 0 ∧ 0 ≤ x ∧ x < A.1 80 114) : tb_Ci X 264 [tb_r 77, tb_i x] (tb_g A k) K = K 1 (tb_g A k) := by
  have c := (h.L hx.1).c114
  refine tb_dei (q264 ⟨fun q => absurd (tb_g14.symm.trans q) hx.1, fun _ => ?_⟩)
  rw [tb_g80, tb_w_id (by omega) (by omega), e202t (by omega), if_neg (by decide)]
  exact ⟨rfl, rfl⟩
theorem e264n (h : tb_Rel A) {k x : Int} (hx : ¬ (A.1 77 14 ≠ 0 ∧ 0 ≤ x ∧ x < A.1 80 114)) : tb_Ci X 264 [tb_r 77, tb_i x] (tb_g A k) K = K 0 (tb_g A k) := by
  refine tb_dei (q264 ⟨fun q => ⟨rfl, rfl⟩, fun t => ?_⟩)
  rw [tb_g14] at t
  have c := (h.L t).c114
  rw [tb_g80, tb_w_id (by omega) (by omega), e202f (fun q => hx ⟨t, by omega, by omega⟩), if_pos rfl]
  exact ⟨rfl, rfl⟩
/-- the reference's refusal, behind good() -/
theorem tb_no (h : tb_Rel A) {k : Int} (hk : k ≠ 4) : tb_Ci X 203 [tb_r 77, tb_i k] (tb_g A k) (fun v' A2 => -1 = v' ∧ tb_Rel A2) := by rw [e203]; exact ⟨rfl, h.gk hk⟩
theorem tb_nt (h : tb_Rel A) {k : Int} (hk : k ≠ 4) : tb_Ci X 233 [tb_r 77, tb_i k] (tb_g A k) (fun v' A2 => (v' = 0 ∨ v' = 1) ∧ 0 = v' ∧ tb_Rel A2) := by rw [e233]; exact ⟨Or.inl rfl, rfl, h.gk hk⟩
theorem c105 (h : tb_Rel A) {x : Int} : tb_Ci X 105 [tb_r 0, tb_i x] A (tb_A2 X 257 [tb_r 77, tb_i x]) := by
  rcases h.t01 with t | t
  · refine q105 ⟨fun _ => r6n (by decide) ?_, fun q => absurd (h.told.trans t) q⟩
    refine q257 ?_
    rw [e201g]
    exact ⟨fun _ => tb_no h (by decide), fun q => absurd (tb_g14.trans t) q⟩
  · have L := h.L (by rw [t]; decide)
    have t0 : A.1 77 14 ≠ 0 := by rw [t]; decide
    refine q105 ⟨fun q => absurd (h.told.symm.trans q) t0, fun _ => ?_⟩
    by_cases hx : 0 ≤ x ∧ x ≤ 7
    · rw [e5f hx, if_pos rfl]
      have b := L.s0
      have g : tb_A2 X 257 [tb_r 77, tb_i x] (A.1 82 x) (tb_upI A 0 13 0) := by
        refine q257 ?_
        rw [e201g]
        refine ⟨fun q => absurd (tb_g14.symm.trans q) t0, fun _ => ?_⟩
        rw [e202t hx]
        exact ⟨fun q => absurd q (by decide), fun _ => ⟨by omega, by rw [tb_g82], h.g0⟩⟩
      have s := L.sc0
      refine r6z ⟨fun e => ?_, fun e => ?_, fun e => ?_, fun e => ?_, fun e => ?_, fun e => ?_, fun e => ?_, fun e => ?_⟩
      · rw [tb_u5, e82 (by omega), s.2.2.1, show (A.1 82 1 * 10 + A.1 82 0) % 10 = A.1 82 x by rw [e]; omega]; exact g
      · rw [tb_u5, e83 (by omega) (by omega), s.2.2.1, show (A.1 82 1 * 10 + A.1 82 0) / 10 = A.1 82 x by rw [e]; omega]; exact g
      · rw [tb_u5, s.2.2.2.1, ← e]; exact g
      · rw [tb_u5, s.2.2.2.2.1, ← e]; exact g
      · rw [tb_u5, s.2.2.2.2.2.1, ← e]; exact g
      · rw [tb_u5, s.2.2.2.2.2.2.1, ← e]; exact g
      · rw [tb_u5, s.2.2.2.2.2.2.2.1, ← e]; exact g
      · rw [tb_u5, s.2.2.2.2.2.2.2.2.1, show (7 : Int) = x by omega]; exact g
    · rw [e5t hx, if_neg (by decide)]
      refine r6n (by decide) ?_
      refine q257 ?_
      rw [e201g]
      refine ⟨fun _ => tb_no h (by decide), fun _ => ?_⟩
      rw [e202f hx]
      exact ⟨fun _ => tb_no h (by decide), fun q => absurd rfl q⟩
theorem c107 (h : tb_Rel A) {x y : Int} : tb_Ci X 107 [tb_r 0, tb_i x, tb_i y] A (tb_A2 X 260 [tb_r 77, tb_i x, tb_i y]) := by
  rcases h.t01 with t | t
  · refine q107 ⟨fun _ => r6n (by decide) ?_, fun q => absurd (h.told.trans t) q⟩
    refine q260 ?_
    rw [e201g]
    exact ⟨fun _ => tb_no h (by decide), fun q => absurd (tb_g14.trans t) q⟩
  · have L := h.L (by rw [t]; decide)
    have t0 : A.1 77 14 ≠ 0 := by rw [t]; decide
    refine q107 ⟨fun q => absurd (h.told.symm.trans q) t0, fun _ => ?_⟩
    rw [L.sc0.1]
    have b := L.s0.2.2.2.2.2.2.2.2.2
    by_cases hx : 0 ≤ x ∧ x ≤ A.1 82 9
    · rw [e5f hx]
      refine ⟨fun q => absurd rfl q, fun _ => ?_⟩
      have l := L.lg hx.1 hx.2
      have lb := L.s51 hx.1 hx.2
      by_cases hy : 0 ≤ y ∧ y ≤ 1
      · rw [e5f hy, if_pos rfl]
        refine r6z ?_
        rw [e104 hx.1 (by omega), show (tb_upI A 0 13 0).1 10 x = A.1 10 x by simp [tb_uI1], l]
        have g : tb_A2 X 260 [tb_r 77, tb_i x, tb_i y] (A.1 82 (51 + 2 * x + y)) (tb_upI A 0 13 0) := by
          refine q260 ?_
          rw [e201g]
          refine ⟨fun q => absurd (tb_g14.symm.trans q) t0, fun _ => ?_⟩
          rw [tb_g82, e202t hx]
          refine ⟨fun q => absurd q (by decide), fun _ => ?_⟩
          rw [e202t hy]
          refine ⟨fun q => absurd q (by decide), fun _ => ?_⟩
          rw [tb_w_id (x := 2 * x) (by omega) (by omega), tb_w_id (x := 51 + 2 * x) (by omega) (by omega), tb_w_id (x := 51 + 2 * x + y) (by omega) (by omega)]
          exact ⟨by omega, by rw [tb_g82], h.g0⟩
        refine ⟨fun e => ?_, fun e => ?_⟩
        · rw [e83 (by omega) (by omega), show (A.1 82 (51 + 2 * x + 1) * 10 + A.1 82 (51 + 2 * x)) / 10 = A.1 82 (51 + 2 * x + y) by rw [show y = 1 by omega]; omega]; exact g
        · rw [e82 (by omega), show (A.1 82 (51 + 2 * x + 1) * 10 + A.1 82 (51 + 2 * x)) % 10 = A.1 82 (51 + 2 * x + y) by rw [e, Int.add_zero]; omega]; exact g
      · rw [e5t hy, if_neg (by decide)]
        refine r6n (by decide) ?_
        refine q260 ?_
        rw [e201g]
        refine ⟨fun _ => tb_no h (by decide), fun _ => ?_⟩
        rw [tb_g82, e202t hx]
        refine ⟨fun q => absurd q (by decide), fun _ => ?_⟩
        rw [e202f hy]
        exact ⟨fun _ => tb_no h (by decide), fun q => absurd rfl q⟩
    · rw [e5t hx]
      refine ⟨fun _ => r6n (by decide) ?_, fun q => absurd q (by decide)⟩
      refine q260 ?_
      rw [e201g]
      refine ⟨fun _ => tb_no h (by decide), fun _ => ?_⟩
      rw [tb_g82, e202f hx]
      exact ⟨fun _ => tb_no h (by decide), fun q => absurd rfl q⟩
theorem c108 (h : tb_Rel A) {x y : Int} : tb_Ci X 108 [tb_r 0, tb_i x, tb_i y] A (tb_A2 X 261 [tb_r 77, tb_i x, tb_i y]) := by
  refine q108 ?_
  by_cases hx : A.1 77 14 ≠ 0 ∧ 0 ≤ x ∧ x < A.1 80 113
  · have L := h.L hx.1
    have c := L.c113
    have b := L.s15 hx.2.1 (by omega)
    rw [e109y_3 h hx]
    refine ⟨fun q => absurd rfl q, fun _ => ?_⟩
    by_cases hy : 0 ≤ y ∧ y ≤ 1
    · rw [e5f hy, if_pos rfl]
      refine r6z ⟨fun e => ?_, fun e => ?_⟩
      · rw [e101 (tb_Lu L) hx.2.1 (by omega), tb_u82, show (if A.1 82 (21 + x) = 0 then (0 : Int) else 1) = A.1 82 (21 + x) by ((repeat' split) <;> omega)]
        refine q261 ?_
        rw [e201g, e262y h hx]
        refine ⟨fun q => absurd q (by decide), fun _ => ?_⟩
        rw [e202t hy, if_pos e, tb_w_id (x := 21 + x) (by omega) (by omega)]
        exact ⟨fun q => absurd q (by decide), fun _ => ⟨by omega, by rw [tb_g82], h.g0⟩⟩
      · rw [e65 (tb_Lu L) hx.2.1 (by omega), tb_u82]
        refine q261 ?_
        rw [e201g, e262y h hx]
        refine ⟨fun q => absurd q (by decide), fun _ => ?_⟩
        rw [e202t hy, if_neg (fun q => q e), tb_w_id (x := 15 + x) (by omega) (by omega)]
        exact ⟨fun q => absurd q (by decide), fun _ => ⟨by omega, by rw [tb_g82], h.g0⟩⟩
    · rw [e5t hy, if_neg (by decide)]
      refine r6n (by decide) ?_
      refine q261 ?_
      rw [e201g, e262y h hx]
      refine ⟨fun q => absurd q (by decide), fun _ => ?_⟩
      rw [e202f hy]
      exact ⟨fun _ => tb_no h (by decide), fun q => absurd rfl q⟩
  · rw [e109n_3 h hx]
    refine ⟨fun _ => r6n (by decide) ?_, fun q => absurd q (by decide)⟩
    refine q261 ?_
    rw [e201g, e262n h hx]
    exact ⟨fun _ => tb_no h (by decide), fun q => absurd rfl q⟩
theorem c110 (h : tb_Rel A) {x y : Int} : tb_Ci X 110 [tb_r 0, tb_i x, tb_i y] A (tb_A2 X 263 [tb_r 77, tb_i x, tb_i y]) := by
  refine q110 ?_
  by_cases hx : A.1 77 14 ≠ 0 ∧ 0 ≤ x ∧ x < A.1 80 114
  · have L := h.L hx.1
    have c := L.c114
    have b := L.s27 hx.2.1 (by omega)
    rw [e109y_4 h hx]
    refine ⟨fun q => absurd rfl q, fun _ => ?_⟩
    by_cases hy : 0 ≤ y ∧ y ≤ 1
    · rw [e5f hy, if_pos rfl]
      refine r6z ⟨fun e => ?_, fun e => ?_⟩
      · rw [e70 (tb_Lu L) hx.2.1 (by omega), tb_u82]
        refine q263 ?_
        rw [e201g, e264y h hx]
        refine ⟨fun q => absurd q (by decide), fun _ => ?_⟩
        rw [e202t hy, if_pos e, tb_w_id (x := 31 + x) (by omega) (by omega)]
        exact ⟨fun q => absurd q (by decide), fun _ => ⟨by omega, by rw [tb_g82], h.g0⟩⟩
      · rw [e69 (tb_Lu L) hx.2.1 (by omega), tb_u82]
        refine q263 ?_
        rw [e201g, e264y h hx]
        refine ⟨fun q => absurd q (by decide), fun _ => ?_⟩
        rw [e202t hy, if_neg (fun q => q e), tb_w_id (x := 27 + x) (by omega) (by omega)]
        exact ⟨fun q => absurd q (by decide), fun _ => ⟨by omega, by rw [tb_g82], h.g0⟩⟩
    · rw [e5t hy, if_neg (by decide)]
      refine r6n (by decide) ?_
      refine q263 ?_
      rw [e201g, e264y h hx]
      refine ⟨fun q => absurd q (by decide), fun _ => ?_⟩
      rw [e202f hy]
      exact ⟨fun _ => tb_no h (by decide), fun q => absurd rfl q⟩
  · rw [e109n_4 h hx]
    refine ⟨fun _ => r6n (by decide) ?_, fun q => absurd q (by decide)⟩
    refine q263 ?_
    rw [e201g, e264n h hx]
    exact ⟨fun _ => tb_no h (by decide), fun q => absurd rfl q⟩
theorem c111 (h : tb_Rel A) {x y : Int} : tb_Ci X 111 [tb_r 0, tb_i x, tb_i y] A (tb_A2 X 265 [tb_r 77, tb_i x, tb_i y]) := by
  refine q111 ?_
  by_cases hx : A.1 77 14 ≠ 0 ∧ 0 ≤ x ∧ x < A.1 80 112
  · have L := h.L hx.1
    have c := L.c112
    have b := L.s35 hx.2.1 (by omega)
    rw [e109y_2 h hx]
    refine ⟨fun q => absurd rfl q, fun _ => ?_⟩
    by_cases hy : 0 ≤ y ∧ y ≤ 2
    · rw [e5f hy, if_pos rfl]
      refine r6z ⟨fun e => ⟨fun e1 => ?_, fun e1 => ?_⟩, fun e => ?_⟩
      · rw [e97 (tb_Lu L) hx.2.1 (by omega), tb_u82]
        refine q265 ?_
        rw [e201g, e266y h hx]
        refine ⟨fun q => absurd q (by decide), fun _ => ?_⟩
        rw [e202t hy, if_pos e, tb_w_id (x := 43 + x) (by omega) (by omega)]
        exact ⟨fun _ => ⟨fun _ => ⟨by omega, by rw [tb_g82], h.g0⟩, fun q => absurd q e1⟩, fun q => absurd q (by decide)⟩
      · rw [e112 (tb_Lu L), tb_u82, tb_u80]
        refine q265 ?_
        rw [e201g, e266y h hx]
        refine ⟨fun q => absurd q (by decide), fun _ => ?_⟩
        rw [e202t hy]
        refine ⟨fun _ => ⟨fun q => absurd e1 q, fun _ => ?_⟩, fun q => absurd q (by decide)⟩
        rw [e267 (tb_gL L).M, tb_g80, tb_g82]
        exact ⟨rfl, h.g0⟩
      · rw [e96 (tb_Lu L) hx.2.1 (by omega), tb_u82, show (if A.1 82 (35 + x) = 0 then (0 : Int) else 1) = A.1 82 (35 + x) by ((repeat' split) <;> omega)]
        refine q265 ?_
        rw [e201g, e266y h hx]
        refine ⟨fun q => absurd q (by decide), fun _ => ?_⟩
        rw [e202t hy, if_neg (fun q => q e), tb_w_id (x := 35 + x) (by omega) (by omega)]
        exact ⟨fun _ => ⟨fun _ => ⟨by omega, by rw [tb_g82], h.g0⟩, fun q => by omega⟩, fun q => absurd q (by decide)⟩
    · rw [e5t hy, if_neg (by decide)]
      refine r6n (by decide) ?_
      refine q265 ?_
      rw [e201g, e266y h hx]
      refine ⟨fun q => absurd q (by decide), fun _ => ?_⟩
      rw [e202f hy]
      exact ⟨fun q => absurd rfl q, fun _ => tb_no h (by decide)⟩
  · rw [e109n_2 h hx]
    refine ⟨fun _ => r6n (by decide) ?_, fun q => absurd q (by decide)⟩
    refine q265 ?_
    rw [e201g, e266n h hx]
    exact ⟨fun _ => tb_no h (by decide), fun q => absurd rfl q⟩
theorem c113 (h : tb_Rel A) : tb_Ci X 113 [tb_r 0] A (tb_A2 X 268 [tb_r 77]) := by
  refine q113 ?_
  rw [h.told, e6]
  rcases h.t01 with t | t
  · rw [show (if A.1 77 14 ≠ 0 then (0 : Int) else 1) = 1 by rw [t]; rfl]
    refine ⟨fun q => absurd q (by decide), fun _ => ?_⟩
    refine q268 ?_
    rw [e201g]
    refine ⟨fun _ => ?_, fun q => absurd (tb_g14.trans t) q⟩
    rw [e259]
    exact ⟨rfl, h.gk (by decide)⟩
  · have L := h.L (by rw [t]; decide)
    rw [show (if A.1 77 14 ≠ 0 then (0 : Int) else 1) = 0 by rw [t]; rfl]
    refine ⟨fun _ => ?_, fun q => absurd rfl q⟩
    rw [e73_0 (tb_Lu L), tb_u80, tb_u82]
    refine q268 ?_
    rw [e201g]
    refine ⟨fun q => absurd (tb_g14.symm.trans q) (by rw [t]; decide), fun _ => ?_⟩
    rw [e246 (tb_gL L).M, tb_g80, tb_g82]
    exact ⟨rfl, h.g0⟩
theorem c114 (h : tb_Rel A) : tb_Ci X 114 [tb_r 0] A (tb_A2 X 269 [tb_r 77]) := by
  refine q114 ?_
  rw [h.told, e6]
  rcases h.t01 with t | t
  · rw [show (if A.1 77 14 ≠ 0 then (0 : Int) else 1) = 1 by rw [t]; rfl]
    refine ⟨fun q => absurd q (by decide), fun _ => ?_⟩
    refine q269 ?_
    rw [e201g]
    refine ⟨fun _ => ?_, fun q => absurd (tb_g14.trans t) q⟩
    rw [e259]
    exact ⟨rfl, h.gk (by decide)⟩
  · have L := h.L (by rw [t]; decide)
    rw [show (if A.1 77 14 ≠ 0 then (0 : Int) else 1) = 0 by rw [t]; rfl]
    refine ⟨fun _ => ?_, fun q => absurd rfl q⟩
    rw [e73_1 (tb_Lu L), tb_u80, tb_u82]
    refine q269 ?_
    rw [e201g]
    refine ⟨fun q => absurd (tb_g14.symm.trans q) (by rw [t]; decide), fun _ => ?_⟩
    rw [e269' (tb_gL L).M, tb_g80, tb_g82]
    exact ⟨rfl, h.g0⟩
end TBASK
