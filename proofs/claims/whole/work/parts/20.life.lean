/-! WHAT STANDS WHERE: the class's small questions about its life, and the reference's loads and leans -/
def tb_load (r s at' : Int → Int) (x : Int) : Int := tb_sum (fun h => if s (15 + h) = 0 ∧ r (33 + h) = x then r (39 + h) else 0) (r 113) + tb_sum (fun f => if s (27 + f) = 0 ∧ at' f = x then r (61 + f) else 0) (r 114)
def tb_lnH (r s : Int → Int) (o m : Int) (h : Int) : Int := if s (15 + h) = 0 then r (39 + h) * (r (o + r (33 + h)) - m) else 0
def tb_lnF (r s at' : Int → Int) (o m : Int) (f : Int) : Int := if s (27 + f) = 0 then r (61 + f) * (r (o + at' f) - m) else 0
def tb_lean (r s at' : Int → Int) (o m : Int) : Int := tb_sum (tb_lnH r s o m) (r 113) + tb_sum (tb_lnF r s at' o m) (r 114)
theorem tb_mulb {a d : Int} (h0 : 0 ≤ a) (h1 : a ≤ 30) (h2 : -9 ≤ d) (h3 : d ≤ 9) : -270 ≤ a * d ∧ a * d ≤ 270 := by
  have e1 : a * d ≤ a * 9 := Int.mul_le_mul_of_nonneg_left h3 h0
  have e2 : a * (-9) ≤ a * d := Int.mul_le_mul_of_nonneg_left h2 h0
  omega
section TBLIFE
variable {X : tb_X} {A : tb_H} {K : Int → tb_H → Prop} {Kv : tb_H → Prop}
theorem e65 (L : tb_L A) {h : Int} (h0 : 0 ≤ h) (h1 : h < 6) : tb_Ci X 65 [tb_r 4, tb_i h] A K = K (A.1 82 (15 + h)) A := by rw [e65g, if_neg (by omega), if_pos h1, L.hf h0 h1]
theorem e69 (L : tb_L A) {h : Int} (h0 : 0 ≤ h) (h1 : h < 4) : tb_Ci X 69 [tb_r 4, tb_i h] A K = K (A.1 82 (27 + h)) A := tb_dei (q69 (by rw [if_neg (by omega), if_pos h1, L.ff h0 h1]; exact ⟨rfl, rfl⟩))
theorem e70 (L : tb_L A) {h : Int} (h0 : 0 ≤ h) (h1 : h < 4) : tb_Ci X 70 [tb_r 4, tb_i h] A K = K (A.1 82 (31 + h)) A := tb_dei (q70 (by rw [if_neg (by omega), if_pos h1, L.ho h0 h1]; exact ⟨rfl, rfl⟩))
theorem e96 (L : tb_L A) {h : Int} (h0 : 0 ≤ h) (h1 : h < 8) : tb_Ci X 96 [tb_r 4, tb_i h] A K = K (A.1 82 (35 + h)) A := tb_dei (q96 (by
  rw [L.gone h0 h1]
  have := (L.s35 h0 h1).1
  refine ⟨?_, rfl⟩
  ((repeat' split) <;> omega)))
theorem e97 (L : tb_L A) {h : Int} (h0 : 0 ≤ h) (h1 : h < 8) : tb_Ci X 97 [tb_r 4, tb_i h] A K = K (A.1 82 (43 + h)) A := tb_dei (q97 (by rw [if_neg (by omega), if_pos h1, L.ba h0 h1]; exact ⟨rfl, rfl⟩))
theorem e101 (L : tb_L A) {h : Int} (h0 : 0 ≤ h) (h1 : h < 6) : tb_Ci X 101 [tb_r 4, tb_i h] A K = K (A.1 82 (21 + h)) A := tb_dei (q101 (by
  rw [L.tie h0 h1]
  have := (L.s15 h0 h1).2
  refine ⟨?_, rfl⟩
  ((repeat' split) <;> omega)))
theorem e64 (L : tb_L A) {h : Int} (h0 : 0 ≤ h) (h1 : h < 6) : tb_Ci X 64 [tb_r 4, tb_i h] A K = K (if h < A.1 80 113 ∧ A.1 82 (15 + h) = 0 then 1 else 0 : Int) A := by
  refine tb_dei (q64 ⟨L.b, ?_⟩)
  simp only [e28_3 L, e65 L h0 h1]
  refine ⟨fun h => ⟨?_, trivial⟩, fun h => ⟨?_, trivial⟩⟩
  · rw [if_neg (by omega)]
  · ((repeat' split) <;> omega)
theorem e68 (L : tb_L A) {h : Int} (h0 : 0 ≤ h) (h1 : h < 4) : tb_Ci X 68 [tb_r 4, tb_i h] A K = K (if h < A.1 80 114 ∧ A.1 82 (27 + h) = 0 then 1 else 0 : Int) A := by
  refine tb_dei (q68 ⟨L.b, ?_⟩)
  simp only [e28_4 L, e69 L h0 h1]
  refine ⟨fun h => ⟨?_, trivial⟩, fun h => ⟨?_, trivial⟩⟩
  · rw [if_neg (by omega)]
  · ((repeat' split) <;> omega)
theorem e66 (L : tb_L A) {h : Int} (h0 : 0 ≤ h) (h1 : h < A.1 80 113) : tb_Ci X 66 [tb_r 4, tb_i h] A K = K (A.1 80 (33 + h)) A := by
  refine tb_dei (q66 ⟨L.b, ?_⟩)
  simp only [e41_30 L h0 h1]
  exact ⟨trivial, trivial⟩
theorem e74 (L : tb_L A) {h : Int} (h0 : 0 ≤ h) (h1 : h < 6) : tb_Ci X 74 [tb_r 4, tb_i h] A K = K (if h < A.1 80 113 ∧ A.1 82 (15 + h) = 0 then A.1 80 (39 + h) else 0 : Int) A := by
  refine tb_dei (q74 ?_)
  simp only [e64 L h0 h1]
  by_cases hc : h < A.1 80 113 ∧ A.1 82 (15 + h) = 0
  · simp only [if_pos hc]
    refine ⟨fun h => absurd h (by decide), fun _ => ⟨L.b, ?_⟩⟩
    simp only [e41_31 L h0 hc.1]
    exact ⟨trivial, trivial⟩
  · simp only [if_neg hc]
    exact ⟨fun _ => ⟨trivial, trivial⟩, fun h => absurd rfl h⟩
theorem e77 (L : tb_L A) {h : Int} (h0 : 0 ≤ h) (h1 : h < 4) : tb_Ci X 77 [tb_r 4, tb_i h] A K = K (if h < A.1 80 114 ∧ A.1 82 (27 + h) = 0 then A.1 80 (61 + h) else 0 : Int) A := by
  refine tb_dei (q77 ?_)
  simp only [e68 L h0 h1]
  by_cases hc : h < A.1 80 114 ∧ A.1 82 (27 + h) = 0
  · simp only [if_pos hc]
    refine ⟨fun h => absurd h (by decide), fun _ => ⟨L.b, ?_⟩⟩
    simp only [e41_41 L h0 hc.1]
    exact ⟨trivial, trivial⟩
  · simp only [if_neg hc]
    exact ⟨fun _ => ⟨trivial, trivial⟩, fun h => absurd rfl h⟩
theorem e76_0 (L : tb_L A) : tb_Ci X 76 [tb_r (A.2.2 4 1), tb_i 0] A K = K (A.1 80 0) A := tb_dei (q76 L.b (by rw [e41_00 L]; exact ⟨rfl, rfl⟩))
theorem e76_1 (L : tb_L A) : tb_Ci X 76 [tb_r (A.2.2 4 1), tb_i 1] A K = K (A.1 80 1) A := tb_dei (q76 L.b (by rw [e41_01 L]; exact ⟨rfl, rfl⟩))
theorem e76_2 (L : tb_L A) : tb_Ci X 76 [tb_r (A.2.2 4 1), tb_i 2] A K = K (A.1 80 2) A := tb_dei (q76 L.b (by rw [e41_02 L]; exact ⟨rfl, rfl⟩))
theorem e76_3 (L : tb_L A) : tb_Ci X 76 [tb_r (A.2.2 4 1), tb_i 3] A K = K (A.1 80 3) A := tb_dei (q76 L.b (by rw [e41_03 L]; exact ⟨rfl, rfl⟩))
theorem e76_4 (L : tb_L A) : tb_Ci X 76 [tb_r (A.2.2 4 1), tb_i 4] A K = K (A.1 80 4) A := tb_dei (q76 L.b (by rw [e41_04 L]; exact ⟨rfl, rfl⟩))
theorem e76_5 (L : tb_L A) : tb_Ci X 76 [tb_r (A.2.2 4 1), tb_i 5] A K = K (A.1 80 5) A := tb_dei (q76 L.b (by rw [e41_05 L]; exact ⟨rfl, rfl⟩))
theorem e75_0 (L : tb_L A) {k : Int} (h0 : 0 ≤ k) (h1 : k < A.1 80 112) : tb_Ci X 75 [tb_r (A.2.2 4 1), tb_i k, tb_i 0] A K = K (A.1 80 (9 + k) - A.1 80 0) A := by
  refine tb_dei (q75 L.b ?_)
  have a := L.v9 h0 h1
  have b := L.v0
  simp only [e41_20 L h0 h1]
  rw [show tb_w (0 + 0) = 0 from rfl, e76_0 L, tb_w_id (by omega) (by omega)]
  exact ⟨rfl, rfl⟩
theorem e75_1 (L : tb_L A) {k : Int} (h0 : 0 ≤ k) (h1 : k < A.1 80 112) : tb_Ci X 75 [tb_r (A.2.2 4 1), tb_i k, tb_i 1] A K = K (A.1 80 (17 + k) - A.1 80 1) A := by
  refine tb_dei (q75 L.b ?_)
  have a := L.v17 h0 h1
  have b := L.v1
  simp only [e41_21 L h0 h1]
  rw [show tb_w (0 + 1) = 1 from rfl, e76_1 L, tb_w_id (by omega) (by omega)]
  exact ⟨rfl, rfl⟩
/-- bounds of what is summed -/
theorem tc_M.lnH0 (L : tc_M A) {o m : Int} (ho : (o = 9 ∧ m = 0) ∨ (o = 17 ∧ m = 1)) {h : Int} (h0 : 0 ≤ h) (h1 : h < A.1 80 113) : -270 ≤ tb_lnH (A.1 80) (A.1 82) o (A.1 80 m) h ∧ tb_lnH (A.1 80) (A.1 82) o (A.1 80 m) h ≤ 270 := by
  unfold tb_lnH
  have a := L.v39 h0 h1
  have s := L.v33 h0 h1
  split
  · refine tb_mulb (by omega) (by omega) ?_ ?_ <;> rcases ho with ⟨rfl, rfl⟩ | ⟨rfl, rfl⟩
    all_goals first
      | (have b := L.v9 s.1 s.2
         have d := L.v0
         omega)
      | (have b := L.v17 s.1 s.2
         have d := L.v1
         omega)
  · omega
theorem tc_M.lnF0 (L : tc_M A) {at' : Int → Int} (ha : ∀ f, 0 ≤ f → f < A.1 80 114 → 0 ≤ at' f ∧ at' f < A.1 80 112) {o m : Int} (ho : (o = 9 ∧ m = 0) ∨ (o = 17 ∧ m = 1)) {h : Int} (h0 : 0 ≤ h) (h1 : h < A.1 80 114) : -270 ≤ tb_lnF (A.1 80) (A.1 82) at' o (A.1 80 m) h ∧ tb_lnF (A.1 80) (A.1 82) at' o (A.1 80 m) h ≤ 270 := by
  unfold tb_lnF
  have a := L.v61 h0 h1
  have s := ha h h0 h1
  split
  · refine tb_mulb (by omega) (by omega) ?_ ?_ <;> rcases ho with ⟨rfl, rfl⟩ | ⟨rfl, rfl⟩
    all_goals first
      | (have b := L.v9 s.1 s.2
         have d := L.v0
         omega)
      | (have b := L.v17 s.1 s.2
         have d := L.v1
         omega)
  · omega
theorem tc_M.sH (L : tc_M A) {o m : Int} (ho : (o = 9 ∧ m = 0) ∨ (o = 17 ∧ m = 1)) {n : Int} (h0 : 0 ≤ n) (h1 : n ≤ A.1 80 113) : -1620 ≤ tb_sum (tb_lnH (A.1 80) (A.1 82) o (A.1 80 m)) n ∧ tb_sum (tb_lnH (A.1 80) (A.1 82) o (A.1 80 m)) n ≤ 1620 := by
  have := L.c113
  have := tb_sum_ab (f := tb_lnH (A.1 80) (A.1 82) o (A.1 80 m)) (N := 6) (c := 270) h0 (by omega) (by decide) (fun i a b => L.lnH0 ho a (by omega))
  omega
theorem tc_M.sF (L : tc_M A) {at' : Int → Int} (ha : ∀ f, 0 ≤ f → f < A.1 80 114 → 0 ≤ at' f ∧ at' f < A.1 80 112) {o m : Int} (ho : (o = 9 ∧ m = 0) ∨ (o = 17 ∧ m = 1)) {n : Int} (h0 : 0 ≤ n) (h1 : n ≤ A.1 80 114) : -1080 ≤ tb_sum (tb_lnF (A.1 80) (A.1 82) at' o (A.1 80 m)) n ∧ tb_sum (tb_lnF (A.1 80) (A.1 82) at' o (A.1 80 m)) n ≤ 1080 := by
  have := L.c114
  have := tb_sum_ab (f := tb_lnF (A.1 80) (A.1 82) at' o (A.1 80 m)) (N := 4) (c := 270) h0 (by omega) (by decide) (fun i a b => L.lnF0 ha ho a (by omega))
  omega
theorem tc_M.at (L : tc_M A) : ∀ f, 0 ≤ f → f < A.1 80 114 → 0 ≤ A.1 82 (31 + f) ∧ A.1 82 (31 + f) < A.1 80 112 := fun f h0 h1 => (L.s27 h0 (by have := L.c114; omega)).2
theorem tc_M.leanB (L : tc_M A) {at' : Int → Int} (ha : ∀ f, 0 ≤ f → f < A.1 80 114 → 0 ≤ at' f ∧ at' f < A.1 80 112) {o m : Int} (ho : (o = 9 ∧ m = 0) ∨ (o = 17 ∧ m = 1)) : -2700 ≤ tb_lean (A.1 80) (A.1 82) at' o (A.1 80 m) ∧ tb_lean (A.1 80) (A.1 82) at' o (A.1 80 m) ≤ 2700 := by
  have a := L.sH ho L.c113.1 (Int.le_refl _)
  have b := L.sF ha ho L.c114.1 (Int.le_refl _)
  unfold tb_lean
  omega
def tb_L.lnH0 (L : tb_L A) := @tc_M.lnH0 A L.M
def tb_L.lnF0 (L : tb_L A) := @tc_M.lnF0 A L.M
def tb_L.sH (L : tb_L A) := @tc_M.sH A L.M
def tb_L.sF (L : tb_L A) := @tc_M.sF A L.M
def tb_L.at (L : tb_L A) := @tc_M.at A L.M
def tb_L.leanB (L : tb_L A) := @tc_M.leanB A L.M
theorem e73_0 (L : tb_L A) : tb_Ci X 73 [tb_r 4, tb_i 0] A K = K (tb_lean (A.1 80) (A.1 82) (fun f => A.1 82 (31 + f)) 9 (A.1 80 0)) A := by
  have c3 := L.c113
  have c4 := L.c114
  refine tb_dei (q73 ?_)
  have sH := L.sH (o := 9) (m := 0) (Or.inl ⟨rfl, rfl⟩) c3.1 (Int.le_refl _)
  have l2 : tb_E X 73 46 [tb_r 4, tb_i 0, tb_i (tb_sum (tb_lnH (A.1 80) (A.1 82) 9 (A.1 80 0)) (A.1 80 113) + tb_sum (tb_lnF (A.1 80) (A.1 82) (fun f => A.1 82 (31 + f)) 9 (A.1 80 0)) 0), tb_i 0] [] A (tb_Ri 73 (fun v' A' => v' = tb_lean (A.1 80) (A.1 82) (fun f => A.1 82 (31 + f)) 9 (A.1 80 0) ∧ A' = A)) := by
    refine tb_lp (E := fun i => tb_E X 73 46 [tb_r 4, tb_i 0, tb_i (tb_sum (tb_lnH (A.1 80) (A.1 82) 9 (A.1 80 0)) (A.1 80 113) + tb_sum (tb_lnF (A.1 80) (A.1 82) (fun f => A.1 82 (31 + f)) 9 (A.1 80 0)) i), tb_i i] [] A (tb_Ri 73 (fun v' A' => v' = tb_lean (A.1 80) (A.1 82) (fun f => A.1 82 (31 + f)) 9 (A.1 80 0) ∧ A' = A))) c4.1 ?_ ?_
    · refine q73_46 ⟨L.b, ?_⟩
      rw [e28_4 L]
      exact ⟨fun _ => ⟨rfl, rfl⟩, fun h => by omega⟩
    · intro i h0 h1 ih
      refine q73_46 ⟨L.b, ?_⟩
      rw [e28_4 L]
      refine ⟨fun h => by omega, fun _ => ?_⟩
      have at' := L.at i h0 h1
      rw [e77 L h0 (by omega)]
      refine ⟨L.b, ?_⟩
      rw [e70 L h0 (by omega), e75_0 L at'.1 at'.2]
      have sF := L.sF (o := 9) (m := 0) L.at (Or.inl ⟨rfl, rfl⟩) (n := i) h0 (by omega)
      have b1 := L.lnF0 (o := 9) (m := 0) L.at (Or.inl ⟨rfl, rfl⟩) h0 h1
      have e : (if i < A.1 80 114 ∧ A.1 82 (27 + i) = 0 then A.1 80 (61 + i) else 0) * (A.1 80 (9 + A.1 82 (31 + i)) - A.1 80 0) = tb_lnF (A.1 80) (A.1 82) (fun f => A.1 82 (31 + f)) 9 (A.1 80 0) i := by
        unfold tb_lnF
        by_cases hc : A.1 82 (27 + i) = 0
        · rw [if_pos ⟨h1, hc⟩, if_pos hc]
        · rw [if_neg (fun q => hc q.2), if_neg hc, Int.zero_mul]
      rw [e, tb_w_id (x := tb_lnF (A.1 80) (A.1 82) (fun f => A.1 82 (31 + f)) 9 (A.1 80 0) i) (by omega) (by omega), tb_w_id (x := i + 1) (by omega) (by omega), tb_w_id (by omega) (by omega), Int.add_assoc, ← tb_sum_s h0]
      exact ih
  rw [tb_sum_0, Int.add_zero] at l2
  have l1 : tb_E X 73 4 [tb_r 4, tb_i 0, tb_i (tb_sum (tb_lnH (A.1 80) (A.1 82) 9 (A.1 80 0)) 0), tb_i 0] [] A (tb_Ri 73 (fun v' A' => v' = tb_lean (A.1 80) (A.1 82) (fun f => A.1 82 (31 + f)) 9 (A.1 80 0) ∧ A' = A)) := by
    refine tb_lp (E := fun i => tb_E X 73 4 [tb_r 4, tb_i 0, tb_i (tb_sum (tb_lnH (A.1 80) (A.1 82) 9 (A.1 80 0)) i), tb_i i] [] A (tb_Ri 73 (fun v' A' => v' = tb_lean (A.1 80) (A.1 82) (fun f => A.1 82 (31 + f)) 9 (A.1 80 0) ∧ A' = A))) c3.1 ?_ ?_
    · refine q73_4 ⟨L.b, ?_⟩
      rw [e28_3 L]
      exact ⟨fun _ => l2, fun h => by omega⟩
    · intro i h0 h1 ih
      refine q73_4 ⟨L.b, ?_⟩
      rw [e28_3 L]
      refine ⟨fun h => by omega, fun _ => ?_⟩
      have at' := L.v33 h0 h1
      rw [e74 L h0 (by omega)]
      refine ⟨L.b, ?_⟩
      rw [e66 L h0 h1, e75_0 L at'.1 at'.2]
      have sH := L.sH (o := 9) (m := 0) (Or.inl ⟨rfl, rfl⟩) (n := i) h0 (by omega)
      have b1 := L.lnH0 (o := 9) (m := 0) (Or.inl ⟨rfl, rfl⟩) h0 h1
      have e : (if i < A.1 80 113 ∧ A.1 82 (15 + i) = 0 then A.1 80 (39 + i) else 0) * (A.1 80 (9 + A.1 80 (33 + i)) - A.1 80 0) = tb_lnH (A.1 80) (A.1 82) 9 (A.1 80 0) i := by
        unfold tb_lnH
        by_cases hc : A.1 82 (15 + i) = 0
        · rw [if_pos ⟨h1, hc⟩, if_pos hc]
        · rw [if_neg (fun q => hc q.2), if_neg hc, Int.zero_mul]
      rw [e, tb_w_id (x := tb_lnH (A.1 80) (A.1 82) 9 (A.1 80 0) i) (by omega) (by omega), tb_w_id (x := i + 1) (by omega) (by omega), tb_w_id (by omega) (by omega), ← tb_sum_s h0]
      exact ih
  exact l1
theorem e73_1 (L : tb_L A) : tb_Ci X 73 [tb_r 4, tb_i 1] A K = K (tb_lean (A.1 80) (A.1 82) (fun f => A.1 82 (31 + f)) 17 (A.1 80 1)) A := by
  have c3 := L.c113
  have c4 := L.c114
  refine tb_dei (q73 ?_)
  have sH := L.sH (o := 17) (m := 1) (Or.inr ⟨rfl, rfl⟩) c3.1 (Int.le_refl _)
  have l2 : tb_E X 73 46 [tb_r 4, tb_i 1, tb_i (tb_sum (tb_lnH (A.1 80) (A.1 82) 17 (A.1 80 1)) (A.1 80 113) + tb_sum (tb_lnF (A.1 80) (A.1 82) (fun f => A.1 82 (31 + f)) 17 (A.1 80 1)) 0), tb_i 0] [] A (tb_Ri 73 (fun v' A' => v' = tb_lean (A.1 80) (A.1 82) (fun f => A.1 82 (31 + f)) 17 (A.1 80 1) ∧ A' = A)) := by
    refine tb_lp (E := fun i => tb_E X 73 46 [tb_r 4, tb_i 1, tb_i (tb_sum (tb_lnH (A.1 80) (A.1 82) 17 (A.1 80 1)) (A.1 80 113) + tb_sum (tb_lnF (A.1 80) (A.1 82) (fun f => A.1 82 (31 + f)) 17 (A.1 80 1)) i), tb_i i] [] A (tb_Ri 73 (fun v' A' => v' = tb_lean (A.1 80) (A.1 82) (fun f => A.1 82 (31 + f)) 17 (A.1 80 1) ∧ A' = A))) c4.1 ?_ ?_
    · refine q73_46 ⟨L.b, ?_⟩
      rw [e28_4 L]
      exact ⟨fun _ => ⟨rfl, rfl⟩, fun h => by omega⟩
    · intro i h0 h1 ih
      refine q73_46 ⟨L.b, ?_⟩
      rw [e28_4 L]
      refine ⟨fun h => by omega, fun _ => ?_⟩
      have at' := L.at i h0 h1
      rw [e77 L h0 (by omega)]
      refine ⟨L.b, ?_⟩
      rw [e70 L h0 (by omega), e75_1 L at'.1 at'.2]
      have sF := L.sF (o := 17) (m := 1) L.at (Or.inr ⟨rfl, rfl⟩) (n := i) h0 (by omega)
      have b1 := L.lnF0 (o := 17) (m := 1) L.at (Or.inr ⟨rfl, rfl⟩) h0 h1
      have e : (if i < A.1 80 114 ∧ A.1 82 (27 + i) = 0 then A.1 80 (61 + i) else 0) * (A.1 80 (17 + A.1 82 (31 + i)) - A.1 80 1) = tb_lnF (A.1 80) (A.1 82) (fun f => A.1 82 (31 + f)) 17 (A.1 80 1) i := by
        unfold tb_lnF
        by_cases hc : A.1 82 (27 + i) = 0
        · rw [if_pos ⟨h1, hc⟩, if_pos hc]
        · rw [if_neg (fun q => hc q.2), if_neg hc, Int.zero_mul]
      rw [e, tb_w_id (x := tb_lnF (A.1 80) (A.1 82) (fun f => A.1 82 (31 + f)) 17 (A.1 80 1) i) (by omega) (by omega), tb_w_id (x := i + 1) (by omega) (by omega), tb_w_id (by omega) (by omega), Int.add_assoc, ← tb_sum_s h0]
      exact ih
  rw [tb_sum_0, Int.add_zero] at l2
  have l1 : tb_E X 73 4 [tb_r 4, tb_i 1, tb_i (tb_sum (tb_lnH (A.1 80) (A.1 82) 17 (A.1 80 1)) 0), tb_i 0] [] A (tb_Ri 73 (fun v' A' => v' = tb_lean (A.1 80) (A.1 82) (fun f => A.1 82 (31 + f)) 17 (A.1 80 1) ∧ A' = A)) := by
    refine tb_lp (E := fun i => tb_E X 73 4 [tb_r 4, tb_i 1, tb_i (tb_sum (tb_lnH (A.1 80) (A.1 82) 17 (A.1 80 1)) i), tb_i i] [] A (tb_Ri 73 (fun v' A' => v' = tb_lean (A.1 80) (A.1 82) (fun f => A.1 82 (31 + f)) 17 (A.1 80 1) ∧ A' = A))) c3.1 ?_ ?_
    · refine q73_4 ⟨L.b, ?_⟩
      rw [e28_3 L]
      exact ⟨fun _ => l2, fun h => by omega⟩
    · intro i h0 h1 ih
      refine q73_4 ⟨L.b, ?_⟩
      rw [e28_3 L]
      refine ⟨fun h => by omega, fun _ => ?_⟩
      have at' := L.v33 h0 h1
      rw [e74 L h0 (by omega)]
      refine ⟨L.b, ?_⟩
      rw [e66 L h0 h1, e75_1 L at'.1 at'.2]
      have sH := L.sH (o := 17) (m := 1) (Or.inr ⟨rfl, rfl⟩) (n := i) h0 (by omega)
      have b1 := L.lnH0 (o := 17) (m := 1) (Or.inr ⟨rfl, rfl⟩) h0 h1
      have e : (if i < A.1 80 113 ∧ A.1 82 (15 + i) = 0 then A.1 80 (39 + i) else 0) * (A.1 80 (17 + A.1 80 (33 + i)) - A.1 80 1) = tb_lnH (A.1 80) (A.1 82) 17 (A.1 80 1) i := by
        unfold tb_lnH
        by_cases hc : A.1 82 (15 + i) = 0
        · rw [if_pos ⟨h1, hc⟩, if_pos hc]
        · rw [if_neg (fun q => hc q.2), if_neg hc, Int.zero_mul]
      rw [e, tb_w_id (x := tb_lnH (A.1 80) (A.1 82) 17 (A.1 80 1) i) (by omega) (by omega), tb_w_id (x := i + 1) (by omega) (by omega), tb_w_id (by omega) (by omega), ← tb_sum_s h0]
      exact ih
  exact l1
/-- a load -/
theorem tc_M.ldH (L : tc_M A) {x n : Int} (h0 : 0 ≤ n) (h1 : n ≤ A.1 80 113) : 0 ≤ tb_sum (fun h => if A.1 82 (15 + h) = 0 ∧ A.1 80 (33 + h) = x then A.1 80 (39 + h) else 0) n ∧ tb_sum (fun h => if A.1 82 (15 + h) = 0 ∧ A.1 80 (33 + h) = x then A.1 80 (39 + h) else 0) n ≤ 180 := by
  have := L.c113
  have := tb_sum_bd (f := fun h => if A.1 82 (15 + h) = 0 ∧ A.1 80 (33 + h) = x then A.1 80 (39 + h) else 0) (N := 6) (c := 30) h0 (by omega) (by decide) (fun i a b => by
    have := L.v39 a (by omega)
    split <;> omega)
  omega
theorem tc_M.ldF (L : tc_M A) {at' : Int → Int} {x n : Int} (h0 : 0 ≤ n) (h1 : n ≤ A.1 80 114) : 0 ≤ tb_sum (fun f => if A.1 82 (27 + f) = 0 ∧ at' f = x then A.1 80 (61 + f) else 0) n ∧ tb_sum (fun f => if A.1 82 (27 + f) = 0 ∧ at' f = x then A.1 80 (61 + f) else 0) n ≤ 120 := by
  have := L.c114
  have := tb_sum_bd (f := fun f => if A.1 82 (27 + f) = 0 ∧ at' f = x then A.1 80 (61 + f) else 0) (N := 4) (c := 30) h0 (by omega) (by decide) (fun i a b => by
    have := L.v61 a (by omega)
    split <;> omega)
  omega
theorem tc_M.ldB (L : tc_M A) {at' : Int → Int} {x : Int} : 0 ≤ tb_load (A.1 80) (A.1 82) at' x ∧ tb_load (A.1 80) (A.1 82) at' x ≤ 300 := by
  have a := L.ldH (x := x) L.c113.1 (Int.le_refl _)
  have b := L.ldF (at' := at') (x := x) L.c114.1 (Int.le_refl _)
  unfold tb_load
  omega
def tb_L.ldH (L : tb_L A) := @tc_M.ldH A L.M
def tb_L.ldF (L : tb_L A) := @tc_M.ldF A L.M
def tb_L.ldB (L : tb_L A) := @tc_M.ldB A L.M
theorem e112 (L : tb_L A) {x : Int} : tb_Ci X 112 [tb_r 4, tb_i x] A K = K (tb_load (A.1 80) (A.1 82) (fun f => A.1 82 (31 + f)) x) A := by
  have c3 := L.c113
  have c4 := L.c114
  refine tb_dei (q112 ?_)
  have sH := L.ldH (x := x) c3.1 (Int.le_refl _)
  have l2 : tb_E X 112 41 [tb_r 4, tb_i x, tb_i (tb_sum (fun h => if A.1 82 (15 + h) = 0 ∧ A.1 80 (33 + h) = x then A.1 80 (39 + h) else 0) (A.1 80 113) + tb_sum (fun f => if A.1 82 (27 + f) = 0 ∧ A.1 82 (31 + f) = x then A.1 80 (61 + f) else 0) 0), tb_i 0] [] A (tb_Ri 112 (fun v' A' => v' = tb_load (A.1 80) (A.1 82) (fun f => A.1 82 (31 + f)) x ∧ A' = A)) := by
    refine tb_lp (E := fun i => tb_E X 112 41 [tb_r 4, tb_i x, tb_i (tb_sum (fun h => if A.1 82 (15 + h) = 0 ∧ A.1 80 (33 + h) = x then A.1 80 (39 + h) else 0) (A.1 80 113) + tb_sum (fun f => if A.1 82 (27 + f) = 0 ∧ A.1 82 (31 + f) = x then A.1 80 (61 + f) else 0) i), tb_i i] [] A (tb_Ri 112 (fun v' A' => v' = tb_load (A.1 80) (A.1 82) (fun f => A.1 82 (31 + f)) x ∧ A' = A))) c4.1 ?_ ?_
    · refine q112_41 ⟨L.b, ?_⟩
      rw [e28_4 L]
      exact ⟨fun _ => ⟨rfl, rfl⟩, fun h => by omega⟩
    · intro i h0 h1 ih
      refine q112_41 ⟨L.b, ?_⟩
      rw [e28_4 L]
      refine ⟨fun h => by omega, fun _ => ?_⟩
      have sF := L.ldF (at' := fun f => A.1 82 (31 + f)) (x := x) (n := i) h0 (by omega)
      have b1 := L.v61 h0 h1
      rw [e70 L h0 (by omega)]
      rw [tb_sum_s h0] at ih
      refine ⟨fun hx => ?_, fun hx => ?_⟩
      · rw [if_neg (fun q => hx q.2), Int.add_zero] at ih
        rw [tb_w_id (x := i + 1) (by omega) (by omega)]
        exact ih
      · rw [e77 L h0 (by omega), tb_w_id (x := i + 1) (by omega) (by omega)]
        have e : (if i < A.1 80 114 ∧ A.1 82 (27 + i) = 0 then A.1 80 (61 + i) else 0) = if A.1 82 (27 + i) = 0 ∧ A.1 82 (31 + i) = x then A.1 80 (61 + i) else 0 := by ((repeat' split) <;> omega)
        rw [e, tb_w_id (by split <;> omega) (by split <;> omega), Int.add_assoc]
        exact ih
  rw [tb_sum_0, Int.add_zero] at l2
  have l1 : tb_E X 112 4 [tb_r 4, tb_i x, tb_i (tb_sum (fun h => if A.1 82 (15 + h) = 0 ∧ A.1 80 (33 + h) = x then A.1 80 (39 + h) else 0) 0), tb_i 0] [] A (tb_Ri 112 (fun v' A' => v' = tb_load (A.1 80) (A.1 82) (fun f => A.1 82 (31 + f)) x ∧ A' = A)) := by
    refine tb_lp (E := fun i => tb_E X 112 4 [tb_r 4, tb_i x, tb_i (tb_sum (fun h => if A.1 82 (15 + h) = 0 ∧ A.1 80 (33 + h) = x then A.1 80 (39 + h) else 0) i), tb_i i] [] A (tb_Ri 112 (fun v' A' => v' = tb_load (A.1 80) (A.1 82) (fun f => A.1 82 (31 + f)) x ∧ A' = A))) c3.1 ?_ ?_
    · refine q112_4 ⟨L.b, ?_⟩
      rw [e28_3 L]
      exact ⟨fun _ => l2, fun h => by omega⟩
    · intro i h0 h1 ih
      refine q112_4 ⟨L.b, ?_⟩
      rw [e28_3 L]
      refine ⟨fun h => by omega, fun _ => ?_⟩
      have sF := L.ldH (x := x) (n := i) h0 (by omega)
      have b1 := L.v39 h0 h1
      rw [e66 L h0 h1]
      rw [tb_sum_s h0] at ih
      refine ⟨fun hx => ?_, fun hx => ?_⟩
      · rw [if_neg (fun q => hx q.2), Int.add_zero] at ih
        rw [tb_w_id (x := i + 1) (by omega) (by omega)]
        exact ih
      · rw [e74 L h0 (by omega), tb_w_id (x := i + 1) (by omega) (by omega)]
        have e : (if i < A.1 80 113 ∧ A.1 82 (15 + i) = 0 then A.1 80 (39 + i) else 0) = if A.1 82 (15 + i) = 0 ∧ A.1 80 (33 + i) = x then A.1 80 (39 + i) else 0 := by ((repeat' split) <;> omega)
        rw [e, tb_w_id (by split <;> omega) (by split <;> omega)]
        exact ih
  exact l1
theorem e267 (L : tc_M A) {x : Int} : tb_Ci X 267 [tb_r 77, tb_i x] A K = K (tb_load (A.1 80) (A.1 82) (fun f => A.1 82 (31 + f)) x) A := by
  have c3 := L.c113
  have c4 := L.c114
  refine tb_dei (q267 ?_)
  have sH := L.ldH (x := x) c3.1 (Int.le_refl _)
  have l2 : tb_E X 267 64 [tb_r 77, tb_i x, tb_i (tb_sum (fun h => if A.1 82 (15 + h) = 0 ∧ A.1 80 (33 + h) = x then A.1 80 (39 + h) else 0) (A.1 80 113) + tb_sum (fun f => if A.1 82 (27 + f) = 0 ∧ A.1 82 (31 + f) = x then A.1 80 (61 + f) else 0) 0), tb_i 0] [] A (tb_Ri 267 (fun v' A' => v' = tb_load (A.1 80) (A.1 82) (fun f => A.1 82 (31 + f)) x ∧ A' = A)) := by
    refine tb_lp (E := fun i => tb_E X 267 64 [tb_r 77, tb_i x, tb_i (tb_sum (fun h => if A.1 82 (15 + h) = 0 ∧ A.1 80 (33 + h) = x then A.1 80 (39 + h) else 0) (A.1 80 113) + tb_sum (fun f => if A.1 82 (27 + f) = 0 ∧ A.1 82 (31 + f) = x then A.1 80 (61 + f) else 0) i), tb_i i] [] A (tb_Ri 267 (fun v' A' => v' = tb_load (A.1 80) (A.1 82) (fun f => A.1 82 (31 + f)) x ∧ A' = A))) c4.1 ?_ ?_
    · exact q267_64 ⟨fun _ => ⟨rfl, rfl⟩, fun h => by omega⟩
    · intro i h0 h1 ih
      have sF := L.ldF (at' := fun f => A.1 82 (31 + f)) (x := x) (n := i) h0 (by omega)
      have b1 := L.v61 h0 h1
      rw [tb_sum_s h0] at ih
      refine q267_64 ⟨fun h => by omega, fun _ => ?_⟩
      rw [tb_w_id (x := i + 1) (by omega) (by omega), tb_w_id (x := 27 + i) (by omega) (by omega), tb_w_id (x := 31 + i) (by omega) (by omega), tb_w_id (x := 61 + i) (by omega) (by omega)]
      refine ⟨by omega, fun hx => ?_, fun hx => ⟨by omega, fun hy => ?_, fun hy => ⟨by omega, ?_⟩⟩⟩
      · rw [if_neg (fun q => hx q.1), Int.add_zero] at ih
        rw [tb_w_id (by omega) (by omega), Int.add_zero]
        exact ih
      · rw [if_neg (fun q => hy q.2), Int.add_zero] at ih
        rw [tb_w_id (by omega) (by omega), Int.add_zero]
        exact ih
      · rw [if_pos ⟨hx, hy⟩] at ih
        rw [tb_w_id (by omega) (by omega), Int.add_assoc]
        exact ih
  rw [tb_sum_0, Int.add_zero] at l2
  have l1 : tb_E X 267 4 [tb_r 77, tb_i x, tb_i (tb_sum (fun h => if A.1 82 (15 + h) = 0 ∧ A.1 80 (33 + h) = x then A.1 80 (39 + h) else 0) 0), tb_i 0] [] A (tb_Ri 267 (fun v' A' => v' = tb_load (A.1 80) (A.1 82) (fun f => A.1 82 (31 + f)) x ∧ A' = A)) := by
    refine tb_lp (E := fun i => tb_E X 267 4 [tb_r 77, tb_i x, tb_i (tb_sum (fun h => if A.1 82 (15 + h) = 0 ∧ A.1 80 (33 + h) = x then A.1 80 (39 + h) else 0) i), tb_i i] [] A (tb_Ri 267 (fun v' A' => v' = tb_load (A.1 80) (A.1 82) (fun f => A.1 82 (31 + f)) x ∧ A' = A))) c3.1 ?_ ?_
    · exact q267_4 ⟨fun _ => l2, fun h => by omega⟩
    · intro i h0 h1 ih
      have sF := L.ldH (x := x) (n := i) h0 (by omega)
      have b1 := L.v39 h0 h1
      rw [tb_sum_s h0] at ih
      refine q267_4 ⟨fun h => by omega, fun _ => ?_⟩
      rw [tb_w_id (x := i + 1) (by omega) (by omega), tb_w_id (x := 15 + i) (by omega) (by omega), tb_w_id (x := 33 + i) (by omega) (by omega), tb_w_id (x := 39 + i) (by omega) (by omega)]
      refine ⟨by omega, fun hx => ?_, fun hx => ⟨by omega, fun hy => ?_, fun hy => ⟨by omega, ?_⟩⟩⟩
      · rw [if_neg (fun q => hx q.1), Int.add_zero] at ih
        rw [tb_w_id (by omega) (by omega), Int.add_zero]
        exact ih
      · rw [if_neg (fun q => hy q.2), Int.add_zero] at ih
        rw [tb_w_id (by omega) (by omega), Int.add_zero]
        exact ih
      · rw [if_pos ⟨hx, hy⟩] at ih
        rw [tb_w_id (by omega) (by omega)]
        exact ih
  exact l1
end TBLIFE
