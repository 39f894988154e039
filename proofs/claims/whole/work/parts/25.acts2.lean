/-! ACTS, the calls -/
section TBACTS2
variable {X : tb_X} {A D : tb_H} {K : Int → tb_H → Prop} {Kv : tb_H → Prop}
theorem sp273 {x1 x2 x3 : Int} (hn : 0 ≤ A.1 77 23 ∧ A.1 77 23 ≤ 30) (k : ∀ (A' : tb_H) (d : Int), ((d = 0 ∧ A.1 77 23 < 30) ∨ (d = 1 ∧ A.1 77 23 = 30)) → tb_fr [84, 85, 86] [(77, 23)] [] A A' → A'.1 77 23 = A.1 77 23 + 1 - d → (∀ j, 0 ≤ j → j < A.1 77 23 - d → A'.1 84 j = A.1 84 (j + d) ∧ A'.1 85 j = A.1 85 (j + d) ∧ A'.1 86 j = A.1 86 (j + d)) → (A'.1 84 (A.1 77 23 - d) = x1 ∧ A'.1 85 (A.1 77 23 - d) = x2 ∧ A'.1 86 (A.1 77 23 - d) = x3) → K 1 A') : tb_Ci X 273 [tb_r 77, tb_i x1, tb_i x2, tb_i x3] A K := by
  refine q273 ⟨fun h => ⟨by omega, by omega, by omega, ?_⟩, fun h => ?_⟩
  · refine k _ 0 (Or.inl ⟨rfl, by omega⟩) (tb_fr.upI (tb_fr.upI (tb_fr.upI (tb_fr.upI tb_fr.refl rfl) rfl) rfl) rfl) ?_ ?_ ?_
    · rw [tb_uI_s, tb_w_id (by omega) (by omega)]; omega
    · intro j j0 j1
      rw [Int.add_zero]
      simp only [tb_uI1]
      have : j ≠ A.1 77 23 := by omega
      simp [this]
    · rw [Int.sub_zero]
      simp [tb_uI1]
  · have key := tb_lm (n := 30) (m := 1) (E := fun i => ∀ A' : tb_H, tb_fr [84, 85, 86] [] [] A A' → (∀ j, A'.1 84 j = (if 0 ≤ j ∧ j < i - 1 then A.1 84 (j + 1) else A.1 84 j) ∧ A'.1 85 j = (if 0 ≤ j ∧ j < i - 1 then A.1 85 (j + 1) else A.1 85 j) ∧ A'.1 86 j = (if 0 ≤ j ∧ j < i - 1 then A.1 86 (j + 1) else A.1 86 j)) → tb_E X 273 12 [tb_r 77, tb_i x1, tb_i x2, tb_i x3, tb_i i] [] A' (tb_Ri 273 K)) ?_ ?_ 29 1 (by decide) (by decide)
    · exact key A tb_fr.refl (fun j => by
        rw [if_neg (by omega), if_neg (by omega), if_neg (by omega)]
        exact ⟨rfl, rfl, rfl⟩)
    · intro A' hf hj
      have e : A'.1 77 23 = 30 := (hf.1 77 23 rfl rfl).trans h
      refine q273_12 ⟨fun _ => ?_, fun q => by omega⟩
      rw [e, show tb_w (30 - 1) = 29 from rfl, show tb_w (29 + 1) = 30 from rfl]
      refine ⟨by decide, by decide, by decide, ?_⟩
      refine k _ 1 (Or.inr ⟨rfl, h⟩) (tb_fr.upI (tb_fr.upI (tb_fr.upI (tb_fr.upI (tb_fr.upI (hf.mono rfl rfl rfl) rfl) rfl) rfl) rfl) rfl) ?_ ?_ ?_
      · rw [tb_uI_s, h]; rfl
      · intro j j0 j1
        rw [h] at j1
        have g := hj j
        rw [if_pos (by omega), if_pos (by omega), if_pos (by omega)] at g
        simp only [tb_uI1]
        have : j ≠ 29 := by omega
        simp [this, g]
      · rw [h, show (30 - 1 : Int) = 29 from rfl]
        simp [tb_uI1]
    · intro i i0 i1 ih A' hf hj
      refine q273_12 ⟨fun q => by omega, fun _ => ?_⟩
      rw [tb_w_id (x := i - 1) (by omega) (by omega), tb_w_id (x := i + 1) (by omega) (by omega)]
      refine ⟨by omega, by omega, by omega, by omega, by omega, by omega, ?_⟩
      refine ih _ (tb_fr.upI (tb_fr.upI (tb_fr.upI hf rfl) rfl) rfl) ?_
      intro j
      have g := hj j
      have gi := hj i
      rw [if_neg (by omega), if_neg (by omega), if_neg (by omega)] at gi
      simp only [tb_uI1]
      by_cases e : j = i - 1
      · subst e
        have q : 0 ≤ i - 1 ∧ i - 1 < i + 1 - 1 := by omega
        simp only [if_pos q, show i - 1 + 1 = i by omega, gi]
        simp
      · simp only [e, and_false, if_false]
        by_cases b : 0 ≤ j ∧ j < i - 1
        · rw [if_pos b, if_pos b, if_pos b] at g
          rw [if_pos (by omega), if_pos (by omega), if_pos (by omega)]
          simpa using g
        · rw [if_neg b, if_neg b, if_neg b] at g
          rw [if_neg (by omega), if_neg (by omega), if_neg (by omega)]
          simpa using g
/-- the class's note of an act -/
def tb_nh (A : tb_H) (k t o : Int) : tb_H := tb_upI (tb_upI (tb_upI (tb_upI (tb_upI A 18 (A.1 17 3) k) 19 (A.1 17 3) t) 20 (A.1 17 3) o) 17 3 ((A.1 17 3 + 1) % 30)) 17 4 (if A.1 17 4 < 30 then A.1 17 4 + 1 else 30)
theorem e119 {k t o : Int} (h0 : 0 ≤ A.1 17 3 ∧ A.1 17 3 < 30) (h1 : 0 ≤ A.1 17 4 ∧ A.1 17 4 ≤ 30) : tb_Cv X 119 [tb_r 17, tb_i k, tb_i t, tb_i o] A Kv = Kv (tb_nh A k t o) := by
  refine tb_dev (q119 ⟨fun h => by omega, fun _ => ⟨fun _ => ?_, fun h => by omega⟩⟩)
  unfold tb_nh
  rw [tb_w_id (x := A.1 17 3 + 1) (by omega) (by omega), tb_w_id (x := A.1 17 4 + 1) (by omega) (by omega)]
  rw [show (if 30 ≤ A.1 17 3 + 1 then 0 else A.1 17 3 + 1) = (A.1 17 3 + 1) % 30 by split <;> omega, show (if 30 < A.1 17 4 + 1 then 30 else A.1 17 4 + 1) = (if A.1 17 4 < 30 then A.1 17 4 + 1 else 30) by split <;> split <;> omega]
/-- one act done by both -/
theorem tb_Rel.push (h : tb_Rel A) (t : A.1 77 14 ≠ 0) {k th' old of was : Int} (hf : tb_fa A D)
    (d0 : D.1 0 13 = 0) (d11 : D.1 77 11 = 0) (n1 : D.1 77 23 = A.1 77 23) (n2 : D.1 17 4 = (if A.1 17 4 < 30 then A.1 17 4 + 1 else 30)) (tp : D.1 17 3 = (A.1 17 3 + 1) % 30)
    (b0 : ∀ q, q ≠ A.1 17 3 → D.1 18 q = A.1 18 q ∧ D.1 19 q = A.1 19 q ∧ D.1 20 q = A.1 20 q) (b1 : D.1 18 (A.1 17 3) = k ∧ D.1 19 (A.1 17 3) = th' ∧ D.1 20 (A.1 17 3) = old)
    (o84 : D.1 84 = A.1 84) (o85 : D.1 85 = A.1 85) (o86 : D.1 86 = A.1 86) (pm : D.2.2 = A.2.2)
    (L' : tb_L D) (eg : ∀ k, 0 ≤ k → k < 8 → D.1 82 (35 + k) = A.1 82 (35 + k))
    (et : ∀ j, 0 ≤ j → j < A.1 80 113 → ¬ (k = 1 ∧ of = j) → D.1 82 (21 + j) = A.1 82 (21 + j))
    (hk : (k = 0 ∧ th' = of ∧ old = was ∧ (0 ≤ of ∧ of < A.1 80 114) ∧ (0 ≤ was ∧ was < A.1 80 112) ∧ A.1 82 (35 + was) = 0) ∨ (k = 1 ∧ th' = of ∧ (0 ≤ of ∧ of < A.1 80 113) ∧ (was = 0 ∨ was = 1) ∧ A.1 82 (21 + of) = was ∧ D.1 82 (21 + of) = 1 - was) ∨ (k = 2 ∧ th' = was) ∨ (k = 3 ∧ th' = of ∧ old = was ∧ (0 ≤ of ∧ of < A.1 80 112) ∧ (0 ≤ was ∧ was ≤ 9))) :
    tb_Ci X 273 [tb_r 77, tb_i k, tb_i of, tb_i was] D (fun v' A2 => (v' = 0 ∨ v' = 1) ∧ 1 = v' ∧ tb_Rel A2) := by
  have hA := h.2.2.2.2.2.2.1
  have c := (h.L t).c112
  have e80 : D.1 80 = A.1 80 := by
    funext j
    exact hf.1 80 j rfl rfl
  refine sp273 (by rw [n1]; exact hA.2.1) ?_
  intro A' d hd hf' m1 a0 a1
  rw [n1] at hd m1 a0 a1
  have s82 : A'.1 82 = D.1 82 := by
    funext j
    exact hf'.1 82 j rfl rfl
  have s80 : A'.1 80 = A.1 80 := by
    rw [← e80]
    funext j
    exact hf'.1 80 j rfl rfl
  have hfa : tb_fa A A' := hf.trans (hf'.mono rfl rfl rfl)
  refine ⟨Or.inr rfl, rfl, h.ac hfa t ?_ ?_ ?_ ?_ ?_⟩
  · rw [hf'.1 0 13 rfl rfl, hf'.1 77 11 rfl rfl, d0, d11]
  · rw [hf'.1 77 11 rfl rfl, d11]; decide
  · exact L'.fr hf' rfl
  · refine hA.push (n := A.1 77 23 + 1 - d) (d := d) (kd := k) (th' := th') (of := of) (old := old) (was := was) hd rfl m1 ?_ ?_ ?_ ?_ ?_ ?_ s80 ?_ c.2 ?_ ?_
    · rw [hf'.1 17 4 rfl rfl, n2, hA.1]
      split <;> omega
    · rw [hf'.1 17 3 rfl rfl, tp]
    · intro j j0 j1
      have g := a0 j j0 (by omega)
      rw [o84, o85, o86] at g
      exact g
    · rw [show A.1 77 23 + 1 - d - 1 = A.1 77 23 - d by omega]; exact a1
    · intro q _ _ q2
      have g := b0 q q2
      rw [hf'.1 18 q rfl rfl, hf'.1 19 q rfl rfl, hf'.1 20 q rfl rfl]
      exact g
    · rw [hf'.1 18 _ rfl rfl, hf'.1 19 _ rfl rfl, hf'.1 20 _ rfl rfl]; exact b1
    · intro j j0 j1
      rw [s82]; exact eg j j0 j1
    · intro j j0 j1 q
      rw [s82]; exact et j j0 j1 q
    · rw [s82]; exact hk
  · have : A'.2.2 = A.2.2 := by
      rw [← pm]
      funext o j
      exact hf'.2.2 o j rfl
    unfold tb_RP
    rw [this]
    exact h.P
end TBACTS2
