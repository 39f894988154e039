/-! MOVES 6: the reference's walks -/
section TEMOV6
variable {X : tb_X} {A B C : tb_H} {K : Int → tb_H → Prop} {Kv : tb_H → Prop}
def te_cn (r s w : Int → Int) : Prop := ∀ f, 0 ≤ f → f < r 114 → ¬ s (27 + f) = 0 → w f = s (31 + f)
def te_rg (r w : Int → Int) : Prop := ∀ f, 0 ≤ f → f < r 114 → 0 ≤ w f ∧ w f < r 112
theorem te_rg.va {r s w : Int → Int} (h : te_rg r w) : te_va r s (te_Pr r) w := fun f f0 f1 _ => h f f0 f1
theorem te247_0 (M : tc_M A) (g : te_rg (A.1 80) (A.1 90)) : tb_Ci X 247 [tb_r 77, tb_i 0, tb_r 90, tb_i 0] A K = K (tb_lean (A.1 80) (A.1 82) (A.1 90) 9 (A.1 80 0)) A := by
  have c4 := M.c114
  have e := e247_0 (X := X) (K := K) M kd_90 (i := 0) (by decide) (by show (0 : Int) + _ ≤ (4 : Int); omega) (by decide) (fun f f0 f1 => by rw [Int.zero_add]; exact g f f0 f1)
  simp only [Int.zero_add] at e
  exact e
theorem te247_1 (M : tc_M A) (g : te_rg (A.1 80) (A.1 90)) : tb_Ci X 247 [tb_r 77, tb_i 1, tb_r 90, tb_i 0] A K = K (tb_lean (A.1 80) (A.1 82) (A.1 90) 17 (A.1 80 1)) A := by
  have c4 := M.c114
  have e := e247_1 (X := X) (K := K) M kd_90 (i := 0) (by decide) (by show (0 : Int) + _ ≤ (4 : Int); omega) (by decide) (fun f f0 f1 => by rw [Int.zero_add]; exact g f f0 f1)
  simp only [Int.zero_add] at e
  exact e
theorem e282 (M : tc_M A) (cn : te_cn (A.1 80) (A.1 82) (A.1 90)) : tb_Ci X 282 [tb_r 77] A K = K (te_mv (A.1 80) (A.1 82) (A.1 90)) A := by
  have c4 := M.c114
  refine tb_dei (q282 ?_)
  refine tb_lp (n := A.1 80 114) (E := fun i => tb_E X 282 4 [tb_r 77, tb_i (tb_sum (fun f => if A.1 82 (27 + f) = 0 ∧ A.1 90 f ≠ A.1 82 (31 + f) then (1 : Int) else 0) i), tb_i i] [] A (tb_Ri 282 _)) c4.1 ?_ ?_
  · exact q282_4 ⟨fun _ => ⟨rfl, rfl⟩, fun q => absurd q (by omega)⟩
  · intro i i0 i1 ih
    have b := tb_sum_bd (f := fun f => if A.1 82 (27 + f) = 0 ∧ A.1 90 f ≠ A.1 82 (31 + f) then (1 : Int) else 0) (c := 1) (N := 4) (n := i) i0 (by omega) (by decide) (fun j _ _ => by
      show 0 ≤ (if A.1 82 (27 + j) = 0 ∧ A.1 90 j ≠ A.1 82 (31 + j) then (1 : Int) else 0) ∧ (if A.1 82 (27 + j) = 0 ∧ A.1 90 j ≠ A.1 82 (31 + j) then (1 : Int) else 0) ≤ 1
      ((repeat' split) <;> omega))
    rw [tb_sum_s i0] at ih
    refine q282_4 ⟨fun q => absurd q (by omega), fun _ => ⟨⟨i0, by omega⟩, ?_⟩⟩
    rw [tb_w_id (x := 31 + i) (by omega) (by omega), tb_w_id (x := i + 1) (by omega) (by omega)]
    have e : (if A.1 90 i ≠ A.1 82 (31 + i) then (1 : Int) else 0) = if A.1 82 (27 + i) = 0 ∧ A.1 90 i ≠ A.1 82 (31 + i) then 1 else 0 := by
      by_cases t : A.1 82 (27 + i) = 0
      · by_cases z : A.1 90 i = A.1 82 (31 + i)
        · rw [if_neg (fun q => q z), if_neg (fun q => q.2 z)]
        · rw [if_pos z, if_pos ⟨t, z⟩]
      · rw [if_neg (fun q => q (cn i i0 i1 t)), if_neg (fun q => t q.1)]
    have b1 : 0 ≤ (if A.1 82 (27 + i) = 0 ∧ A.1 90 i ≠ A.1 82 (31 + i) then (1 : Int) else 0) ∧ (if A.1 82 (27 + i) = 0 ∧ A.1 90 i ≠ A.1 82 (31 + i) then (1 : Int) else 0) ≤ 1 := by ((repeat' split) <;> omega)
    rw [e, tb_w_id (x := tb_sum _ i + _) (by omega) (by omega)]
    exact ⟨⟨by omega, by omega⟩, ih⟩
theorem e284 (M : tc_M A) {x : Int} : tb_Ci X 284 [tb_r 77, tb_i x] A K = K (tb_load (A.1 80) (A.1 82) (A.1 90) x) A := by
  have c3 := M.c113
  have c4 := M.c114
  refine tb_dei (q284 ?_)
  have sH := M.ldH (x := x) c3.1 (Int.le_refl _)
  have l2 : tb_E X 284 64 [tb_r 77, tb_i x, tb_i (tb_sum (fun h => if A.1 82 (15 + h) = 0 ∧ A.1 80 (33 + h) = x then A.1 80 (39 + h) else 0) (A.1 80 113) + tb_sum (fun f => if A.1 82 (27 + f) = 0 ∧ A.1 90 f = x then A.1 80 (61 + f) else 0) 0), tb_i 0] [] A (tb_Ri 284 (fun v' A' => v' = tb_load (A.1 80) (A.1 82) (A.1 90) x ∧ A' = A)) := by
    refine tb_lp (E := fun i => tb_E X 284 64 [tb_r 77, tb_i x, tb_i (tb_sum (fun h => if A.1 82 (15 + h) = 0 ∧ A.1 80 (33 + h) = x then A.1 80 (39 + h) else 0) (A.1 80 113) + tb_sum (fun f => if A.1 82 (27 + f) = 0 ∧ A.1 90 f = x then A.1 80 (61 + f) else 0) i), tb_i i] [] A (tb_Ri 284 (fun v' A' => v' = tb_load (A.1 80) (A.1 82) (A.1 90) x ∧ A' = A))) c4.1 ?_ ?_
    · exact q284_64 ⟨fun _ => ⟨rfl, rfl⟩, fun h => by omega⟩
    · intro i h0 h1 ih
      have sF := M.ldF (at' := A.1 90) (x := x) (n := i) h0 (by omega)
      have b1 := M.v61 h0 h1
      rw [tb_sum_s h0] at ih
      refine q284_64 ⟨fun h => by omega, fun _ => ?_⟩
      rw [tb_w_id (x := i + 1) (by omega) (by omega), tb_w_id (x := 27 + i) (by omega) (by omega), tb_w_id (x := 61 + i) (by omega) (by omega)]
      refine ⟨by omega, fun hx => ?_, fun hx => ⟨by omega, fun hy => ?_, fun hy => ⟨by omega, ?_⟩⟩⟩
      · rw [if_neg (fun q => hx q.1), Int.add_zero] at ih
        rw [tb_w_id (by omega) (by omega), Int.add_zero]
        exact ih
      · rw [if_neg (fun q => hy q.2), Int.add_zero] at ih
        rw [tb_w_id (by omega) (by omega), Int.add_zero]
        exact ih
      · rw [if_pos ⟨hx, hy⟩] at ih
        rw [tb_w_id (by omega) (by omega), Int.add_assoc]
        exact ih
  rw [tb_sum_0, Int.add_zero] at l2
  have l1 : tb_E X 284 4 [tb_r 77, tb_i x, tb_i (tb_sum (fun h => if A.1 82 (15 + h) = 0 ∧ A.1 80 (33 + h) = x then A.1 80 (39 + h) else 0) 0), tb_i 0] [] A (tb_Ri 284 (fun v' A' => v' = tb_load (A.1 80) (A.1 82) (A.1 90) x ∧ A' = A)) := by
    refine tb_lp (E := fun i => tb_E X 284 4 [tb_r 77, tb_i x, tb_i (tb_sum (fun h => if A.1 82 (15 + h) = 0 ∧ A.1 80 (33 + h) = x then A.1 80 (39 + h) else 0) i), tb_i i] [] A (tb_Ri 284 (fun v' A' => v' = tb_load (A.1 80) (A.1 82) (A.1 90) x ∧ A' = A))) c3.1 ?_ ?_
    · exact q284_4 ⟨fun _ => l2, fun h => by omega⟩
    · intro i h0 h1 ih
      have sF := M.ldH (x := x) (n := i) h0 (by omega)
      have b1 := M.v39 h0 h1
      rw [tb_sum_s h0] at ih
      refine q284_4 ⟨fun h => by omega, fun _ => ?_⟩
      rw [tb_w_id (x := i + 1) (by omega) (by omega), tb_w_id (x := 15 + i) (by omega) (by omega), tb_w_id (x := 33 + i) (by omega) (by omega), tb_w_id (x := 39 + i) (by omega) (by omega)]
      refine ⟨by omega, fun hx => ?_, fun hx => ⟨by omega, fun hy => ?_, fun hy => ⟨by omega, ?_⟩⟩⟩
      · rw [if_neg (fun q => hx q.1), Int.add_zero] at ih
        rw [tb_w_id (by omega) (by omega), Int.add_zero]
        exact ih
      · rw [if_neg (fun q => hy q.2), Int.add_zero] at ih
        rw [tb_w_id (by omega) (by omega), Int.add_zero]
        exact ih
      · rw [if_pos ⟨hx, hy⟩] at ih
        rw [tb_w_id (by omega) (by omega)]
        exact ih
  exact l1
theorem sp283 (M : tc_M A) (cn : te_cn (A.1 80) (A.1 82) (A.1 90)) (g : te_rg (A.1 80) (A.1 90)) (k1 : te_OK (A.1 80) (A.1 82) (A.1 90) → K 1 A) (k0 : ¬ te_OK (A.1 80) (A.1 82) (A.1 90) → K 0 A) : tb_Ci X 283 [tb_r 77] A K := by
  have c2 := M.c112
  have c4 := M.c114
  refine q283 ?_
  have fail : ∀ i, 0 ≤ i → ¬ te_OK (A.1 80) (A.1 82) (A.1 90) → tb_E X 283 4 [tb_r 77, tb_i 0, tb_i i] [] A (tb_Ri 283 K) := by
    intro i i0 n
    exact q283_4 ⟨fun _ => ⟨Or.inl rfl, k0 n⟩, fun _ => ⟨fun _ => ⟨Or.inl rfl, k0 n⟩, fun q => absurd rfl q⟩⟩
  have key := tb_lp (n := A.1 80 114) (E := fun i => (∀ f, 0 ≤ f → f < i → f < A.1 80 114 → A.1 82 (27 + f) = 0 → A.1 90 f ≠ A.1 82 (31 + f) → A.1 82 (35 + A.1 90 f) = 0 ∧ tb_load (A.1 80) (A.1 82) (A.1 90) (A.1 90 f) ≤ A.1 80 (25 + A.1 90 f)) → tb_E X 283 4 [tb_r 77, tb_i 1, tb_i i] [] A (tb_Ri 283 K)) c4.1 ?_ ?_
  · exact key (fun f f0 f1 => absurd f1 (by omega))
  · intro h
    exact q283_4 ⟨fun _ => ⟨Or.inr rfl, k1 (fun f f0 f1 => h f f0 f1 f1)⟩, fun q => absurd q (by omega)⟩
  · intro i i0 i1 ih h
    have gi := g i i0 i1
    refine q283_4 ⟨fun q => absurd q (by omega), fun _ => ⟨fun q => absurd q (by decide), fun _ => ⟨⟨i0, by omega⟩, ?_⟩⟩⟩
    rw [tb_w_id (x := 31 + i) (by omega) (by omega), tb_w_id (x := i + 1) (by omega) (by omega), tb_w_id (x := 35 + A.1 90 i) (by omega) (by omega)]
    have nx : (A.1 82 (27 + i) = 0 → A.1 90 i ≠ A.1 82 (31 + i) → A.1 82 (35 + A.1 90 i) = 0 ∧ tb_load (A.1 80) (A.1 82) (A.1 90) (A.1 90 i) ≤ A.1 80 (25 + A.1 90 i)) → ∀ f, 0 ≤ f → f < i + 1 → f < A.1 80 114 → A.1 82 (27 + f) = 0 → A.1 90 f ≠ A.1 82 (31 + f) → A.1 82 (35 + A.1 90 f) = 0 ∧ tb_load (A.1 80) (A.1 82) (A.1 90) (A.1 90 f) ≤ A.1 80 (25 + A.1 90 f) := by
      intro o f f0 f1 f2
      by_cases e : f = i
      · rw [e]; exact o
      · exact h f f0 (by omega) f2
    refine ⟨⟨by omega, by omega⟩, fun e => ⟨⟨i0, by omega⟩, ⟨by omega, by omega⟩, fun z => ?_, fun z => ⟨⟨i0, by omega⟩, ?_⟩⟩, fun e => ih (nx (fun _ q => absurd e q))⟩
    · refine fail (i + 1) (by omega) (fun ok => ?_)
      have t : A.1 82 (27 + i) = 0 := by
        by_cases t : A.1 82 (27 + i) = 0
        · exact t
        · exact absurd (cn i i0 i1 t) e
      exact z (ok i i0 i1 t e).1
    · rw [e284 M, tb_w_id (x := 25 + A.1 90 i) (by omega) (by omega)]
      refine ⟨⟨i0, by omega⟩, ⟨by omega, by omega⟩, ?_⟩
      by_cases y : A.1 80 (25 + A.1 90 i) < tb_load (A.1 80) (A.1 82) (A.1 90) (A.1 90 i)
      · rw [if_pos y]
        refine fail (i + 1) (by omega) (fun ok => ?_)
        have t : A.1 82 (27 + i) = 0 := by
          by_cases t : A.1 82 (27 + i) = 0
          · exact t
          · exact absurd (cn i i0 i1 t) e
        have := (ok i i0 i1 t e).2
        omega
      · rw [if_neg y]
        exact ih (nx (fun _ _ => ⟨z, by omega⟩))
theorem te_ext90 {r s : Int → Int} {i v : Int} (cn : te_cn r s (C.1 90)) (g : te_rg r (C.1 90)) (t : s (27 + i) = 0) (v0 : 0 ≤ v) (v1 : v < r 112) : te_cn r s ((tb_upI C 90 i v).1 90) ∧ te_rg r ((tb_upI C 90 i v).1 90) := by
  refine ⟨fun f f0 f1 ft => ?_, fun f f0 f1 => ?_⟩
  · rw [tb_uI_k (fun q => ft (by rw [q]; exact t))]
    exact cn f f0 f1 ft
  · by_cases e : f = i
    · rw [e, tb_uI_s]; exact ⟨v0, v1⟩
    · rw [tb_uI_k e]; exact g f f0 f1
theorem sp285 (M : tc_M A) (cn : te_cn (A.1 80) (A.1 82) (A.1 90)) (g : te_rg (A.1 80) (A.1 90))
    (k1 : ∀ C f, tb_fr [90] [] [] A C → te_cn (A.1 80) (A.1 82) (C.1 90) → te_rg (A.1 80) (C.1 90) → te_adv (A.1 80) (A.1 82) (te_Pr (A.1 80)) (A.1 90) (C.1 90) f → K 1 C)
    (k0 : ∀ C, tb_fr [90] [] [] A C → (∀ g, 0 ≤ g → g < A.1 80 114 → A.1 82 (27 + g) = 0 → te_no (te_Pr (A.1 80)) (A.1 90 g)) → K 0 C) : tb_Ci X 285 [tb_r 77] A K := by
  have c2 := M.c112
  have c4 := M.c114
  refine q285 ?_
  rw [tb_w_id (x := A.1 80 114 - 1) (by omega) (by omega)]
  have key := tb_ld (n := A.1 80 114) (E := fun p => ∀ C : tb_H, tb_fr [90] [] [] A C → te_cn (A.1 80) (A.1 82) (C.1 90) → te_rg (A.1 80) (C.1 90) → (∀ g, 0 ≤ g → g ≤ p → C.1 90 g = A.1 90 g) → (∀ g, p < g → g < 4 → 0 ≤ g → g < A.1 80 114 → A.1 82 (27 + g) = 0 → te_no (te_Pr (A.1 80)) (A.1 90 g) ∧ te_nx (te_Pr (A.1 80)) (-1) (C.1 90 g)) → tb_E X 285 10 [tb_r 77, tb_i p] [] C (tb_Ri 285 K)) c4.1 ?_ ?_
  · exact key A tb_fr.refl cn g (fun _ _ _ => rfl) (fun g _ _ _ _ _ => by omega)
  · intro C fC _ _ _ uh
    exact q285_10 ⟨fun _ => k0 C fC (fun g g0 g1 t => (uh g (by omega) (by omega) g0 g1 t).1), fun q => absurd q (by decide)⟩
  · intro i i0 i1 ih C fC cC gC ul uh
    have e80 : C.1 80 = A.1 80 := funext fun z => fC.1 80 z rfl rfl
    have e82 : C.1 82 = A.1 82 := funext fun z => fC.1 82 z rfl rfl
    have gi := g i i0 i1
    have ui := ul i i0 (Int.le_refl _)
    refine q285_10 ⟨fun q => absurd q (by omega), fun _ => ?_⟩
    rw [tb_w_id (x := 27 + i) (by omega) (by omega), tb_w_id (x := i + -1) (by omega) (by omega), show i + -1 = i - 1 by omega, e82, e80, ui, tb_w_id (x := A.1 90 i + 1) (by omega) (by omega), tb_uI_s]
    refine ⟨⟨by omega, by omega⟩, fun t => ih C fC cC gC (fun g g0 g1 => ul g g0 (by omega)) (fun g g0 g1 g2 g3 g4 => ?_), fun t => ⟨⟨i0, by omega⟩, ⟨i0, by omega⟩, ⟨i0, by omega⟩, fun q => ⟨⟨i0, by omega⟩, ?_⟩, fun q => ?_⟩⟩
    · by_cases z : g = i
      · rw [z] at g4; exact absurd g4 t
      · exact uh g (by omega) g1 g2 g3 g4
    · rw [tb_uu]
      have ex := te_ext90 (C := C) (v := 0) cC gC t (by decide) (by omega)
      refine ih _ (tb_fr.upI fC rfl) ex.1 ex.2 (fun g g0 g1 => ?_) (fun g g0 g1 g2 g3 g4 => ?_)
      · rw [tb_uI_k (by omega)]; exact ul g g0 (by omega)
      · by_cases z : g = i
        · rw [z, tb_uI_s]
          refine ⟨fun e e0 p => ?_, ⟨by decide, ⟨by decide, by omega⟩, fun e e0 e1 => absurd e1 (by omega)⟩⟩
          unfold te_Pr at p
          omega
        · rw [tb_uI_k z]
          exact uh g (by omega) g1 g2 g3 g4
    · have ex := te_ext90 (C := C) (v := A.1 90 i + 1) cC gC t (by omega) q
      refine k1 _ i (tb_fr.upI fC rfl) ex.1 ex.2 ⟨⟨i0, by omega⟩, ⟨i1, t⟩, ?_, fun g g0 g1 => ?_, fun g g0 g1 g3 g4 => ?_⟩
      · rw [tb_uI_s]
        exact ⟨by omega, ⟨by omega, q⟩, fun e e0 e1 => absurd e1 (by omega)⟩
      · rw [tb_uI_k (by omega)]; exact ul g g0 (by omega)
      · rw [tb_uI_k (by omega)]; exact uh g (by omega) g1 (by omega) g3 g4
theorem te_stepR (M : tc_M A) {B : tb_H} (e80 : B.1 80 = A.1 80) (e82 : B.1 82 = A.1 82) (cn : te_cn (A.1 80) (A.1 82) (B.1 90)) (g : te_rg (A.1 80) (B.1 90))
    (k1 : ∀ C, tb_fr [90] [] [] B C → te_cn (A.1 80) (A.1 82) (C.1 90) → te_rg (A.1 80) (C.1 90) → te_D (A.1 80) (A.1 82) (B.1 90) (te_cd (A.1 80) (A.1 82) (C.1 90)) → K 1 C)
    (k0 : ∀ C, tb_fr [90] [] [] B C → te_D (A.1 80) (A.1 82) (B.1 90) 4096 → K 0 C) : tb_Ci X 285 [tb_r 77] B K := by
  have c2 := M.c112
  have c4 := M.c114
  have MB : tc_M B := M.c e80 e82
  refine sp285 MB (by rw [e80, e82]; exact cn) (by rw [e80]; exact g) (fun C f fC cC gC ad => ?_) (fun C fC n => ?_)
  · rw [e80, e82] at ad cC
    rw [e80] at gC
    exact k1 C fC cC gC (ad.D' g.va c2.2 c4.2)
  · rw [e80, e82] at n
    exact k0 C fC (te_lastD' n g.va c2.2 c4.2)
/-- the first way -/
theorem sp281 (M : tc_M A) (k : ∀ C, tb_fr [90] [] [] A C → te_cn (A.1 80) (A.1 82) (C.1 90) → te_rg (A.1 80) (C.1 90) → (∀ u, te_va (A.1 80) (A.1 82) (te_Pr (A.1 80)) u → te_cd (A.1 80) (A.1 82) (C.1 90) ≤ te_cd (A.1 80) (A.1 82) u) → Kv C) : tb_Cv X 281 [tb_r 77] A Kv := by
  have c2 := M.c112
  have c4 := M.c114
  refine q281 ?_
  have key := tb_lp (n := A.1 80 114) (E := fun i => ∀ C : tb_H, tb_fr [90] [] [] A C → (∀ f, 0 ≤ f → f < i → C.1 90 f = if A.1 82 (27 + f) = 0 then 0 else A.1 82 (31 + f)) → tb_E X 281 2 [tb_r 77, tb_i i] [] C (tb_Rv 281 Kv)) c4.1 ?_ ?_
  · exact key A tb_fr.refl (fun f f0 f1 => absurd f1 (by omega))
  · intro C fC h
    have e80 : C.1 80 = A.1 80 := funext fun z => fC.1 80 z rfl rfl
    refine q281_2 ⟨fun _ => ?_, fun q => absurd q (by rw [e80]; omega)⟩
    refine k C fC (fun f f0 f1 t => ?_) (fun f f0 f1 => ?_) (te_first (P := te_Pr (A.1 80)) (fun f f0 f1 t => ?_) (fun _ p => p)).2
    · rw [h f f0 f1, if_neg t]
    · rw [h f f0 f1]
      have := M.at f f0 f1
      split
      · omega
      · exact this
    · rw [h f f0 f1, if_pos t]
      exact ⟨by decide, ⟨by decide, by omega⟩, fun e e0 e1 => absurd e1 (by omega)⟩
  · intro i i0 i1 ih C fC h
    have e80 : C.1 80 = A.1 80 := funext fun z => fC.1 80 z rfl rfl
    have e82 : C.1 82 = A.1 82 := funext fun z => fC.1 82 z rfl rfl
    refine q281_2 ⟨fun q => absurd q (by rw [e80]; omega), fun _ => ?_⟩
    rw [tb_w_id (x := 27 + i) (by omega) (by omega), tb_w_id (x := 31 + i) (by omega) (by omega), tb_w_id (x := i + 1) (by omega) (by omega), e82]
    have nx : ∀ v, v = (if A.1 82 (27 + i) = 0 then 0 else A.1 82 (31 + i)) → tb_E X 281 2 [tb_r 77, tb_i (i + 1)] [] (tb_upI C 90 i v) (tb_Rv 281 Kv) := by
      intro v hv
      refine ih _ (tb_fr.upI fC rfl) (fun f f0 f1 => ?_)
      by_cases e : f = i
      · rw [e, tb_uI_s, hv]
      · rw [tb_uI_k e]; exact h f f0 (by omega)
    exact ⟨⟨by omega, by omega⟩, fun t => ⟨⟨by omega, by omega⟩, ⟨i0, by omega⟩, nx _ (by rw [if_neg t])⟩, fun t => ⟨⟨i0, by omega⟩, nx _ (by rw [if_pos t])⟩⟩
end TEMOV6
