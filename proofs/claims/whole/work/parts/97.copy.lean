/-! BEAST 4: the reference takes what it read -/
section TECOPY
variable {X : tb_X} {A B A0 B0 H : tb_H} {K : Int → tb_H → Prop}
variable {x : Int}
theorem te_fill {x1 : Int} {pc r m s : Nat} {Q : Int → Int} (m9 : m ≤ 1000) (step : ∀ (i : Int) (A : tb_H) (K : Int → tb_H → Prop), (∀ k, A.1 s k = B.1 s k ∨ s = r) → 0 ≤ i → i < m → tb_E X 200 pc [tb_r 77, tb_i x1, tb_i (i + 1)] [] (tb_upI A r i (Q i)) (tb_Ri 200 K) → tb_E X 200 pc [tb_r 77, tb_i x1, tb_i i] [] A (tb_Ri 200 K)) : ∃ B', (∀ K : Int → tb_H → Prop, tb_E X 200 pc [tb_r 77, tb_i x1, tb_i m] [] B' (tb_Ri 200 K) → tb_E X 200 pc [tb_r 77, tb_i x1, tb_i 0] [] B (tb_Ri 200 K)) ∧ (∀ k : Int, 0 ≤ k → k < m → B'.1 r k = Q k) ∧ tb_fr [r] [] [] B B' := by
  have loop : ∀ (k : Nat) (i : Int) (A1 : tb_H), i + k = m → 0 ≤ i → (∀ j : Int, 0 ≤ j → j < i → A1.1 r j = Q j) → tb_fr [r] [] [] B A1 → ∃ A', (∀ K : Int → tb_H → Prop, tb_E X 200 pc [tb_r 77, tb_i x1, tb_i m] [] A' (tb_Ri 200 K) → tb_E X 200 pc [tb_r 77, tb_i x1, tb_i i] [] A1 (tb_Ri 200 K)) ∧ (∀ k : Int, 0 ≤ k → k < m → A'.1 r k = Q k) ∧ tb_fr [r] [] [] B A' := by
    intro k
    induction k with
    | zero =>
      intro i A1 e i0 h f
      have e : i = m := by omega
      subst e
      exact ⟨A1, fun K k => k, h, f⟩
    | succ k ih =>
      intro i A1 e i0 h f
      obtain ⟨A', h1, h2, h3⟩ := ih (i + 1) (tb_upI A1 r i (Q i)) (by omega) (by omega) (fun j j0 j1 => by
        rw [tb_uI1]
        by_cases c : j = i
        · rw [if_pos ⟨rfl, c⟩, c]
        · rw [if_neg (fun q => c q.2)]
          exact h j j0 (by omega)) (tb_fr.upI f (by simp))
      refine ⟨A', fun K k => step i A1 K (fun z => ?_) i0 (by omega) (h1 K k), h2, h3⟩
      by_cases c : s = r
      · exact Or.inr c
      · exact Or.inl (f.1 s z (by simp; exact c) rfl)
  exact loop m 0 B (by omega) (by decide) (fun j j0 j1 => by omega) tb_fr.refl
theorem te_282 {x1 : Int} (Q : Int → Int) (hQ : ∀ f, 0 ≤ f → f < 4 → Q f = B.1 80 (57 + f)) : ∀ (k : Nat) (i : Int) (A1 : tb_H), i + k = 4 → 0 ≤ i → (∀ j : Int, A1.1 82 j = if 31 ≤ j ∧ j < 31 + i then Q (j - 31) else B.1 82 j) → tb_fr [82] [] [] B A1 → ∃ A', (∀ K : Int → tb_H → Prop, tb_E X 200 282 [tb_r 77, tb_i x1, tb_i 4] [] A' (tb_Ri 200 K) → tb_E X 200 282 [tb_r 77, tb_i x1, tb_i i] [] A1 (tb_Ri 200 K)) ∧ (∀ j : Int, A'.1 82 j = if 31 ≤ j ∧ j < 35 then Q (j - 31) else B.1 82 j) ∧ tb_fr [82] [] [] B A' := by
  intro k
  induction k with
  | zero =>
    intro i A1 e i0 h f
    have e : i = 4 := by omega
    subst e
    exact ⟨A1, fun K k => k, h, f⟩
  | succ k ih =>
    intro i A1 e i0 h f
    obtain ⟨A', h1, h2, h3⟩ := ih (i + 1) (tb_upI A1 82 (31 + i) (Q i)) (by omega) (by omega) (fun j => by
      rw [tb_uI1]
      by_cases c : j = 31 + i
      · rw [if_pos ⟨rfl, c⟩, if_pos (by omega), c, show 31 + i - 31 = i by omega]
      · rw [if_neg (fun q => c q.2), h j]
        by_cases d : 31 ≤ j ∧ j < 31 + i
        · rw [if_pos d, if_pos (by omega)]
        · rw [if_neg d, if_neg (by omega)]) (tb_fr.upI f rfl)
    refine ⟨A', fun K k => q200_282 ⟨fun q => absurd q (by omega), fun _ => ?_⟩, h2, h3⟩
    rw [tb_w_id (x := 57 + i) (by omega) (by omega), tb_w_id (x := 31 + i) (by omega) (by omega), tb_w_id (x := i + 1) (by omega) (by omega), f.1 80 (57 + i) rfl rfl, ← hQ i i0 (by omega)]
    exact ⟨⟨by omega, by omega⟩, ⟨by omega, by omega⟩, h1 K k⟩
/-- the state that a beast begins with -/
def te_s0 (r : Int → Int) (k : Int) : Int := if k = 0 then r 6 else if k = 1 then r 7 else if k = 2 then r 8 else if 31 ≤ k ∧ k < 35 then r (57 + (k - 31)) else if k = 51 then r 6 else if k = 52 then r 7 else 0
theorem te_189 {x1 : Int} : ∃ B', (∀ K : Int → tb_H → Prop, K (B.1 81 112) B' → tb_E X 200 189 [tb_r 77, tb_i x1, tb_i 0] [] B (tb_Ri 200 K)) ∧ (∀ k, 0 ≤ k → k < 362 → B'.1 80 k = B.1 81 k) ∧ (∀ k, 0 ≤ k → k < 453 → B'.1 82 k = te_s0 (B.1 81) k) ∧ (B'.1 77 14 = 1 ∧ B'.1 77 19 = 0 ∧ B'.1 77 23 = 0 ∧ B'.1 77 27 = 0) ∧ tb_fr [80, 82] [(77, 14), (77, 19), (77, 23), (77, 27)] [] B B' := by
  obtain ⟨B1, r1, z1, g1⟩ := te_fill (X := X) (B := B) (x1 := x1) (pc := 189) (r := 80) (m := 362) (s := 81) (Q := B.1 81) (by decide) (fun i A K hs i0 i1 k => q200_189 ⟨fun q => absurd q (by omega), fun _ => ⟨⟨i0, by omega⟩, ⟨i0, by omega⟩, by
    have e : A.1 81 i = B.1 81 i := (hs i).resolve_right (by decide)
    rw [tb_w_id (x := i + 1) (by omega) (by omega), e]
    exact k⟩⟩)
  obtain ⟨B2, r2, z2, g2⟩ := te_fill (X := X) (B := tb_upI B1 77 14 1) (x1 := x1) (pc := 221) (r := 82) (m := 453) (s := 82) (Q := fun _ => 0) (by decide) (fun i A K _ i0 i1 k => q200_221 ⟨fun q => absurd q (by omega), fun _ => ⟨⟨i0, by omega⟩, by
    rw [tb_w_id (x := i + 1) (by omega) (by omega)]
    exact k⟩⟩)
  have e80 : ∀ k, B2.1 80 k = B1.1 80 k := fun k => by rw [g2.1 80 k rfl rfl, td_upo (by decide)]
  have y0 : (tb_upI (tb_upI (tb_upI B2 82 0 (B2.1 80 6)) 82 1 (B2.1 80 7)) 82 2 (B2.1 80 8)).1 80 = B2.1 80 := by rw [td_upo (by decide), td_upo (by decide), td_upo (by decide)]
  have y2 : ∀ j, 0 ≤ j → j < 453 → (tb_upI (tb_upI (tb_upI B2 82 0 (B2.1 80 6)) 82 1 (B2.1 80 7)) 82 2 (B2.1 80 8)).1 82 j = if j = 0 then B.1 81 6 else if j = 1 then B.1 81 7 else if j = 2 then B.1 81 8 else 0 := by
    intro j j0 j1
    rw [tb_uI1, tb_uI1, tb_uI1, e80, e80, e80, z1 6 (by decide) (by decide), z1 7 (by decide) (by decide), z1 8 (by decide) (by decide), z2 j j0 j1]
    by_cases c2 : j = 2
    · rw [if_pos ⟨rfl, c2⟩, if_neg (by omega), if_neg (by omega), if_pos c2]
    · rw [if_neg (fun q => c2 q.2), if_neg c2]
      by_cases c1 : j = 1
      · rw [if_pos ⟨rfl, c1⟩, if_neg (by omega), if_pos c1]
      · rw [if_neg (fun q => c1 q.2), if_neg c1]
        by_cases c0 : j = 0
        · rw [if_pos ⟨rfl, c0⟩, if_pos c0]
        · rw [if_neg (fun q => c0 q.2), if_neg c0]
  obtain ⟨B3, r3, z3, g3⟩ := te_282 (X := X) (x1 := x1) (B := tb_upI (tb_upI (tb_upI B2 82 0 (B2.1 80 6)) 82 1 (B2.1 80 7)) 82 2 (B2.1 80 8)) (fun f => B.1 81 (57 + f)) (fun f f0 f1 => by rw [y0, e80, z1 (57 + f) (by omega) (by omega)]) 4 0 _ (by omega) (by decide) (fun j => by rw [if_neg (by omega)]) tb_fr.refl
  have v0 : B3.1 82 0 = B.1 81 6 := by rw [z3 0, if_neg (by decide), y2 0 (by decide) (by decide), if_pos rfl]
  have v1 : B3.1 82 1 = B.1 81 7 := by rw [z3 1, if_neg (by decide), y2 1 (by decide) (by decide), if_neg (by decide), if_pos rfl]
  have w80 : ∀ k, B3.1 80 k = B1.1 80 k := fun k => by rw [g3.1 80 k rfl rfl, y0, e80]
  have q1 : (tb_upI B3 82 51 (B3.1 82 0)).1 82 1 = B3.1 82 1 := tb_uI_k (by decide)
  refine ⟨tb_upI (tb_upI (tb_upI (tb_upI (tb_upI B3 82 51 (B3.1 82 0)) 82 52 ((tb_upI B3 82 51 (B3.1 82 0)).1 82 1)) 77 19 0) 77 23 0) 77 27 0, fun K k => r1 K (q200_189 ⟨fun _ => r2 K (q200_221 ⟨fun _ => r3 K (q200_282 ⟨fun _ => ?_, fun q => absurd q (by decide)⟩), fun q => absurd q (by decide)⟩), fun q => absurd q (by decide)⟩), fun k k0 k1 => ?_, fun k k0 k1 => ?_, ⟨?_, ?_, ?_, ?_⟩, ?_⟩
  · rw [w80, z1 112 (by decide) (by decide)]
    exact k
  · rw [td_upo (by decide), td_upo (by decide), td_upo (by decide), td_upo (by decide), td_upo (by decide), w80]
    exact z1 k k0 k1
  · rw [td_upo (by decide), td_upo (by decide), td_upo (by decide), q1, v0, v1, tb_uI1, tb_uI1, z3 k, y2 k k0 k1]
    unfold te_s0
    by_cases c51 : k = 51
    · rw [if_neg (fun q => by omega), if_pos ⟨rfl, c51⟩, if_neg (by omega), if_neg (by omega), if_neg (by omega), if_neg (by omega), if_pos c51]
    · by_cases c52 : k = 52
      · rw [if_pos ⟨rfl, c52⟩, if_neg (by omega), if_neg (by omega), if_neg (by omega), if_neg (by omega), if_neg c51, if_pos c52]
      · rw [if_neg (fun q => c52 q.2), if_neg (fun q => c51 q.2)]
        by_cases d : 31 ≤ k ∧ k < 35
        · rw [if_pos d, if_neg (by omega), if_neg (by omega), if_neg (by omega), if_pos d]
        · rw [if_neg d]
          by_cases c0 : k = 0
          · rw [if_pos c0, if_pos c0]
          · rw [if_neg c0, if_neg c0]
            by_cases c1 : k = 1
            · rw [if_pos c1, if_pos c1]
            · rw [if_neg c1, if_neg c1]
              by_cases c2 : k = 2
              · rw [if_pos c2, if_pos c2]
              · rw [if_neg c2, if_neg c2, if_neg d, if_neg c51, if_neg c52]
  · rw [tb_uI_k (by decide), tb_uI_k (by decide), tb_uI_k (by decide), td_upo (by decide), td_upo (by decide), g3.1 77 14 rfl rfl, td_upo (by decide), td_upo (by decide), td_upo (by decide), g2.1 77 14 rfl rfl, tb_uI_s]
  · rw [tb_uI_k (by decide), tb_uI_k (by decide), tb_uI_s]
  · rw [tb_uI_k (by decide), tb_uI_s]
  · rw [tb_uI_s]
  · have a : tb_fr [80, 82] [(77, 14), (77, 19), (77, 23), (77, 27)] [] B (tb_upI B1 77 14 1) := tb_fr.upI (g1.mono rfl rfl rfl) rfl
    have a2 : tb_fr [80, 82] [(77, 14), (77, 19), (77, 23), (77, 27)] [] B (tb_upI (tb_upI (tb_upI B2 82 0 (B2.1 80 6)) 82 1 (B2.1 80 7)) 82 2 (B2.1 80 8)) := tb_fr.upI (tb_fr.upI (tb_fr.upI (a.trans (g2.mono rfl rfl rfl)) rfl) rfl) rfl
    exact tb_fr.upI (tb_fr.upI (tb_fr.upI (tb_fr.upI (tb_fr.upI (a2.trans (g3.mono rfl rfl rfl)) rfl) rfl) rfl) rfl) rfl
end TECOPY
