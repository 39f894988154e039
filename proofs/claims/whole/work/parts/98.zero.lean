/-! BEAST 5: the state that a beast begins with keeps its bounds -/
section TEZERO
variable {r s : Int → Int}
theorem te_s0z {k : Int} (h : (k ≠ 0 ∧ k ≠ 1 ∧ k ≠ 2) ∧ ¬ (31 ≤ k ∧ k < 35) ∧ k ≠ 51 ∧ k ≠ 52) : te_s0 r k = 0 := by
  unfold te_s0
  rw [if_neg h.1.1, if_neg h.1.2.1, if_neg h.1.2.2, if_neg h.2.1, if_neg h.2.2.1, if_neg h.2.2.2]
theorem te_s0f {f : Int} (f0 : 0 ≤ f) (f1 : f < 4) : te_s0 r (31 + f) = r (57 + f) := by
  unfold te_s0
  rw [if_neg (by omega), if_neg (by omega), if_neg (by omega), if_pos (by omega), show 31 + f - 31 = f by omega]
theorem te_bs0 (bb : tb_bb r) (r111 : 1 ≤ r 111) (r112 : 1 ≤ r 112) (hz : ∀ f, r 114 ≤ f → f < 4 → r (57 + f) = 0) (hs : ∀ k, 0 ≤ k → k < 453 → s k = te_s0 r k) : tb_bs r s := by
  have zz : ∀ k, 0 ≤ k → k < 453 → ((k ≠ 0 ∧ k ≠ 1 ∧ k ≠ 2) ∧ ¬ (31 ≤ k ∧ k < 35) ∧ k ≠ 51 ∧ k ≠ 52) → s k = 0 := fun k k0 k1 h => (hs k k0 k1).trans (te_s0z h)
  have h0 : s 0 = r 6 := hs 0 (by decide) (by decide)
  have h1 : s 1 = r 7 := hs 1 (by decide) (by decide)
  have h2 : s 2 = r 8 := hs 2 (by decide) (by decide)
  have h51 : s 51 = r 6 := hs 51 (by decide) (by decide)
  have h52 : s 52 = r 7 := hs 52 (by decide) (by decide)
  have hf : ∀ f, 0 ≤ f → f < 4 → s (31 + f) = r (57 + f) := fun f f0 f1 => (hs _ (by omega) (by omega)).trans (te_s0f f0 f1)
  have bn := bb.2.2.2.2.2.2.2.2.2.1
  have sc := bb.2.2.2.2.2.2.2.2.2.2
  have b6 : 0 ≤ r (6 + 0) ∧ r (6 + 0) ≤ 9 := bn (111, 6, 0, 9) (by decide) 0 (by decide) (by show 0 < r 111; omega)
  have b7 : 0 ≤ r (7 + 0) ∧ r (7 + 0) ≤ 9 := bn (111, 7, 0, 9) (by decide) 0 (by decide) (by show 0 < r 111; omega)
  have b8 : 0 ≤ r (8 + 0) ∧ r (8 + 0) ≤ 7 := bn (111, 8, 0, 7) (by decide) 0 (by decide) (by show 0 < r 111; omega)
  rw [show (6 : Int) + 0 = 6 by decide] at b6
  rw [show (7 : Int) + 0 = 7 by decide] at b7
  rw [show (8 : Int) + 0 = 8 by decide] at b8
  have z9 : s 9 = 0 := zz 9 (by decide) (by decide) (by decide)
  refine ⟨⟨by omega, by omega, by omega, ?_, ?_, ?_, ?_, ?_, ?_, by omega, ?_⟩, fun h a b => ?_, fun f a b => ⟨?_, ?_⟩, fun k a b => ?_, fun t a b => ?_, ⟨?_, ?_⟩, fun f a b q => ?_, fun l a b => ?_⟩
  · rw [zz 3 (by decide) (by decide) (by decide), z9]; decide
  · rw [zz 4 (by decide) (by decide) (by decide)]; decide
  · rw [zz 5 (by decide) (by decide) (by decide)]; decide
  · rw [zz 6 (by decide) (by decide) (by decide)]; decide
  · rw [zz 7 (by decide) (by decide) (by decide)]; decide
  · rw [zz 8 (by decide) (by decide) (by decide)]; decide
  · rw [zz 10 (by decide) (by decide) (by decide)]; decide
  · rw [zz (15 + h) (by omega) (by omega) (by omega), zz (21 + h) (by omega) (by omega) (by omega)]; decide
  · rw [zz (27 + f) (by omega) (by omega) (by omega)]; decide
  · rw [hf f a b]
    by_cases c : f < r 114
    · exact sc (114, 57) (by decide) f a c
    · rw [hz f (by omega) b]; omega
  · rw [zz (35 + k) (by omega) (by omega) (by omega), zz (43 + k) (by omega) (by omega) (by omega)]; decide
  · have t0 : t = 0 := by omega
    subst t0
    have e1 : s (51 + 2 * 0) = r 6 := h51
    have e2 : s (51 + 2 * 0 + 1) = r 7 := h52
    rw [e1, e2]
    exact ⟨b6, b7⟩
  · rw [z9, h0]; exact h51
  · rw [z9, h1]; exact h52
  · have b4 : r 114 ≤ 4 := bb.2.2.2.2.1.2
    have g := sc (114, 57) (by decide) f a b
    have g2 : r 112 ≤ 8 := bb.2.2.1.2
    have g3 : 0 ≤ r (57 + f) ∧ r (57 + f) < r 112 := g
    rw [hf f a (by omega)]
    exact zz _ (by omega) (by omega) (by omega)
  · have b7' : r 117 ≤ 4 := bb.2.2.2.2.2.2.2.1.2
    have e : s (11 + l) = 0 := zz _ (by omega) (by omega) (by omega)
    rw [e, z9]
    exact ⟨by decide, fun t t0 t1 => by omega, fun q => absurd q (by decide)⟩
end TEZERO
