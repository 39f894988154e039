/-! the calls: seed, move, tie, pay, scrape, undo -/
section TBACTS3
variable {X : tb_X} {A D : tb_H} {K : Int → tb_H → Prop} {Kv : tb_H → Prop}
theorem tb_frr {A1 A2 : tb_H} (hf : tb_fa A A1) (h : A2 = A1) : tb_fa A A2 := by rw [h]; exact hf
theorem tb_i32 (x : Int) : -2147483648 ≤ tb_w x ∧ tb_w x < 2147483648 := ⟨tb_w_lo x, tb_w_hi x⟩
theorem tb_L.tf (L : tb_L A) : (0 ≤ A.1 5 10 ∧ A.1 5 10 < 64) := L.2.2.2.2.1.2.1.1
theorem c59 (h : tb_Rel A) {x : Int} : tb_Ci X 59 [tb_r 0, tb_i x] A (tb_A2 X 232 [tb_r 77, tb_i x]) := by
  rcases h.t01 with t | t
  · refine q59 ⟨fun q => absurd (h.told.trans t) q, fun _ => r6n (by decide) ?_⟩
    refine q232 ?_
    rw [e201g]
    exact ⟨fun q => absurd (tb_g14.trans t) q, fun _ => tb_nt h (by decide)⟩
  · have t0 : A.1 77 14 ≠ 0 := by rw [t]; decide
    have L := h.L t0
    have s := L.sc0
    have z := L.s0
    refine q59 ⟨fun _ => ?_, fun q => absurd (h.told.symm.trans q) t0⟩
    by_cases hx : 0 ≤ x ∧ x ≤ 65536
    · rw [e5f hx, if_pos rfl]
      refine r6z ?_
      refine q232 ?_
      rw [e201]
      refine ⟨fun _ => ?_, fun q => absurd q t0⟩
      rw [e202t hx]
      refine ⟨fun _ => ⟨rfl, ?_⟩, fun q => absurd q (by decide)⟩
      have hf : tb_fa A (tb_upI (tb_upI (tb_upI (tb_upI (tb_upI A 0 13 0) 5 1 x) 77 0 0) 77 11 0) 82 10 x) := by
        repeat refine tb_fr.upI ?_ rfl
        exact tb_fr.refl
      have e82 : ∀ k, k ≠ 10 → (tb_upI (tb_upI (tb_upI (tb_upI (tb_upI A 0 13 0) 5 1 x) 77 0 0) 77 11 0) 82 10 x).1 82 k = A.1 82 k := fun k hk => by simp [tb_uI1, hk]
      refine h.ac hf t0 rfl (by show (0 : Int) ≠ 4; decide) ?_ ?_ h.P
      · refine L.act hf (fun k _ _ k10 _ _ _ => e82 k k10) (fun k k1 _ _ _ => by simp [tb_uI1, k1]) rfl rfl rfl ⟨s.2.2.2.2.2.1, z.2.2.2.2.1⟩ ⟨s.2.2.2.2.2.2.2.2.2, z.2.2.2.2.2.2.2.2.1⟩ ⟨rfl, hx⟩ ⟨L.tf, fun j a b => ?_⟩ (fun j a b => ?_) (fun j a b => ?_) (fun j a b c => ?_)
        · rw [e82 _ (by omega)]; exact ⟨L.tie a b, (L.s15 a b).2⟩
        · rw [e82 _ (by omega)]; exact ⟨L.ho a b, (L.s27 a b).2⟩
        · rw [e82 _ (by omega)]; exact ⟨L.ba a b, (L.s35 a b).2⟩
        · rw [e82 _ (by omega)]; exact L.th a b c
      · have hA := h.2.2.2.2.2.2.1
        have c1 := L.c112
        have c3 := L.c113
        refine ⟨hA.1, hA.2.1, hA.2.2.1, fun j a b => ?_⟩
        have g := hA.2.2.2 j a b
        refine ⟨g.1, ?_⟩
        rcases g.2 with k | k | k | k
        · refine Or.inl ⟨k.1, k.2.1, k.2.2.1, k.2.2.2.1, k.2.2.2.2.1, ?_⟩
          have e := e82 (35 + A.1 86 j) (by omega)
          exact e.trans k.2.2.2.2.2
        · refine Or.inr (Or.inl ⟨k.1, k.2.1, k.2.2.1, k.2.2.2.1, k.2.2.2.2.1, fun m => ?_⟩)
          have e := e82 (21 + A.1 85 j) (by omega)
          exact e.trans (k.2.2.2.2.2 m)
        · exact Or.inr (Or.inr (Or.inl k))
        · exact Or.inr (Or.inr (Or.inr k))
    · rw [e5t hx, if_neg (by decide)]
      refine r6n (by decide) ?_
      refine q232 ?_
      rw [e201g]
      refine ⟨fun _ => ?_, fun q => absurd (tb_g14.symm.trans q) t0⟩
      rw [e202f hx]
      exact ⟨fun q => absurd rfl q, fun _ => tb_nt h (by decide)⟩
def tb_dP (A : tb_H) (x : Int) : tb_H := tb_upI (tb_upI (tb_upI (tb_upI (tb_upI (tb_upI (tb_nh (tb_upI A 0 13 0) 2 x 0) 5 5 (tb_w (A.1 5 5 - x))) 5 9 (tb_w (A.1 5 9 + x))) 77 0 0) 77 11 0) 82 4 (tb_w (A.1 82 4 - x))) 82 8 (tb_w (A.1 82 8 + x))
theorem c122 (h : tb_Rel A) {x : Int} : tb_Ci X 122 [tb_r 0, tb_i x] A (tb_A2 X 275 [tb_r 77, tb_i x]) := by
  rcases h.t01 with t | t
  · refine q122 ⟨fun q => absurd (h.told.trans t) q, fun _ => r6n (by decide) ?_⟩
    refine q275 ?_
    rw [e201g]
    exact ⟨fun q => absurd (tb_g14.trans t) q, fun _ => tb_nt h (by decide)⟩
  · have t0 : A.1 77 14 ≠ 0 := by rw [t]; decide
    have L := h.L t0
    have s := L.sc0
    have z := L.s0
    have hA := h.2.2.2.2.2.2.1
    refine q122 ⟨fun _ => ?_, fun q => absurd (h.told.symm.trans q) t0⟩
    by_cases hx : 1 ≤ x ∧ x ≤ 99
    · rw [e5f hx, if_pos rfl, s.2.2.2.2.2.1]
      by_cases hc : x ≤ A.1 82 4
      · rw [if_pos hc]
        refine r6z ?_
        rw [e119 (A := tb_upI A 0 13 0) hA.2.2.1 (by rw [show (tb_upI A 0 13 0).1 17 4 = A.1 17 4 from rfl, hA.1]; exact hA.2.1)]
        refine q275 ?_
        rw [e201]
        refine ⟨fun _ => ?_, fun q => absurd q t0⟩
        rw [e202t hx]
        refine ⟨fun _ => ⟨fun _ => ?_, fun q => absurd q (by show ¬ (A.1 82 4 < x); omega)⟩, fun q => absurd q (by decide)⟩
        show tb_Ci X 273 [tb_r 77, tb_i 2, tb_i 0, tb_i x] (tb_dP A x) _
        have hf : tb_fa A (tb_dP A x) := by
          unfold tb_dP tb_nh
          repeat refine tb_fr.upI ?_ rfl
          exact tb_fr.refl
        have e82 : ∀ k, k ≠ 4 → k ≠ 8 → (tb_dP A x).1 82 k = A.1 82 k := fun k hk hl => by simp [tb_dP, tb_nh, tb_uI1, hk, hl]
        refine h.push (th' := x) (old := 0) t0 hf rfl rfl rfl rfl rfl (fun q hq => ?_) ?_ rfl rfl rfl rfl ?_ (fun j a b => e82 _ (by omega) (by omega)) (fun j a b _ => e82 _ (by omega) (by omega)) (Or.inr (Or.inr (Or.inl ⟨rfl, rfl⟩)))
        · simp [tb_dP, tb_nh, tb_uI1, hq]
        · simp [tb_dP, tb_nh, tb_uI1]
        · refine L.act hf (fun k k4 k8 _ _ _ _ => e82 k k4 k8) (fun k _ k5 k9 _ => by simp [tb_dP, tb_nh, tb_uI1, k5, k9]) rfl rfl rfl ⟨?_, tb_i32 _⟩ ⟨?_, tb_i32 _⟩ ⟨s.2.1, z.2.2.2.2.2.2.2.2.2.2⟩ ⟨L.tf, fun j a b => ?_⟩ (fun j a b => ?_) (fun j a b => ?_) (fun j a b c => ?_)
          · show tb_w (A.1 5 5 - x) = tb_w (A.1 82 4 - x)
            rw [s.2.2.2.2.2.1]
          · show tb_w (A.1 5 9 + x) = tb_w (A.1 82 8 + x)
            rw [s.2.2.2.2.2.2.2.2.2]
          · rw [e82 _ (by omega) (by omega)]; exact ⟨L.tie a b, (L.s15 a b).2⟩
          · rw [e82 _ (by omega) (by omega)]; exact ⟨L.ho a b, (L.s27 a b).2⟩
          · rw [e82 _ (by omega) (by omega)]; exact ⟨L.ba a b, (L.s35 a b).2⟩
          · have b4 := L.c114
            rw [e82 _ (by omega) (by omega)]; exact L.th a b c
      · rw [if_neg hc]
        refine r6n (by decide) ?_
        refine q275 ?_
        rw [e201g]
        refine ⟨fun _ => ?_, fun q => absurd (tb_g14.symm.trans q) t0⟩
        rw [e202t hx]
        refine ⟨fun _ => ⟨fun q => absurd q (by rw [tb_g82]; exact hc), fun _ => tb_nt h (by decide)⟩, fun q => absurd q (by decide)⟩
    · rw [e5t hx, if_neg (by decide)]
      refine r6n (by decide) ?_
      refine q275 ?_
      rw [e201g]
      refine ⟨fun _ => ?_, fun q => absurd (tb_g14.symm.trans q) t0⟩
      rw [e202f hx]
      exact ⟨fun q => absurd rfl q, fun _ => tb_nt h (by decide)⟩
end TBACTS3
