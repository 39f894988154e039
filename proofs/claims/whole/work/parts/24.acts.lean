/-! ACTS: move, tie, pay, scrape, undo; seed -/
section TBACTS
variable {X : tb_X} {A A2 : tb_H} {K : Int → tb_H → Prop} {Kv : tb_H → Prop}
theorem tb_lm {E : Int → Prop} {m n : Int} (he : E n) (hs : ∀ i, m ≤ i → i < n → E (i + 1) → E i) : ∀ (k : Nat) (i : Int), m ≤ i → i + k = n → E i := by
  intro k
  induction k with
  | zero =>
    intro i h0 h1
    have : i = n := by omega
    rw [this]; exact he
  | succ k ih =>
    intro i h0 h1
    exact hs i h0 (by omega) (ih (i + 1) (by omega) (by omega))
theorem tb_tglF : ∀ x : Fin 64, ∀ h : Fin 6, (0 ≤ tb_xor x.val (tb_shl 1 h.val) ∧ tb_xor x.val (tb_shl 1 h.val) < 64) ∧ ∀ j : Fin 6, tb_and (tb_shr (tb_xor x.val (tb_shl 1 h.val)) j.val) 1 = if j = h then 1 - tb_and (tb_shr x.val h.val) 1 else tb_and (tb_shr x.val j.val) 1 := by decide +kernel
theorem tb_tgl {x h : Int} (x0 : 0 ≤ x) (x1 : x < 64) (h0 : 0 ≤ h) (h1 : h < 6) : (0 ≤ tb_xor x (tb_shl 1 h) ∧ tb_xor x (tb_shl 1 h) < 64) ∧ ∀ j, 0 ≤ j → j < 6 → tb_and (tb_shr (tb_xor x (tb_shl 1 h)) j) 1 = if j = h then 1 - tb_and (tb_shr x h) 1 else tb_and (tb_shr x j) 1 := by
  obtain ⟨a, rfl⟩ := Int.eq_ofNat_of_zero_le x0
  obtain ⟨b, rfl⟩ := Int.eq_ofNat_of_zero_le h0
  have t := tb_tglF ⟨a, by omega⟩ ⟨b, by omega⟩
  refine ⟨t.1, fun j j0 j1 => ?_⟩
  obtain ⟨c, rfl⟩ := Int.eq_ofNat_of_zero_le j0
  have t2 := t.2 ⟨c, by omega⟩
  rw [t2]
  by_cases e : c = b
  · subst e
    rw [if_pos rfl, if_pos rfl]
  · rw [if_neg (fun q => e (by simpa using congrArg Fin.val q)), if_neg (fun q => e (by omega))]
/-- what an act may change of what stands on the back -/
theorem tb_L.act (L : tb_L A) (hf : tb_fa A A2) (he : ∀ k, k ≠ 4 → k ≠ 8 → k ≠ 10 → ¬ (21 ≤ k ∧ k < 27) → ¬ (31 ≤ k ∧ k < 35) → ¬ (43 ≤ k ∧ k < 51) → A2.1 82 k = A.1 82 k)
    (hc : ∀ k, k ≠ 1 → k ≠ 5 → k ≠ 9 → k ≠ 10 → A2.1 5 k = A.1 5 k) (h6 : A2.1 6 = A.1 6) (h7 : A2.1 7 = A.1 7) (h10 : A2.1 10 = A.1 10)
    (s4 : A2.1 5 5 = A2.1 82 4 ∧ -2147483648 ≤ A2.1 82 4 ∧ A2.1 82 4 < 2147483648) (s8 : A2.1 5 9 = A2.1 82 8 ∧ -2147483648 ≤ A2.1 82 8 ∧ A2.1 82 8 < 2147483648) (s10 : A2.1 5 1 = A2.1 82 10 ∧ 0 ≤ A2.1 82 10 ∧ A2.1 82 10 ≤ 65536)
    (st : (0 ≤ A2.1 5 10 ∧ A2.1 5 10 < 64) ∧ ∀ h, 0 ≤ h → h < 6 → tb_and (tb_shr (A2.1 5 10) h) 1 = A2.1 82 (21 + h) ∧ 0 ≤ A2.1 82 (21 + h) ∧ A2.1 82 (21 + h) ≤ 1)
    (sh : ∀ f, 0 ≤ f → f < 4 → A2.1 8 f = A2.1 82 (31 + f) ∧ 0 ≤ A2.1 82 (31 + f) ∧ A2.1 82 (31 + f) < A.1 80 112)
    (sb : ∀ k, 0 ≤ k → k < 8 → A2.1 9 k = A2.1 82 (43 + k) ∧ 0 ≤ A2.1 82 (43 + k) ∧ A2.1 82 (43 + k) ≤ 9)
    (th : ∀ f, 0 ≤ f → f < A.1 80 114 → A.1 82 (27 + f) = 0 → A.1 82 (35 + A2.1 82 (31 + f)) = 0) : tb_L A2 := by
  have c4 := L.c114
  have c7 := L.c117
  have c2 := L.c112
  have z := L.s0
  have e80 : A2.1 80 = A.1 80 := by
    funext k
    exact hf.1 80 k rfl rfl
  obtain ⟨hb, h3, h4, h5, h6', h7'⟩ := L
  have o12 : A2.1 12 = A.1 12 := by
    funext k
    exact hf.1 12 k rfl rfl
  have o13 : A2.1 13 = A.1 13 := by
    funext k
    exact hf.1 13 k rfl rfl
  have o49 : A2.1 49 = A.1 49 := by
    funext k
    exact hf.1 49 k rfl rfl
  have o50 : A2.1 50 = A.1 50 := by
    funext k
    exact hf.1 50 k rfl rfl
  have p4 : A2.2.2 4 1 = A.2.2 4 1 := hf.2.2 4 1 rfl
  unfold tb_L
  rw [p4, e80]
  refine ⟨hb, ?_, h4, h5, ?_, ?_⟩
  · unfold tb_rb at h3 ⊢
    rcases hb with hb | hb <;> rw [hb] at h3 ⊢
    · rw [show (11 + 1 : Nat) = 12 from rfl, show (11 + 2 : Nat) = 13 from rfl] at h3 ⊢
      rw [o12, o13]; exact h3
    · rw [show (48 + 1 : Nat) = 49 from rfl, show (48 + 2 : Nat) = 50 from rfl] at h3 ⊢
      rw [o49, o50]; exact h3
  · obtain ⟨⟨a0, a1, a2, a3, a4, a5, a6, a7, a8, a9⟩, _, ⟨g0, g1⟩, f1, f2, f3, f4, f5⟩ := h6'
    refine ⟨⟨?_, s10.1, ?_, ?_, ?_, s4.1, ?_, ?_, ?_, s8.1⟩, ⟨st.1, fun h b c => (st.2 h b c).1⟩, ⟨?_, fun k b c => ?_⟩, fun h b c => ?_, fun h b c => ?_, fun h b c => (sh h b c).1, fun h b c => (sb h b c).1, fun t b c => ?_⟩
    · rw [hc 0 (by decide) (by decide) (by decide) (by decide), he 9 (by decide) (by decide) (by decide) (by decide) (by decide) (by decide)]; exact a0
    · rw [hc 2 (by decide) (by decide) (by decide) (by decide), he 1 (by decide) (by decide) (by decide) (by decide) (by decide) (by decide), he 0 (by decide) (by decide) (by decide) (by decide) (by decide) (by decide)]; exact a2
    · rw [hc 3 (by decide) (by decide) (by decide) (by decide), he 2 (by decide) (by decide) (by decide) (by decide) (by decide) (by decide)]; exact a3
    · rw [hc 4 (by decide) (by decide) (by decide) (by decide), he 3 (by decide) (by decide) (by decide) (by decide) (by decide) (by decide)]; exact a4
    · rw [hc 6 (by decide) (by decide) (by decide) (by decide), he 5 (by decide) (by decide) (by decide) (by decide) (by decide) (by decide)]; exact a6
    · rw [hc 7 (by decide) (by decide) (by decide) (by decide), he 6 (by decide) (by decide) (by decide) (by decide) (by decide) (by decide)]; exact a7
    · rw [hc 8 (by decide) (by decide) (by decide) (by decide), he 7 (by decide) (by decide) (by decide) (by decide) (by decide) (by decide)]; exact a8
    · rw [hc 11 (by decide) (by decide) (by decide) (by decide)]; exact g0
    · rw [hc 11 (by decide) (by decide) (by decide) (by decide), he (35 + k) (by omega) (by omega) (by omega) (by omega) (by omega) (by omega)]; exact g1 k b c
    · show A2.1 6 h = _
      rw [h6, he (15 + h) (by omega) (by omega) (by omega) (by omega) (by omega) (by omega)]; exact f1 h b c
    · show A2.1 7 h = _
      rw [h7, he (27 + h) (by omega) (by omega) (by omega) (by omega) (by omega) (by omega)]; exact f2 h b c
    · rw [he 9 (by decide) (by decide) (by decide) (by decide) (by decide) (by decide)] at c
      show A2.1 10 t = _
      rw [h10, he (51 + 2 * t + 1) (by omega) (by omega) (by omega) (by omega) (by omega) (by omega), he (51 + 2 * t) (by omega) (by omega) (by omega) (by omega) (by omega) (by omega)]; exact f5 t b c
  · obtain ⟨⟨a0, a1, a2, a3, a4, a5, a6, a7, a8, a9, a10⟩, b1, b2, b3, b4, b5, b6, b7⟩ := h7'
    have e9 := he 9 (by decide) (by decide) (by decide) (by decide) (by decide) (by decide)
    have e0 := he 0 (by decide) (by decide) (by decide) (by decide) (by decide) (by decide)
    have e1 := he 1 (by decide) (by decide) (by decide) (by decide) (by decide) (by decide)
    refine ⟨⟨?_, ?_, ?_, ?_, s4.2, ?_, ?_, ?_, s8.2, ?_, s10.2⟩, fun h b c => ⟨?_, (st.2 h b c).2⟩, fun f b c => ⟨?_, (sh f b c).2⟩, fun k b c => ⟨?_, (sb k b c).2⟩, fun t b c => ?_, ?_, fun f b c d => ?_, fun l b c => ?_⟩
    · rw [e0]; exact a0
    · rw [e1]; exact a1
    · rw [he 2 (by decide) (by decide) (by decide) (by decide) (by decide) (by decide)]; exact a2
    · rw [he 3 (by decide) (by decide) (by decide) (by decide) (by decide) (by decide), e9]; exact a3
    · rw [he 5 (by decide) (by decide) (by decide) (by decide) (by decide) (by decide)]; exact a5
    · rw [he 6 (by decide) (by decide) (by decide) (by decide) (by decide) (by decide)]; exact a6
    · rw [he 7 (by decide) (by decide) (by decide) (by decide) (by decide) (by decide)]; exact a7
    · rw [e9]; exact a9
    · rw [he (15 + h) (by omega) (by omega) (by omega) (by omega) (by omega) (by omega)]; exact (b1 h b c).1
    · rw [he (27 + f) (by omega) (by omega) (by omega) (by omega) (by omega) (by omega)]; exact (b2 f b c).1
    · rw [he (35 + k) (by omega) (by omega) (by omega) (by omega) (by omega) (by omega)]; exact (b3 k b c).1
    · rw [e9] at c
      rw [he (51 + 2 * t + 1) (by omega) (by omega) (by omega) (by omega) (by omega) (by omega), he (51 + 2 * t) (by omega) (by omega) (by omega) (by omega) (by omega) (by omega)]; exact b4 t b c
    · rw [e9, e0, e1, he (51 + 2 * A.1 82 9) (by omega) (by omega) (by omega) (by omega) (by omega) (by omega), he (51 + 2 * A.1 82 9 + 1) (by omega) (by omega) (by omega) (by omega) (by omega) (by omega)]; exact b5
    · rw [he (27 + f) (by omega) (by omega) (by omega) (by omega) (by omega) (by omega)] at d
      have g := sh f b (by omega)
      rw [he (35 + A2.1 82 (31 + f)) (by omega) (by omega) (by omega) (by omega) (by omega) (by omega)]
      exact th f b c d
    · have g := b7 l b c
      rw [e9, he (11 + l) (by omega) (by omega) (by omega) (by omega) (by omega) (by omega)]
      have nr : ∀ t, 0 ≤ t → (tb_nr (A.1 80) (A2.1 82) l t ↔ tb_nr (A.1 80) (A.1 82) l t) := by
        intro t ht
        unfold tb_nr
        rw [he (51 + 2 * t + 1) (by omega) (by omega) (by omega) (by omega) (by omega) (by omega), he (51 + 2 * t) (by omega) (by omega) (by omega) (by omega) (by omega) (by omega)]
      exact ⟨g.1, fun t p q => (nr t (by omega)).mpr (g.2.1 t p q), fun p q => g.2.2 p ((nr _ (by omega)).mp q)⟩
/-- a new act -/
theorem tb_RA.push (h : tb_RA A) {d n kd th' of old was : Int} (hd : (d = 0 ∧ A.1 77 23 < 30) ∨ (d = 1 ∧ A.1 77 23 = 30)) (hn : n = A.1 77 23 + 1 - d) (n1 : A2.1 77 23 = n) (n2 : A2.1 17 4 = n) (tp : A2.1 17 3 = (A.1 17 3 + 1) % 30)
    (a0 : ∀ j, 0 ≤ j → j < n - 1 → A2.1 84 j = A.1 84 (j + d) ∧ A2.1 85 j = A.1 85 (j + d) ∧ A2.1 86 j = A.1 86 (j + d)) (a1 : A2.1 84 (n - 1) = kd ∧ A2.1 85 (n - 1) = of ∧ A2.1 86 (n - 1) = was)
    (b0 : ∀ q, 0 ≤ q → q < 30 → q ≠ A.1 17 3 → A2.1 18 q = A.1 18 q ∧ A2.1 19 q = A.1 19 q ∧ A2.1 20 q = A.1 20 q) (b1 : A2.1 18 (A.1 17 3) = kd ∧ A2.1 19 (A.1 17 3) = th' ∧ A2.1 20 (A.1 17 3) = old)
    (e80 : A2.1 80 = A.1 80) (eg : ∀ k, 0 ≤ k → k < 8 → A2.1 82 (35 + k) = A.1 82 (35 + k)) (c : A.1 80 112 ≤ 8)
    (et : ∀ k, 0 ≤ k → k < A.1 80 113 → ¬ (kd = 1 ∧ of = k) → A2.1 82 (21 + k) = A.1 82 (21 + k))
    (hk : (kd = 0 ∧ th' = of ∧ old = was ∧ (0 ≤ of ∧ of < A.1 80 114) ∧ (0 ≤ was ∧ was < A.1 80 112) ∧ A.1 82 (35 + was) = 0) ∨ (kd = 1 ∧ th' = of ∧ (0 ≤ of ∧ of < A.1 80 113) ∧ (was = 0 ∨ was = 1) ∧ A.1 82 (21 + of) = was ∧ A2.1 82 (21 + of) = 1 - was) ∨ (kd = 2 ∧ th' = was) ∨ (kd = 3 ∧ th' = of ∧ old = was ∧ (0 ≤ of ∧ of < A.1 80 112) ∧ (0 ≤ was ∧ was ≤ 9))) : tb_RA A2 := by
  obtain ⟨h1, h2, h3, h4⟩ := h
  refine ⟨by rw [n1, n2], by rw [n1]; omega, by rw [tp]; omega, ?_⟩
  intro j j0 j1
  rw [n1] at j1
  by_cases hj : j = n - 1
  · -- the new one
    have rg : tb_rg A2 j = A.1 17 3 := by
      unfold tb_rg
      rw [n1, tp]
      omega
    rw [rg, hj, a1.1, a1.2.1, a1.2.2, b1.1, b1.2.1, b1.2.2, e80]
    refine ⟨rfl, ?_⟩
    rcases hk with k | k | k | k
    · refine Or.inl ⟨k.1, k.2.1, k.2.2.1, k.2.2.2.1, k.2.2.2.2.1, ?_⟩
      rw [eg was k.2.2.2.2.1.1 (by omega)]
      exact k.2.2.2.2.2
    · refine Or.inr (Or.inl ⟨k.1, k.2.1, k.2.2.1, k.2.2.2.1, ?_, fun _ => k.2.2.2.2.2⟩)
      intro j' p q
      rw [n1] at q
      omega
    · exact Or.inr (Or.inr (Or.inl ⟨k.1, k.2⟩))
    · exact Or.inr (Or.inr (Or.inr ⟨k.1, k.2.1, k.2.2.1, k.2.2.2.1, k.2.2.2.2⟩))
  · have g := h4 (j + d) (by omega) (by omega)
    have a := a0 j j0 (by omega)
    have rg : tb_rg A2 j = tb_rg A (j + d) := by
      unfold tb_rg
      rw [n1, tp]
      omega
    have rb : 0 ≤ tb_rg A (j + d) ∧ tb_rg A (j + d) < 30 ∧ tb_rg A (j + d) ≠ A.1 17 3 := by
      unfold tb_rg
      omega
    have b := b0 _ rb.1 rb.2.1 rb.2.2
    rw [rg, a.1, a.2.1, a.2.2, b.1, b.2.1, b.2.2, e80]
    refine ⟨g.1, ?_⟩
    rcases g.2 with k | k | k | k
    · refine Or.inl ⟨k.1, k.2.1, k.2.2.1, k.2.2.2.1, k.2.2.2.2.1, ?_⟩
      rw [eg _ k.2.2.2.2.1.1 (by omega)]
      exact k.2.2.2.2.2
    · refine Or.inr (Or.inl ⟨k.1, k.2.1, k.2.2.1, k.2.2.2.1, ?_, ?_⟩)
      · intro j' p q t m
        rw [n1] at q
        by_cases hj' : j' = n - 1
        · subst hj'
          unfold tc_ty at t
          rw [a1.1, a1.2.1] at t
          rw [a1.2.2]
          have kk : A.1 82 (21 + of) = was := by
            rcases hk with z | z | z | z
            · omega
            · exact z.2.2.2.2.1
            · omega
            · omega
          rw [← kk, t.2]
          refine k.2.2.2.2.2 ?_
          intro m' m0 m1 mt
          have am := a0 (m' - d) (by omega) (by omega)
          rw [show m' - d + d = m' by omega] at am
          refine m (m' - d) (by omega) (by omega) ?_
          unfold tc_ty at mt ⊢
          rw [am.1, am.2.1]
          exact mt
        · have aj := a0 j' (by omega) (by omega)
          rw [aj.2.2]
          refine k.2.2.2.2.1 (j' + d) (by omega) (by omega) ?_ ?_
          · unfold tc_ty at t ⊢
            rw [aj.1, aj.2.1] at t
            exact t
          · intro m' m0 m1 mt
            have am := a0 (m' - d) (by omega) (by omega)
            rw [show m' - d + d = m' by omega] at am
            refine m (m' - d) (by omega) (by omega) ?_
            unfold tc_ty at mt ⊢
            rw [am.1, am.2.1]
            exact mt
      · intro m
        rw [n1] at m
        have nt : ¬ (kd = 1 ∧ of = A.1 85 (j + d)) := by
          intro q
          refine m (n - 1) (by omega) (by omega) ?_
          unfold tc_ty
          rw [a1.1, a1.2.1]
          exact q
        rw [et _ k.2.2.1.1 k.2.2.1.2 nt]
        refine k.2.2.2.2.2 ?_
        intro m' m0 m1 mt
        have am := a0 (m' - d) (by omega) (by omega)
        rw [show m' - d + d = m' by omega] at am
        refine m (m' - d) (by omega) (by omega) ?_
        unfold tc_ty at mt ⊢
        rw [am.1, am.2.1]
        exact mt
    · exact Or.inr (Or.inr (Or.inl ⟨k.1, k.2⟩))
    · exact Or.inr (Or.inr (Or.inr ⟨k.1, k.2.1, k.2.2.1, k.2.2.2.1, k.2.2.2.2⟩))
/-- the latest is taken back -/
theorem tb_RA.pop (h : tb_RA A) {n : Int} (hn : n = A.1 77 23 - 1) (h0 : 0 ≤ n) (n1 : A2.1 77 23 = n) (n2 : A2.1 17 4 = n) (tp : A2.1 17 3 = (A.1 17 3 + 29) % 30)
    (o84 : A2.1 84 = A.1 84) (o85 : A2.1 85 = A.1 85) (o86 : A2.1 86 = A.1 86) (o18 : A2.1 18 = A.1 18) (o19 : A2.1 19 = A.1 19) (o20 : A2.1 20 = A.1 20)
    (e80 : A2.1 80 = A.1 80) (eg : ∀ k, 0 ≤ k → k < 8 → A2.1 82 (35 + k) = A.1 82 (35 + k)) (c : A.1 80 112 ≤ 8)
    (et : ∀ k, 0 ≤ k → k < A.1 80 113 → ¬ tc_ty A k n → A2.1 82 (21 + k) = A.1 82 (21 + k)) (eu : A.1 84 n = 1 → A2.1 82 (21 + A.1 85 n) = A.1 86 n) : tb_RA A2 := by
  obtain ⟨h1, h2, h3, h4⟩ := h
  have ety : ∀ k m, tc_ty A2 k m ↔ tc_ty A k m := by
    intro k m
    unfold tc_ty
    rw [o84, o85]
  refine ⟨by rw [n1, n2], by rw [n1]; omega, by rw [tp]; omega, ?_⟩
  intro j j0 j1
  rw [n1] at j1
  have g := h4 j (by omega) (by omega)
  have rg : tb_rg A2 j = tb_rg A j := by
    unfold tb_rg
    rw [n1, tp]
    omega
  rw [rg, o84, o85, o86, o18, o19, o20, e80]
  refine ⟨g.1, ?_⟩
  rcases g.2 with k | k | k | k
  · refine Or.inl ⟨k.1, k.2.1, k.2.2.1, k.2.2.2.1, k.2.2.2.2.1, ?_⟩
    rw [eg _ k.2.2.2.2.1.1 (by omega)]
    exact k.2.2.2.2.2
  · refine Or.inr (Or.inl ⟨k.1, k.2.1, k.2.2.1, k.2.2.2.1, ?_, ?_⟩)
    · intro j' p q t m
      rw [n1] at q
      exact k.2.2.2.2.1 j' p (by omega) ((ety _ _).mp t) (fun m' m0 m1 mt => m m' m0 m1 ((ety _ _).mpr mt))
    · intro m
      rw [n1] at m
      have m' : ∀ m', j < m' → m' < n → ¬ tc_ty A (A.1 85 j) m' := fun m' m0 m1 mt => m m' m0 m1 ((ety _ _).mpr mt)
      by_cases t : tc_ty A (A.1 85 j) n
      · have e := k.2.2.2.2.1 n j1 (by omega) t m'
        have u := eu t.1
        rw [t.2] at u
        rw [u, e]
      · rw [et _ k.2.2.1.1 k.2.2.1.2 t]
        refine k.2.2.2.2.2 ?_
        intro q q0 q1
        by_cases hq : q = n
        · rw [hq]; exact t
        · exact m' q q0 (by omega)
  · exact Or.inr (Or.inr (Or.inl ⟨k.1, k.2⟩))
  · exact Or.inr (Or.inr (Or.inr ⟨k.1, k.2.1, k.2.2.1, k.2.2.2.1, k.2.2.2.2⟩))
end TBACTS
