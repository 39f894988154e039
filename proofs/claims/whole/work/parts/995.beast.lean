/-! BEAST 7: the call -/
section TEC4
variable {X : tb_X} {A B : tb_H} {K : Int → tb_H → Prop}
variable {x : Int}
theorem te_half48 (h : tb_Rel A) (h4 : A.2.2 4 1 = 11) (h8 : A.2.2 0 8 = 48) {A1 : tb_H} (fz : A1.1 1 10 = 0) (f1 : tb_fr (te_Sb 48) [] [] (tb_upI A 0 13 0) A1) (a2 : A1.1 1 2 = 0) (hC : ∀ C : tb_H, (∀ o, 77 ≤ o → C.1 o = A.1 o) → C.1 1 2 = A.1 1 2 ∨ True → ∃ B', (∀ K, te_go X x B' K → tb_Ci X 200 [tb_r 77, tb_i x] C K) ∧ (te_fR C B' ∧ B'.1 77 2 = 0 ∧ B'.1 77 11 = 0 ∧ B'.1 77 0 = 0) ∧ te_Al x 48 A1 B') : te_Half X x 48 A A1 := by
  obtain ⟨B0, _, _, ⟨N0, L0⟩, l0, l1, l2⟩ := hC A (fun _ _ => rfl) (Or.inr trivial)
  have bb := L0.2.2.2.2.2.2
  have rb := L0.2.2.2.2.2.1
  have n111 : 0 ≤ B0.1 81 111 ∧ B0.1 81 111 ≤ 1 := bb.2.1
  have n114 : 0 ≤ B0.1 81 114 ∧ B0.1 81 114 ≤ 4 := bb.2.2.2.2.1
  have bn := bb.2.2.2.2.2.2.2.2.2.1
  have u9 : 0 ≤ B0.1 81 6 ∧ B0.1 81 6 ≤ 9 := bn (111, 6, 0, 9) (by decide) 0 (by decide) (by show 0 < B0.1 81 111; omega)
  have v9 : 0 ≤ B0.1 81 7 ∧ B0.1 81 7 ≤ 9 := bn (111, 7, 0, 9) (by decide) 0 (by decide) (by show 0 < B0.1 81 111; omega)
  have oH : ∀ o, o ≠ 0 → (te_H0 A1 (A1.1 1 10) 0).1 o = A1.1 o := fun o ho => by rw [td_upo ho, td_upo ho, td_upo ho]
  have e1 : (te_H0 A1 (A1.1 1 10) 0).1 (48 + 1) = A1.1 (48 + 1) := oH _ (by decide)
  have e2 : (te_H0 A1 (A1.1 1 10) 0).1 (48 + 2) = A1.1 (48 + 2) := oH _ (by decide)
  obtain ⟨H', run, ⟨p4, p8⟩, g, ⟨y9, y10, y17, y42⟩, s5, s6, s7, s8, s9, s10⟩ := te_49 (X := X) (H := te_H0 A1 (A1.1 1 10) 0) tb_isS5 (b := 48) (by decide) tb_isB48 (t := 11) tb_isB11 ((f1.2.2 4 1 rfl).trans h4) ((f1.2.2 0 8 rfl).trans h8) (c := B0.1 81 114) (u := B0.1 81 6) (v := B0.1 81 7) (w := B0.1 81 8) (by rw [e1]; exact rb.1 4 (by decide) (by decide)) n114.1 n114.2 (by rw [e1, rb.1 1 (by decide) (by decide)]; show 0 < B0.1 81 111; omega) (by rw [e2]; exact rb.2 (48, 111, 6) (by decide) 0 (by decide) (by show 0 < B0.1 81 111; omega)) (by rw [e2]; exact rb.2 (49, 111, 7) (by decide) 0 (by decide) (by show 0 < B0.1 81 111; omega)) (by rw [e2]; exact rb.2 (50, 111, 8) (by decide) 0 (by decide) (by show 0 < B0.1 81 111; omega)) u9 v9
  have gb1 : H'.1 (48 + 1) = A1.1 (48 + 1) := funext fun k => (g.1 49 k rfl rfl).trans (congrFun e1 k)
  have gb2 : H'.1 (48 + 2) = A1.1 (48 + 2) := funext fun k => (g.1 50 k rfl rfl).trans (congrFun e2 k)
  have hH : ∀ o, 77 ≤ o → H'.1 o = A.1 o := by
    intro o ho
    funext k
    have n1 : ([5, 6, 7, 8, 9, 10] : List Nat).contains o = false := by simp; omega
    have n2 : ([(0, 9), (0, 10), (17, 4), (42, 2)] : List (Nat × Int)).contains (o, k) = false := by
      rw [← Bool.not_eq_true]
      intro hc
      simp at hc
      omega
    have n3 : (te_Sb 48).contains o = false := by
      rw [← Bool.not_eq_true]
      intro hc
      have q : ∀ q ∈ te_Sb 48, q < 77 := by decide
      have := q o (by simpa using hc)
      omega
    rw [g.1 o k n1 n2, oH o (by omega), f1.1 o k n3 rfl, td_upo (by omega)]
  obtain ⟨B', r', g', ⟨N', L'⟩, m0, m1, m2⟩ := hC H' hH (Or.inr trivial)
  have bb' := L'.2.2.2.2.2.2
  have rb' := L'.2.2.2.2.2.1
  have n111' : 0 ≤ B'.1 81 111 ∧ B'.1 81 111 ≤ 1 := bb'.2.1
  have n110' : 0 ≤ B'.1 81 110 ∧ B'.1 81 110 ≤ 1 := bb'.1
  have n112' : 0 ≤ B'.1 81 112 ∧ B'.1 81 112 ≤ 8 := bb'.2.2.1
  have n114' : 0 ≤ B'.1 81 114 ∧ B'.1 81 114 ≤ 4 := bb'.2.2.2.2.1
  obtain ⟨D, rD, d80, d82, ⟨d14, d19, d23, d27⟩, gD⟩ := te_189 (X := X) (B := B') (x1 := x)
  have dl : ∀ o k, o < 77 → D.1 o k = H'.1 o k := by
    intro o k ho
    have k1 : ([80, 82] : List Nat).contains o = false := by simp; omega
    have k2 : ([(77, 14), (77, 19), (77, 23), (77, 27)] : List (Nat × Int)).contains (o, k) = false := by
      rw [← Bool.not_eq_true]; intro hc; simp at hc; omega
    have k3 : ([79, 81] : List Nat).contains o = false := by simp; omega
    have k4 : ([(77, 0), (77, 2), (77, 3), (77, 4), (77, 5), (77, 6), (77, 7), (77, 8), (77, 9), (77, 10), (77, 11), (77, 13)] : List (Nat × Int)).contains (o, k) = false := by
      rw [← Bool.not_eq_true]; intro hc; simp at hc; omega
    rw [gD.1 o k k1 k2, g'.1.1 o k k3 k4]
  have dp : ∀ o k, D.2.2 o k = H'.2.2 o k := fun o k => (gD.2.2 o k rfl).trans (g'.1.2.2 o k rfl)
  have same : ∀ p ∈ tb_tab, ∀ l, 0 ≤ l → l < B'.1 81 p.2.1 → l < B0.1 81 p.2.1 → B0.1 81 (p.2.2 + l) = B'.1 81 (p.2.2 + l) := fun p hp l l0 l1 l2 => (rb.2 p hp l l0 l2).symm.trans (rb'.2 p hp l l0 l1)
  have cs : ∀ z, 0 ≤ z → z < 9 → B0.1 81 (110 + z) = B'.1 81 (110 + z) := fun z z0 z1 => (rb.1 z z0 z1).symm.trans (rb'.1 z z0 z1)
  have c114 : B0.1 81 114 = B'.1 81 114 := cs 4 (by decide) (by decide)
  have r6 : B'.1 81 6 = B0.1 81 6 := (same (48, 111, 6) (by decide) 0 (by decide) (by show 0 < B'.1 81 111; omega) (by show 0 < B0.1 81 111; omega)).symm
  have r7 : B'.1 81 7 = B0.1 81 7 := (same (49, 111, 7) (by decide) 0 (by decide) (by show 0 < B'.1 81 111; omega) (by show 0 < B0.1 81 111; omega)).symm
  have r8 : B'.1 81 8 = B0.1 81 8 := (same (50, 111, 8) (by decide) 0 (by decide) (by show 0 < B'.1 81 111; omega) (by show 0 < B0.1 81 111; omega)).symm
  have hz := L'.2.2.2.2.1.2
  refine run _ ⟨by rw [p4]; exact tb_isB48, ?_⟩
  rw [p4, e28g tb_isB48 (by decide) (by decide)]
  refine r' _ ⟨fun q => absurd L'.1.2 q, fun _ => rD _ ⟨?_, ?_⟩⟩
  · rw [gb1]
    exact rb'.1 2 (by decide) (by decide)
  have z17 : H'.1 17 3 = A.1 17 3 := by
    rw [g.1 17 3 rfl rfl, oH 17 (by decide), f1.1 17 3 rfl rfl, td_upo (by decide)]
  have q77 : ∀ k, k ≠ 14 → k ≠ 19 → k ≠ 23 → k ≠ 27 → D.1 77 k = B'.1 77 k := fun k a b c d => gD.1 77 k rfl (by
    rw [← Bool.not_eq_true]; intro hc; simp at hc; omega)
  have zero : H'.1 0 11 = 0 ∧ H'.1 0 13 = 0 := by
    refine ⟨?_, ?_⟩
    · rw [g.1 0 11 rfl rfl, tb_uI_k (by decide), tb_uI_k (by decide), tb_uI_s, fz]
    · rw [g.1 0 13 rfl rfl, tb_uI_s]
  refine ⟨⟨⟨?_, Or.inr d14⟩, ?_, ?_, fun q => ?_⟩, ⟨?_, ?_, fun k k0 k1 => ?_⟩, ?_, fun _ => ?_, tb_RU.t (by rw [d14]; decide), ⟨?_, ?_, fun i i0 i1 => ?_⟩, tb_RA.z d23 ?_ ?_, ⟨?_, ?_, fun i i0 i1 => ?_⟩, ?_⟩
  · rw [dl 0 9 (by decide), y9, d14]
  · rw [dl 0 13 (by decide), zero.2, q77 11 (by decide) (by decide) (by decide) (by decide), g'.2.2.1]
  · rw [dl 0 11 (by decide), zero.1, q77 9 (by decide) (by decide) (by decide) (by decide)]
    exact L'.2.1.2.1.2.2.symm
  · rw [q77 11 (by decide) (by decide) (by decide) (by decide), g'.2.2.1] at q
    exact absurd q (by decide)
  · rw [dl 1 2 (by decide), q77 2 (by decide) (by decide) (by decide) (by decide), g'.2.1, g.1 1 2 rfl rfl, oH 1 (by decide), a2]
  · rw [q77 2 (by decide) (by decide) (by decide) (by decide), g'.2.1]; decide
  · rw [q77 2 (by decide) (by decide) (by decide) (by decide), g'.2.1] at k1; omega
  · unfold tb_RB
    rw [dp, dp, p4, p8]
    decide
  · unfold tb_L
    rw [dp, p4]
    refine ⟨by decide, te_rbr d80 bb' ((funext fun k => dl 49 k (by decide)).trans gb1) ((funext fun k => dl 50 k (by decide)).trans gb2) rb', te_bbr d80 bb', ⟨?_, ?_, ?_⟩, te_rs0 (r := B'.1 81) (c := 0) d82 r6 r7 r8 (fun k k0 k1 => by rw [dl 5 k (by decide)]; exact s5 k k0 k1) (fun k k0 k1 => by rw [dl 6 k (by decide)]; exact s6 k k0 k1) (fun k k0 k1 => by rw [dl 7 k (by decide)]; exact s7 k k0 k1) (fun f f0 f1 => ?_) (fun k k0 k1 => by rw [dl 9 k (by decide)]; exact s9 k k0 k1) (by rw [dl 10 0 (by decide)]; exact s10), ?_⟩
    · rw [d80 110 (by decide) (by decide)]; omega
    · rw [d80 111 (by decide) (by decide)]; omega
    · rw [d80 112 (by decide) (by decide)]; omega
    · rw [dl 8 f (by decide), s8 f f0 f1]
      by_cases c : f < B0.1 81 114
      · rw [if_pos c, e2]
        exact rb'.2 (192, 114, 57) (by decide) f f0 (by show f < B'.1 81 114; omega)
      · rw [if_neg c, hz f (by omega) f1]
    · refine te_bs0 (te_bbr d80 bb') (by rw [d80 111 (by decide) (by decide)]; omega) (by rw [d80 112 (by decide) (by decide)]; omega) (fun f f0 f1 => ?_) (fun k k0 k1 => ?_)
      · rw [d80 114 (by decide) (by decide)] at f0
        rw [d80 (57 + f) (by omega) (by omega)]
        exact hz f f0 f1
      · rw [d82 k k0 k1]
        unfold te_s0
        rw [d80 6 (by decide) (by decide), d80 7 (by decide) (by decide), d80 8 (by decide) (by decide)]
        by_cases d : 31 ≤ k ∧ k < 35
        · rw [d80 (57 + (k - 31)) (by omega) (by omega)]
        · rw [if_neg d, if_neg d]
  · rw [dl 0 10 (by decide), y10, d19]
  · rw [d19]; decide
  · rw [d19] at i1; omega
  · rw [dl 17 4 (by decide), y17]
  · rw [dl 17 3 (by decide), z17]; exact h.2.2.2.2.2.2.1.2.2.1
  · rw [dl 42 2 (by decide), y42, d27]
  · rw [d27]; decide
  · rw [d27] at i1; omega
  · have P := h.2.2.2.2.2.2.2.2
    have pp : ∀ o k, o ≠ 0 → o ≠ 4 → D.2.2 o k = A.2.2 o k := fun o k h0 h4 => by
      rw [dp, g.2.2 o k (by simp; omega)]
      exact f1.2.2 o k rfl
    unfold tb_RP at P ⊢
    rw [pp 38 0 (by decide) (by decide), pp 38 1 (by decide) (by decide), pp 42 4 (by decide) (by decide), pp 42 5 (by decide) (by decide)]
    exact P
theorem te_half11 (h : tb_Rel A) (h4 : A.2.2 4 1 = 48) (h8 : A.2.2 0 8 = 11) {A1 : tb_H} (fz : A1.1 1 10 = 0) (f1 : tb_fr (te_Sb 11) [] [] (tb_upI A 0 13 0) A1) (a2 : A1.1 1 2 = 0) (hC : ∀ C : tb_H, (∀ o, 77 ≤ o → C.1 o = A.1 o) → C.1 1 2 = A.1 1 2 ∨ True → ∃ B', (∀ K, te_go X x B' K → tb_Ci X 200 [tb_r 77, tb_i x] C K) ∧ (te_fR C B' ∧ B'.1 77 2 = 0 ∧ B'.1 77 11 = 0 ∧ B'.1 77 0 = 0) ∧ te_Al x 11 A1 B') : te_Half X x 11 A A1 := by
  obtain ⟨B0, _, _, ⟨N0, L0⟩, l0, l1, l2⟩ := hC A (fun _ _ => rfl) (Or.inr trivial)
  have bb := L0.2.2.2.2.2.2
  have rb := L0.2.2.2.2.2.1
  have n111 : 0 ≤ B0.1 81 111 ∧ B0.1 81 111 ≤ 1 := bb.2.1
  have n114 : 0 ≤ B0.1 81 114 ∧ B0.1 81 114 ≤ 4 := bb.2.2.2.2.1
  have bn := bb.2.2.2.2.2.2.2.2.2.1
  have u9 : 0 ≤ B0.1 81 6 ∧ B0.1 81 6 ≤ 9 := bn (111, 6, 0, 9) (by decide) 0 (by decide) (by show 0 < B0.1 81 111; omega)
  have v9 : 0 ≤ B0.1 81 7 ∧ B0.1 81 7 ≤ 9 := bn (111, 7, 0, 9) (by decide) 0 (by decide) (by show 0 < B0.1 81 111; omega)
  have oH : ∀ o, o ≠ 0 → (te_H0 A1 (A1.1 1 10) 0).1 o = A1.1 o := fun o ho => by rw [td_upo ho, td_upo ho, td_upo ho]
  have e1 : (te_H0 A1 (A1.1 1 10) 0).1 (11 + 1) = A1.1 (11 + 1) := oH _ (by decide)
  have e2 : (te_H0 A1 (A1.1 1 10) 0).1 (11 + 2) = A1.1 (11 + 2) := oH _ (by decide)
  obtain ⟨H', run, ⟨p4, p8⟩, g, ⟨y9, y10, y17, y42⟩, s5, s6, s7, s8, s9, s10⟩ := te_49 (X := X) (H := te_H0 A1 (A1.1 1 10) 0) tb_isS5 (b := 11) (by decide) tb_isB11 (t := 48) tb_isB48 ((f1.2.2 4 1 rfl).trans h4) ((f1.2.2 0 8 rfl).trans h8) (c := B0.1 81 114) (u := B0.1 81 6) (v := B0.1 81 7) (w := B0.1 81 8) (by rw [e1]; exact rb.1 4 (by decide) (by decide)) n114.1 n114.2 (by rw [e1, rb.1 1 (by decide) (by decide)]; show 0 < B0.1 81 111; omega) (by rw [e2]; exact rb.2 (48, 111, 6) (by decide) 0 (by decide) (by show 0 < B0.1 81 111; omega)) (by rw [e2]; exact rb.2 (49, 111, 7) (by decide) 0 (by decide) (by show 0 < B0.1 81 111; omega)) (by rw [e2]; exact rb.2 (50, 111, 8) (by decide) 0 (by decide) (by show 0 < B0.1 81 111; omega)) u9 v9
  have gb1 : H'.1 (11 + 1) = A1.1 (11 + 1) := funext fun k => (g.1 12 k rfl rfl).trans (congrFun e1 k)
  have gb2 : H'.1 (11 + 2) = A1.1 (11 + 2) := funext fun k => (g.1 13 k rfl rfl).trans (congrFun e2 k)
  have hH : ∀ o, 77 ≤ o → H'.1 o = A.1 o := by
    intro o ho
    funext k
    have n1 : ([5, 6, 7, 8, 9, 10] : List Nat).contains o = false := by simp; omega
    have n2 : ([(0, 9), (0, 10), (17, 4), (42, 2)] : List (Nat × Int)).contains (o, k) = false := by
      rw [← Bool.not_eq_true]
      intro hc
      simp at hc
      omega
    have n3 : (te_Sb 11).contains o = false := by
      rw [← Bool.not_eq_true]
      intro hc
      have q : ∀ q ∈ te_Sb 11, q < 77 := by decide
      have := q o (by simpa using hc)
      omega
    rw [g.1 o k n1 n2, oH o (by omega), f1.1 o k n3 rfl, td_upo (by omega)]
  obtain ⟨B', r', g', ⟨N', L'⟩, m0, m1, m2⟩ := hC H' hH (Or.inr trivial)
  have bb' := L'.2.2.2.2.2.2
  have rb' := L'.2.2.2.2.2.1
  have n111' : 0 ≤ B'.1 81 111 ∧ B'.1 81 111 ≤ 1 := bb'.2.1
  have n110' : 0 ≤ B'.1 81 110 ∧ B'.1 81 110 ≤ 1 := bb'.1
  have n112' : 0 ≤ B'.1 81 112 ∧ B'.1 81 112 ≤ 8 := bb'.2.2.1
  have n114' : 0 ≤ B'.1 81 114 ∧ B'.1 81 114 ≤ 4 := bb'.2.2.2.2.1
  obtain ⟨D, rD, d80, d82, ⟨d14, d19, d23, d27⟩, gD⟩ := te_189 (X := X) (B := B') (x1 := x)
  have dl : ∀ o k, o < 77 → D.1 o k = H'.1 o k := by
    intro o k ho
    have k1 : ([80, 82] : List Nat).contains o = false := by simp; omega
    have k2 : ([(77, 14), (77, 19), (77, 23), (77, 27)] : List (Nat × Int)).contains (o, k) = false := by
      rw [← Bool.not_eq_true]; intro hc; simp at hc; omega
    have k3 : ([79, 81] : List Nat).contains o = false := by simp; omega
    have k4 : ([(77, 0), (77, 2), (77, 3), (77, 4), (77, 5), (77, 6), (77, 7), (77, 8), (77, 9), (77, 10), (77, 11), (77, 13)] : List (Nat × Int)).contains (o, k) = false := by
      rw [← Bool.not_eq_true]; intro hc; simp at hc; omega
    rw [gD.1 o k k1 k2, g'.1.1 o k k3 k4]
  have dp : ∀ o k, D.2.2 o k = H'.2.2 o k := fun o k => (gD.2.2 o k rfl).trans (g'.1.2.2 o k rfl)
  have same : ∀ p ∈ tb_tab, ∀ l, 0 ≤ l → l < B'.1 81 p.2.1 → l < B0.1 81 p.2.1 → B0.1 81 (p.2.2 + l) = B'.1 81 (p.2.2 + l) := fun p hp l l0 l1 l2 => (rb.2 p hp l l0 l2).symm.trans (rb'.2 p hp l l0 l1)
  have cs : ∀ z, 0 ≤ z → z < 9 → B0.1 81 (110 + z) = B'.1 81 (110 + z) := fun z z0 z1 => (rb.1 z z0 z1).symm.trans (rb'.1 z z0 z1)
  have c114 : B0.1 81 114 = B'.1 81 114 := cs 4 (by decide) (by decide)
  have r6 : B'.1 81 6 = B0.1 81 6 := (same (48, 111, 6) (by decide) 0 (by decide) (by show 0 < B'.1 81 111; omega) (by show 0 < B0.1 81 111; omega)).symm
  have r7 : B'.1 81 7 = B0.1 81 7 := (same (49, 111, 7) (by decide) 0 (by decide) (by show 0 < B'.1 81 111; omega) (by show 0 < B0.1 81 111; omega)).symm
  have r8 : B'.1 81 8 = B0.1 81 8 := (same (50, 111, 8) (by decide) 0 (by decide) (by show 0 < B'.1 81 111; omega) (by show 0 < B0.1 81 111; omega)).symm
  have hz := L'.2.2.2.2.1.2
  refine run _ ⟨by rw [p4]; exact tb_isB11, ?_⟩
  rw [p4, e28g tb_isB11 (by decide) (by decide)]
  refine r' _ ⟨fun q => absurd L'.1.2 q, fun _ => rD _ ⟨?_, ?_⟩⟩
  · rw [gb1]
    exact rb'.1 2 (by decide) (by decide)
  have z17 : H'.1 17 3 = A.1 17 3 := by
    rw [g.1 17 3 rfl rfl, oH 17 (by decide), f1.1 17 3 rfl rfl, td_upo (by decide)]
  have q77 : ∀ k, k ≠ 14 → k ≠ 19 → k ≠ 23 → k ≠ 27 → D.1 77 k = B'.1 77 k := fun k a b c d => gD.1 77 k rfl (by
    rw [← Bool.not_eq_true]; intro hc; simp at hc; omega)
  have zero : H'.1 0 11 = 0 ∧ H'.1 0 13 = 0 := by
    refine ⟨?_, ?_⟩
    · rw [g.1 0 11 rfl rfl, tb_uI_k (by decide), tb_uI_k (by decide), tb_uI_s, fz]
    · rw [g.1 0 13 rfl rfl, tb_uI_s]
  refine ⟨⟨⟨?_, Or.inr d14⟩, ?_, ?_, fun q => ?_⟩, ⟨?_, ?_, fun k k0 k1 => ?_⟩, ?_, fun _ => ?_, tb_RU.t (by rw [d14]; decide), ⟨?_, ?_, fun i i0 i1 => ?_⟩, tb_RA.z d23 ?_ ?_, ⟨?_, ?_, fun i i0 i1 => ?_⟩, ?_⟩
  · rw [dl 0 9 (by decide), y9, d14]
  · rw [dl 0 13 (by decide), zero.2, q77 11 (by decide) (by decide) (by decide) (by decide), g'.2.2.1]
  · rw [dl 0 11 (by decide), zero.1, q77 9 (by decide) (by decide) (by decide) (by decide)]
    exact L'.2.1.2.1.2.2.symm
  · rw [q77 11 (by decide) (by decide) (by decide) (by decide), g'.2.2.1] at q
    exact absurd q (by decide)
  · rw [dl 1 2 (by decide), q77 2 (by decide) (by decide) (by decide) (by decide), g'.2.1, g.1 1 2 rfl rfl, oH 1 (by decide), a2]
  · rw [q77 2 (by decide) (by decide) (by decide) (by decide), g'.2.1]; decide
  · rw [q77 2 (by decide) (by decide) (by decide) (by decide), g'.2.1] at k1; omega
  · unfold tb_RB
    rw [dp, dp, p4, p8]
    decide
  · unfold tb_L
    rw [dp, p4]
    refine ⟨by decide, te_rbr d80 bb' ((funext fun k => dl 12 k (by decide)).trans gb1) ((funext fun k => dl 13 k (by decide)).trans gb2) rb', te_bbr d80 bb', ⟨?_, ?_, ?_⟩, te_rs0 (r := B'.1 81) (c := 0) d82 r6 r7 r8 (fun k k0 k1 => by rw [dl 5 k (by decide)]; exact s5 k k0 k1) (fun k k0 k1 => by rw [dl 6 k (by decide)]; exact s6 k k0 k1) (fun k k0 k1 => by rw [dl 7 k (by decide)]; exact s7 k k0 k1) (fun f f0 f1 => ?_) (fun k k0 k1 => by rw [dl 9 k (by decide)]; exact s9 k k0 k1) (by rw [dl 10 0 (by decide)]; exact s10), ?_⟩
    · rw [d80 110 (by decide) (by decide)]; omega
    · rw [d80 111 (by decide) (by decide)]; omega
    · rw [d80 112 (by decide) (by decide)]; omega
    · rw [dl 8 f (by decide), s8 f f0 f1]
      by_cases c : f < B0.1 81 114
      · rw [if_pos c, e2]
        exact rb'.2 (192, 114, 57) (by decide) f f0 (by show f < B'.1 81 114; omega)
      · rw [if_neg c, hz f (by omega) f1]
    · refine te_bs0 (te_bbr d80 bb') (by rw [d80 111 (by decide) (by decide)]; omega) (by rw [d80 112 (by decide) (by decide)]; omega) (fun f f0 f1 => ?_) (fun k k0 k1 => ?_)
      · rw [d80 114 (by decide) (by decide)] at f0
        rw [d80 (57 + f) (by omega) (by omega)]
        exact hz f f0 f1
      · rw [d82 k k0 k1]
        unfold te_s0
        rw [d80 6 (by decide) (by decide), d80 7 (by decide) (by decide), d80 8 (by decide) (by decide)]
        by_cases d : 31 ≤ k ∧ k < 35
        · rw [d80 (57 + (k - 31)) (by omega) (by omega)]
        · rw [if_neg d, if_neg d]
  · rw [dl 0 10 (by decide), y10, d19]
  · rw [d19]; decide
  · rw [d19] at i1; omega
  · rw [dl 17 4 (by decide), y17]
  · rw [dl 17 3 (by decide), z17]; exact h.2.2.2.2.2.2.1.2.2.1
  · rw [dl 42 2 (by decide), y42, d27]
  · rw [d27]; decide
  · rw [d27] at i1; omega
  · have P := h.2.2.2.2.2.2.2.2
    have pp : ∀ o k, o ≠ 0 → o ≠ 4 → D.2.2 o k = A.2.2 o k := fun o k h0 h4 => by
      rw [dp, g.2.2 o k (by simp; omega)]
      exact f1.2.2 o k rfl
    unfold tb_RP at P ⊢
    rw [pp 38 0 (by decide) (by decide), pp 38 1 (by decide) (by decide), pp 42 4 (by decide) (by decide), pp 42 5 (by decide) (by decide)]
    exact P
theorem c4 (h : tb_Rel A) {x : Int} : tb_Ci X 4 [tb_r 0, tb_i x] A (tb_A2 X 200 [tb_r 77, tb_i x]) := by
  by_cases hx : 0 ≤ x ∧ x ≤ A.1 1 2
  · rcases h.2.2.1 with ⟨h4, h8⟩ | ⟨h4, h8⟩
    · exact te_c4y48 h h4 h8 hx (fun A1 fz f1 a2 hC => te_half48 h h4 h8 fz f1 a2 hC)
    · exact te_c4y11 h h4 h8 hx (fun A1 fz f1 a2 hC => te_half11 h h4 h8 fz f1 a2 hC)
  · exact te_c4n h hx
end TEC4
