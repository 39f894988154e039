/-! BEAST 2: a fault, and what stands when there was none -/
section TEBG
variable {X : tb_X} {A B A0 B0 D : tb_H} {K : Int → tb_H → Prop} {Kv : tb_H → Prop}
variable {x : Int}
abbrev te_H0 (A1 : tb_H) (v t : Int) : tb_H := tb_upI (tb_upI (tb_upI A1 0 11 v) 0 12 (A1.1 1 11)) 0 13 t
/-- the second half of a beast that is told rightly -/
def te_Half (X : tb_X) (x : Int) (b : Nat) (A A1 : tb_H) : Prop := tb_Cv X 49 [tb_r 0] (te_H0 A1 (A1.1 1 10) 0) (fun A80 => (tb_isB (A80.2.2 4 1)) ∧ tb_Ci X 28 [tb_r (A80.2.2 4 1), tb_i 2] A80 (fun v83 A82 => tb_A2 X 200 [tb_r 77, tb_i x] v83 A82))
theorem te_c4y48 (h : tb_Rel A) (h4 : A.2.2 4 1 = 11) (h8 : A.2.2 0 8 = 48) (hx : 0 ≤ x ∧ x ≤ A.1 1 2) (ok : ∀ A1 : tb_H, A1.1 1 10 = 0 → tb_fr (te_Sb 48) [] [] (tb_upI A 0 13 0) A1 → A1.1 1 2 = 0 → (∀ C : tb_H, (∀ o, 77 ≤ o → C.1 o = A.1 o) → C.1 1 2 = A.1 1 2 ∨ True → ∃ B', (∀ K, te_go X x B' K → tb_Ci X 200 [tb_r 77, tb_i x] C K) ∧ (te_fR C B' ∧ B'.1 77 2 = 0 ∧ B'.1 77 11 = 0 ∧ B'.1 77 0 = 0) ∧ te_Al x 48 A1 B') → te_Half X x 48 A A1) : tb_Ci X 4 [tb_r 0, tb_i x] A (tb_A2 X 200 [tb_r 77, tb_i x]) := by
  have rt := h.2.1
  refine q4 ?_
  rw [e3, e5f hx, if_pos rfl, e6, if_pos rfl]
  have e8 : (tb_upI A 0 13 0).2.2 0 8 = 48 := h8
  rw [e8]
  refine ⟨fun _ => ⟨tb_isB48, ?_⟩, fun q => absurd rfl q⟩
  have two : ∀ C : tb_H, (∀ o, 77 ≤ o → C.1 o = A.1 o) → ∃ A' B', (∀ K, K (A'.1 1 10) A' → tb_Ci X 7 [tb_r 1, tb_i x, tb_r 48] (tb_upI A 0 13 0) K) ∧ (∀ K, te_go X x B' K → tb_Ci X 200 [tb_r 77, tb_i x] C K) ∧ (tb_fr (te_Sb 48) [] [] (tb_upI A 0 13 0) A' ∧ A'.1 1 2 = 0) ∧ (te_fR C B' ∧ B'.1 77 2 = 0 ∧ B'.1 77 11 = 0 ∧ B'.1 77 0 = 0) ∧ (te_Fl A' B' ∨ te_Al x 48 A' B') := by
    intro C hC
    have c77 : C.1 77 = A.1 77 := hC 77 (by decide)
    have c78 : C.1 78 = A.1 78 := hC 78 (by decide)
    have a1 : (tb_upI A 0 13 0).1 1 = A.1 1 := td_upo (by decide)
    have a2 : (tb_upI A 0 13 0).1 2 = A.1 2 := td_upo (by decide)
    exact te_7 (X := X) (A := tb_upI A 0 13 0) (B := C) tb_isB48 hx.1 (by rw [a1]; exact hx.2) (by rw [c77, c78, a1, a2]; exact rt)
  obtain ⟨A1, B1, c1, _, f1, _, _⟩ := two A (fun o ho => rfl)
  refine c1 _ ?_
  rw [e48]
  have e11 : (tb_upI A1 0 11 (A1.1 1 10)).1 0 11 = A1.1 1 10 := tb_uI_s
  have e12 : (tb_upI A1 0 11 (A1.1 1 10)).1 1 11 = A1.1 1 11 := by rw [td_upo (by decide)]
  rw [e11, e12]
  by_cases fz : A1.1 1 10 = 0
  · rw [if_pos fz, e6, if_pos rfl]
    refine ⟨fun _ => ok A1 fz f1.1 f1.2 (fun C hC _ => ?_), fun q => absurd rfl q⟩
    obtain ⟨A2, B2, c2, r2, f2, g2, fin⟩ := two C hC
    have e := te_onlyc c1 c2
    rw [e.2] at fin
    rcases fin with fl | al
    · exact absurd fz fl.1
    · exact ⟨B2, r2, g2, al⟩
  · rw [if_neg fz]
    refine r6n (by decide) ?_
    have hC : ∀ o, 77 ≤ o → (te_H0 A1 (A1.1 1 10) 4).1 o = A.1 o := by
      intro o ho
      rw [td_upo (by omega), td_upo (by omega), td_upo (by omega)]
      have e : A1.1 o = (tb_upI A 0 13 0).1 o := funext fun k => f1.1.1 o k (by
        have : ∀ q ∈ te_Sb 48, q < 77 := by decide
        rw [← Bool.not_eq_true]
        intro hc
        have := this o (by simpa using hc)
        omega) rfl
      rw [e, td_upo (by omega)]
    obtain ⟨A2, B2, c2, r2, f2, g2, fin⟩ := two (te_H0 A1 (A1.1 1 10) 4) hC
    have e := te_onlyc c1 c2
    rw [e.2] at fin
    rcases fin with fl | al
    · refine r2 _ ⟨fun _ => ?_, fun z => absurd z fl.2.1⟩
      rw [e203]
      have s0 : ∀ k, B2.1 0 k = (te_H0 A1 (A1.1 1 10) 4).1 0 k := fun k => g2.1.1 0 k rfl rfl
      have s1 : B2.1 1 2 = (te_H0 A1 (A1.1 1 10) 4).1 1 2 := g2.1.1 1 2 rfl rfl
      refine ⟨rfl, te_relF48 h h4 ?_ ⟨?_, ?_, ?_, ?_⟩ ⟨?_, ?_⟩⟩
      · have a : tb_fr [1, 3, 48, 49, 50, 51, 52, 79, 81] te_BF [] A (tb_upI A 0 13 0) := tb_fr.upI tb_fr.refl rfl
        have c : tb_fr [1, 3, 48, 49, 50, 51, 52, 79, 81] te_BF [] (tb_upI A 0 13 0) A1 := f1.1.mono rfl rfl rfl
        have d : tb_fr [1, 3, 48, 49, 50, 51, 52, 79, 81] te_BF [] A (te_H0 A1 (A1.1 1 10) 4) := tb_fr.upI (tb_fr.upI (tb_fr.upI (a.trans c) rfl) rfl) rfl
        exact tb_fr.upI (d.trans (g2.1.mono rfl rfl rfl)) rfl
      · rw [td_upo (by decide), s0, tb_uI_s]
      · rw [tb_uI_s]
      · rw [td_upo (by decide), s0, tb_uI_k (by decide), tb_uI_k (by decide), tb_uI_s, tb_uI_k (by decide)]
        exact fl.2.2.1
      · rw [td_upo (by decide), s0, tb_uI_k (by decide), tb_uI_s, tb_uI_k (by decide)]
        exact fl.2.2.2
      · rw [td_upo (by decide), s1, td_upo (by decide), td_upo (by decide), td_upo (by decide)]
        exact f1.2
      · rw [tb_uI_k (by decide)]
        exact g2.2.1
    · obtain ⟨⟨N, L0⟩, _⟩ := al
      exact absurd L0.1.1 fz
theorem te_c4y11 (h : tb_Rel A) (h4 : A.2.2 4 1 = 48) (h8 : A.2.2 0 8 = 11) (hx : 0 ≤ x ∧ x ≤ A.1 1 2) (ok : ∀ A1 : tb_H, A1.1 1 10 = 0 → tb_fr (te_Sb 11) [] [] (tb_upI A 0 13 0) A1 → A1.1 1 2 = 0 → (∀ C : tb_H, (∀ o, 77 ≤ o → C.1 o = A.1 o) → C.1 1 2 = A.1 1 2 ∨ True → ∃ B', (∀ K, te_go X x B' K → tb_Ci X 200 [tb_r 77, tb_i x] C K) ∧ (te_fR C B' ∧ B'.1 77 2 = 0 ∧ B'.1 77 11 = 0 ∧ B'.1 77 0 = 0) ∧ te_Al x 11 A1 B') → te_Half X x 11 A A1) : tb_Ci X 4 [tb_r 0, tb_i x] A (tb_A2 X 200 [tb_r 77, tb_i x]) := by
  have rt := h.2.1
  refine q4 ?_
  rw [e3, e5f hx, if_pos rfl, e6, if_pos rfl]
  have e8 : (tb_upI A 0 13 0).2.2 0 8 = 11 := h8
  rw [e8]
  refine ⟨fun _ => ⟨tb_isB11, ?_⟩, fun q => absurd rfl q⟩
  have two : ∀ C : tb_H, (∀ o, 77 ≤ o → C.1 o = A.1 o) → ∃ A' B', (∀ K, K (A'.1 1 10) A' → tb_Ci X 7 [tb_r 1, tb_i x, tb_r 11] (tb_upI A 0 13 0) K) ∧ (∀ K, te_go X x B' K → tb_Ci X 200 [tb_r 77, tb_i x] C K) ∧ (tb_fr (te_Sb 11) [] [] (tb_upI A 0 13 0) A' ∧ A'.1 1 2 = 0) ∧ (te_fR C B' ∧ B'.1 77 2 = 0 ∧ B'.1 77 11 = 0 ∧ B'.1 77 0 = 0) ∧ (te_Fl A' B' ∨ te_Al x 11 A' B') := by
    intro C hC
    have c77 : C.1 77 = A.1 77 := hC 77 (by decide)
    have c78 : C.1 78 = A.1 78 := hC 78 (by decide)
    have a1 : (tb_upI A 0 13 0).1 1 = A.1 1 := td_upo (by decide)
    have a2 : (tb_upI A 0 13 0).1 2 = A.1 2 := td_upo (by decide)
    exact te_7 (X := X) (A := tb_upI A 0 13 0) (B := C) tb_isB11 hx.1 (by rw [a1]; exact hx.2) (by rw [c77, c78, a1, a2]; exact rt)
  obtain ⟨A1, B1, c1, _, f1, _, _⟩ := two A (fun o ho => rfl)
  refine c1 _ ?_
  rw [e48]
  have e11 : (tb_upI A1 0 11 (A1.1 1 10)).1 0 11 = A1.1 1 10 := tb_uI_s
  have e12 : (tb_upI A1 0 11 (A1.1 1 10)).1 1 11 = A1.1 1 11 := by rw [td_upo (by decide)]
  rw [e11, e12]
  by_cases fz : A1.1 1 10 = 0
  · rw [if_pos fz, e6, if_pos rfl]
    refine ⟨fun _ => ok A1 fz f1.1 f1.2 (fun C hC _ => ?_), fun q => absurd rfl q⟩
    obtain ⟨A2, B2, c2, r2, f2, g2, fin⟩ := two C hC
    have e := te_onlyc c1 c2
    rw [e.2] at fin
    rcases fin with fl | al
    · exact absurd fz fl.1
    · exact ⟨B2, r2, g2, al⟩
  · rw [if_neg fz]
    refine r6n (by decide) ?_
    have hC : ∀ o, 77 ≤ o → (te_H0 A1 (A1.1 1 10) 4).1 o = A.1 o := by
      intro o ho
      rw [td_upo (by omega), td_upo (by omega), td_upo (by omega)]
      have e : A1.1 o = (tb_upI A 0 13 0).1 o := funext fun k => f1.1.1 o k (by
        have : ∀ q ∈ te_Sb 11, q < 77 := by decide
        rw [← Bool.not_eq_true]
        intro hc
        have := this o (by simpa using hc)
        omega) rfl
      rw [e, td_upo (by omega)]
    obtain ⟨A2, B2, c2, r2, f2, g2, fin⟩ := two (te_H0 A1 (A1.1 1 10) 4) hC
    have e := te_onlyc c1 c2
    rw [e.2] at fin
    rcases fin with fl | al
    · refine r2 _ ⟨fun _ => ?_, fun z => absurd z fl.2.1⟩
      rw [e203]
      have s0 : ∀ k, B2.1 0 k = (te_H0 A1 (A1.1 1 10) 4).1 0 k := fun k => g2.1.1 0 k rfl rfl
      have s1 : B2.1 1 2 = (te_H0 A1 (A1.1 1 10) 4).1 1 2 := g2.1.1 1 2 rfl rfl
      refine ⟨rfl, te_relF11 h h4 ?_ ⟨?_, ?_, ?_, ?_⟩ ⟨?_, ?_⟩⟩
      · have a : tb_fr [1, 3, 11, 12, 13, 14, 15, 79, 81] te_BF [] A (tb_upI A 0 13 0) := tb_fr.upI tb_fr.refl rfl
        have c : tb_fr [1, 3, 11, 12, 13, 14, 15, 79, 81] te_BF [] (tb_upI A 0 13 0) A1 := f1.1.mono rfl rfl rfl
        have d : tb_fr [1, 3, 11, 12, 13, 14, 15, 79, 81] te_BF [] A (te_H0 A1 (A1.1 1 10) 4) := tb_fr.upI (tb_fr.upI (tb_fr.upI (a.trans c) rfl) rfl) rfl
        exact tb_fr.upI (d.trans (g2.1.mono rfl rfl rfl)) rfl
      · rw [td_upo (by decide), s0, tb_uI_s]
      · rw [tb_uI_s]
      · rw [td_upo (by decide), s0, tb_uI_k (by decide), tb_uI_k (by decide), tb_uI_s, tb_uI_k (by decide)]
        exact fl.2.2.1
      · rw [td_upo (by decide), s0, tb_uI_k (by decide), tb_uI_s, tb_uI_k (by decide)]
        exact fl.2.2.2
      · rw [td_upo (by decide), s1, td_upo (by decide), td_upo (by decide), td_upo (by decide)]
        exact f1.2
      · rw [tb_uI_k (by decide)]
        exact g2.2.1
    · obtain ⟨⟨N, L0⟩, _⟩ := al
      exact absurd L0.1.1 fz
end TEBG
