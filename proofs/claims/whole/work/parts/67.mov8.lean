/-! MOVES 8: trimAt -/
section TEMOV8
variable {X : tb_X} {A B C : tb_H} {K : Int → tb_H → Prop} {Kv : tb_H → Prop}
theorem te264y (t : A.1 77 14 ≠ 0) {x : Int} (h : 0 ≤ x ∧ x < A.1 80 114) (c4 : A.1 80 114 ≤ 4) : tb_Ci X 264 [tb_r 77, tb_i x] A K = K 1 A := by
  refine tb_dei (q264 ⟨fun q => absurd q t, fun _ => ?_⟩)
  rw [tb_w_id (by omega) (by omega), e202t (by omega), if_neg (by decide)]
  exact ⟨rfl, rfl⟩
theorem e138 {x : Int} (h0 : 0 ≤ x) (h1 : x < 4) : tb_Ci X 138 [tb_r 21, tb_i x] A K = K (A.1 25 x) A := tb_dei (q138 (by rw [if_neg (by omega), if_pos h1]; exact ⟨rfl, rfl⟩))
theorem c137 (h : tb_Rel A) {a b x : Int} : tb_Ci X 137 [tb_r 0, tb_i a, tb_i b, tb_i x] A (tb_A2 X 286 [tb_r 77, tb_i a, tb_i b, tb_i x]) := by
  refine q137 ?_
  by_cases hx : A.1 77 14 ≠ 0 ∧ 0 ≤ x ∧ x < A.1 80 114
  · have L0 := h.L hx.1
    have c4 := L0.c114
    have L := tb_Lu (k := 0) L0
    rw [e109y_4 h hx]
    refine ⟨fun q => absurd rfl q, fun _ => ?_⟩
    rw [e69 L0 hx.2.1 (by omega)]
    by_cases ht : A.1 82 (27 + x) = 0
    · rw [if_pos ht]
      refine ⟨fun _ => ?_, fun q => absurd rfl q⟩
      by_cases hb : (0 ≤ a ∧ a ≤ 9999) ∧ 0 ≤ b ∧ b ≤ 9999
      · rw [e128t hb, if_pos rfl]
        refine r6z ?_
        refine sp129 L (fun B n o z fB hz bB => ?_)
        rw [tb_u80, tb_u82] at bB hz
        have fA : tb_fr tb_S0 tb_F0 [] A B := (tb_fr.upI tb_fr.refl rfl).trans (fB.mono rfl rfl rfl)
        have e80 : B.1 80 = A.1 80 := funext fun q => fA.1 80 q rfl rfl
        have e82 : B.1 82 = A.1 82 := funext fun q => fA.1 82 q rfl rfl
        have n0 := bB.nn c4.1
        have ref : ∀ (k : Int) (K : Int → tb_H → Prop), (n = -2 → ∀ C, tb_fr [90, 91] [] [] (te_gg (tb_upI B 0 13 k)) C → K (-1) (tb_upI C 77 11 6)) → (n ≠ -2 → ∀ C, tb_fr [90, 91] [] [] (te_gg (tb_upI B 0 13 k)) C → K (z x) C) → tb_Ci X 286 [tb_r 77, tb_i a, tb_i b, tb_i x] (tb_upI B 0 13 k) K := by
          intro k K k2 k1
          have g80 : (te_gg (tb_upI B 0 13 k)).1 80 = A.1 80 := by rw [td_upo (by decide), td_upo (by decide), td_upo (by decide)]; exact e80
          have g82 : (te_gg (tb_upI B 0 13 k)).1 82 = A.1 82 := by rw [td_upo (by decide), td_upo (by decide), td_upo (by decide)]; exact e82
          have M1 : tc_M (te_gg (tb_upI B 0 13 k)) := L0.M.c g80 g82
          have g14 : (te_gg (tb_upI B 0 13 k)).1 77 14 ≠ 0 := by
            rw [tb_uI_k (by decide), tb_uI_k (by decide), td_upo (by decide), fA.1 77 14 rfl rfl]
            exact hx.1
          refine q286 ?_
          rw [e201, te264y g14 (by rw [g80]; exact hx.2) (by rw [g80]; exact c4.2)]
          refine ⟨fun q => absurd q (by decide), fun _ => ?_⟩
          rw [tb_w_id (x := 27 + x) (by omega) (by omega), g82]
          refine ⟨⟨by omega, by omega⟩, fun _ => ?_, fun q => absurd ht q⟩
          rw [e279t hb]
          refine ⟨fun _ => ?_, fun q => absurd q (by decide)⟩
          refine sp280 M1 (fun C n' o' z' fC hz' bC => ?_)
          rw [g80, g82] at bC hz'
          have u := bB.u bC L0.c112.2 c4
          rw [← u.1] at hz' ⊢
          refine ⟨fun q => ⟨⟨hx.2.1, by omega⟩, ?_⟩, fun q => ?_⟩
          · rw [hz' q x hx.2.1 hx.2.2 ht, ← u.2 q x hx.2.1 hx.2.2 ht]
            exact k1 q C fC
          · rw [e203]
            exact k2 q C fC
        have fin : ∀ k, ∀ C, tb_fr [90, 91] [] [] (te_gg (tb_upI B 0 13 k)) C → tb_fr tb_S0 tb_F0 [] A C ∧ C.1 0 13 = k ∧ C.1 77 11 = 0 := by
          intro k C fC
          refine ⟨(tb_fr.upI (tb_fr.upI (tb_fr.upI fA rfl) rfl) rfl).trans (fC.mono rfl rfl rfl), ?_, ?_⟩
          · rw [fC.1 0 13 rfl rfl, td_upo (by decide), td_upo (by decide), tb_uI_s]
          · rw [fC.1 77 11 rfl rfl, tb_uI_s]
        by_cases q2 : n = -2
        · rw [if_neg (by omega)]
          refine r6n (by decide) ?_
          refine ref 6 _ (fun _ C fC => ⟨rfl, ?_⟩) (fun q => absurd q2 q)
          have f := fin 6 C fC
          refine te_fin h (tb_fr.upI f.1 rfl) ?_ ?_
          · rw [tb_uI_s, td_upo (by decide)]; exact f.2.1
          · rw [tb_uI_s]; decide
        · rw [if_pos (by omega)]
          refine r6z ?_
          rw [e138 hx.2.1 (by omega), td_upo (by decide), hz q2 x hx.2.1 hx.2.2 ht]
          refine ref 0 _ (fun q => absurd q q2) (fun _ C fC => ⟨rfl, ?_⟩)
          have f := fin 0 C fC
          exact te_fin h f.1 (by rw [f.2.1, f.2.2]) (by rw [f.2.2]; decide)
      · rw [e128f hb, if_neg (by decide)]
        refine r6n (by decide) ?_
        refine q286 ?_
        rw [e201g, e264y h hx]
        refine ⟨fun q => absurd q (by decide), fun _ => ?_⟩
        rw [tb_w_id (x := 27 + x) (by omega) (by omega), tb_g82]
        refine ⟨⟨by omega, by omega⟩, fun _ => ?_, fun q => absurd ht q⟩
        rw [e279f hb]
        exact ⟨fun q => absurd rfl q, fun _ => tb_no h (by decide)⟩
    · rw [if_neg ht]
      refine ⟨fun q => absurd q (by decide), fun _ => ?_⟩
      refine r6n (by decide) ?_
      refine q286 ?_
      rw [e201g, e264y h hx]
      refine ⟨fun q => absurd q (by decide), fun _ => ?_⟩
      rw [tb_w_id (x := 27 + x) (by omega) (by omega), tb_g82]
      exact ⟨⟨by omega, by omega⟩, fun q => absurd q ht, fun _ => tb_no h (by decide)⟩
  · rw [e109n_4 h hx]
    refine ⟨fun _ => r6n (by decide) ?_, fun q => absurd q (by decide)⟩
    refine q286 ?_
    rw [e201g, e264n h hx]
    exact ⟨fun _ => tb_no h (by decide), fun q => absurd rfl q⟩
end TEMOV8
