/-! A DAY: goes; days, the call -/
section TBDAYS
variable {X : tb_X} {A : tb_H} {σ : Int → Int} {K : Int → tb_H → Prop} {Kv : tb_H → Prop}
theorem tb_L.mk (G : tc_G A (A.1 82)) (hl : td_lg A (A.1 82) (A.1 82 9)) (hp : td_P (A.1 80) (A.1 82)) : tb_L A := by
  obtain ⟨h1, h2, h3, h4, ⟨a1, a2, a3, a4, a5, a6, a7⟩, ⟨b1, b2, b3, b4⟩⟩ := G
  exact ⟨h1, h2, h3, h4, ⟨a1, a2, a3, a4, a5, a6, a7, fun t t0 t1 => (hl t t0 t1).1⟩, ⟨b1, b2, b3, b4, fun t t0 t1 => (hl t t0 t1).2, hp.1, hp.2.1, hp.2.2⟩⟩
theorem tb_L.lgs (L : tb_L A) : td_lg A (A.1 82) (A.1 82 9) := fun t t0 t1 => ⟨L.lg t0 t1, L.s51 t0 t1⟩
theorem tb_L.P (L : tb_L A) : td_P (A.1 80) (A.1 82) := ⟨L.now, fun f f0 f1 q => L.th f0 f1 q, L.2.2.2.2.2.2.2.2.2.2.2.2⟩
theorem sp356 (M : tc_M A) (hn : ∀ l, 0 ≤ l → l < A.1 80 117 → 0 ≤ A.1 82 (11 + l) ∧ A.1 82 (11 + l) ≤ 200) (x : Int) (k : ∀ A', tb_fr [82] [] [] A A' → A'.1 82 = td_nrs (A.1 80) (A.1 82) → Kv A') : tb_E X 235 356 [tb_r 77, tb_i x, tb_i 0] [] A (tb_Rv 235 Kv) := by
  have c7 := M.c117
  have z := M.z
  have key := tb_lp (n := A.1 80 117) (E := fun i => ∀ A2 : tb_H, tb_fr [82] [] [] A A2 → A2.1 82 = td_it (td_dN (A.1 80)) i.toNat (A.1 82) → tb_E X 235 356 [tb_r 77, tb_i x, tb_i i] [] A2 (tb_Rv 235 Kv)) c7.1 ?_ ?_
  · exact key A tb_fr.refl rfl
  · intro A2 f2 e2
    have e80 : A2.1 80 = A.1 80 := funext (fun k => f2.1 80 k rfl rfl)
    exact qx235_356 ⟨fun _ => k A2 f2 e2, fun q => by rw [e80] at q; omega⟩
  · intro i i0 i1 ih A2 f2 e2
    have e80 : A2.1 80 = A.1 80 := funext (fun k => f2.1 80 k rfl rfl)
    have z2 : tb_bz (A.1 80) (A2.1 82) := by
      rw [e2]
      exact td_it_bz (N := 4) (fun i s i0 i1 z => z.dN i0 i1) z _ (by omega)
    have v1 := M.v81 i0 i1
    have v5 := M.v85 i0 i1
    have zn := z2.1
    have o7 := (tb_o4 zn.2.2.2.2.2.2.2.1.1 zn.2.2.2.2.2.2.2.1.2).1
    have n11 : A2.1 82 (11 + i) = A.1 82 (11 + i) := by rw [e2, td_it_dN_k (by omega) (by omega)]
    have nb := hn i i0 i1
    rw [td_it_s i0, ← e2] at ih
    have nn : ∀ v, v = td_nn (A.1 80) (A2.1 82) i → ∀ B : tb_H, B.1 82 = td_set (td_set (A2.1 82) (11 + i) v) 7 (tb_or (A2.1 82 7) (if v < 3 then 0 else tb_shl 1 i)) → B.1 82 = td_dN (A.1 80) i (A2.1 82) := by
      intro v hv B hB
      rw [hB, hv]
      unfold td_dN
      by_cases c : td_nn (A.1 80) (A2.1 82) i < 3
      · rw [if_pos c, if_pos c, o7]
      · rw [if_neg c, if_neg c]
    refine qx235_356 ⟨fun q => by rw [e80] at q; omega, fun _ => ?_⟩
    rw [tb_w_id (x := 81 + i) (by omega) (by omega), tb_w_id (x := 85 + i) (by omega) (by omega), tb_w_id (x := 11 + i) (by omega) (by omega), tb_w_id (x := i + 1) (by omega) (by omega), e80, e238 zn.1.1 zn.1.2 zn.2.1.1 zn.2.1.2 v1.1 v1.2 v5.1 v5.2]
    have ne : ¬ (7 : Int) = 11 + i := by omega
    refine ⟨by omega, by omega, fun q => ⟨by omega, by omega, ih _ ((f2.upI rfl).upI rfl) (nn 0 ?_ _ ?_)⟩, fun q => ⟨by omega, by omega, by omega, ih _ ((f2.upI rfl).upI rfl) (nn (A2.1 82 (11 + i) + 1) ?_ _ ?_)⟩⟩
    · unfold td_nn
      rw [if_neg (by omega)]
    · rw [td_set_u, td_set_u, td_set_s, td_set_n ne]
    · unfold td_nn
      rw [if_pos q]
    · rw [tb_w_id (x := A2.1 82 (11 + i) + 1) (by omega) (by omega), td_set_u, td_set_u, td_set_s, td_set_n ne]
theorem td_lng_bg {r s : Int → Int} (z : tb_bz r s) (nh : ¬ (r 5 ≤ s 3 ∧ 0 < r 116)) (r2 : 1 ≤ r 2) : (tb_lng r (s 8) (td_ln r s) < 0 ↔ td_bg r s = 8) ∧ (0 ≤ tb_lng r (s 8) (td_ln r s) → tb_lng r (s 8) (td_ln r s) ≤ 2 ∧ td_bg r s = (s 2 + tb_lng r (s 8) (td_ln r s) + 7) % 8) := by
  have z2 := z.1.2.2.1
  unfold td_bg tb_bear
  rw [if_neg nh]
  unfold tb_lng
  generalize td_ln r s = ln
  by_cases a : r 2 ≤ ln
  · rw [if_pos a, if_neg (by omega)]
    constructor <;> omega
  · rw [if_neg a, if_pos (show ln < r 2 by omega)]
    by_cases b : ln ≤ -(r 2)
    · rw [if_pos b, if_neg (by omega)]
      constructor <;> omega
    · rw [if_neg b, if_pos (by omega)]
      by_cases c : r 4 ≤ s 8
      · rw [if_pos c, if_neg (by omega)]
        constructor <;> omega
      · rw [if_neg c, if_pos (by omega)]
        constructor <;> omega
def td_G0 : List (Nat × Int) := [(77, 28), (77, 29), (77, 30)]
theorem sp235 (M : tc_M A) (h2 : A.1 82 9 < 200) (hp : td_P (A.1 80) (A.1 82)) (k : ∀ A', tb_fr [82] td_G0 [] A A' → A'.1 82 = td_day (A.1 80) (A.1 82) → Kv A') : tb_Cv X 235 [tb_r 77] A Kv := by
  have R := M.R
  have z := M.z
  have z9 := z.1.2.2.2.2.2.2.2.2.2.1
  have h9 : 0 ≤ A.1 82 9 := z9.1
  have c8 := M.c118
  have c2 := M.c112
  have v2 := M.v2
  have e9 : td_swm (td_trn (A.1 80) (td_a (A.1 80) (A.1 82))) 9 = A.1 82 9 + 1 := by rw [td_swm_k (by decide) (by decide) (by decide), td_trn_k (by decide) (by decide), td_a9 R]
  refine qx235 ?_
  rw [tb_w_id (x := A.1 82 9 + 1) (by omega) (by omega)]
  have z1 := z.uDay (v := A.1 82 9 + 1) (by omega)
  -- behind the swim
  have after : ∀ (B : tb_H) (j : Int), tb_fr [82] td_G0 [] A B → B.1 82 = td_trn (A.1 80) (td_a (A.1 80) (A.1 82)) → tb_bz (A.1 80) (B.1 82) → tb_E X 235 200 [tb_r 77, tb_i (A.1 82 9 + 1), tb_i j] [] B (tb_Rv 235 Kv) := by
    intro B j fB eB zB
    have b9 : td_b (A.1 80) (A.1 82) = td_lgs (td_swm (B.1 82)) := by rw [eB]; rfl
    rw [← eB] at e9
    have zz := zB.1
    refine qx235_200 ?_
    rw [e249 zz.1.1 zz.1.2 zz.2.1.1 zz.2.1.2 zz.2.2.1.1 zz.2.2.1.2]
    refine qx235_222 ?_
    rw [tb_w_id (x := 2 * (A.1 82 9 + 1)) (by omega) (by omega), tb_w_id (x := 51 + 2 * (A.1 82 9 + 1)) (by omega) (by omega), tb_w_id (x := 51 + 2 * (A.1 82 9 + 1) + 1) (by omega) (by omega)]
    refine ⟨by omega, by omega, ?_⟩
    have eC : ∀ a b c : Int, a = tb_wx (B.1 82 0) (B.1 82 1) (B.1 82 2) → b = tb_wy (B.1 82 0) (B.1 82 1) (B.1 82 2) → c = tb_wh (B.1 82 0) (B.1 82 1) (B.1 82 2) → ∀ D : tb_H, D.1 82 = B.1 82 → (tb_upI (tb_upI (tb_upI (tb_upI (tb_upI D 82 0 a) 82 1 b) 82 2 c) 82 (51 + 2 * (A.1 82 9 + 1)) a) 82 (51 + 2 * (A.1 82 9 + 1) + 1) b).1 82 = td_b (A.1 80) (A.1 82) := by
      intro a b c ha hb hc D hD
      rw [td_set_u, td_set_u, td_set_u, td_set_u, td_set_u, hD, b9, ha, hb, hc]
      unfold td_lgs
      rw [e9]
      rfl
    have eb : (tb_upI (tb_upI (tb_upI (tb_upI (tc_sw B (tb_wx (B.1 82 0) (B.1 82 1) (B.1 82 2)) (tb_wy (B.1 82 0) (B.1 82 1) (B.1 82 2)) (tb_wh (B.1 82 0) (B.1 82 1) (B.1 82 2))) 82 0 (tb_wx (B.1 82 0) (B.1 82 1) (B.1 82 2))) 82 1 (tb_wy (B.1 82 0) (B.1 82 1) (B.1 82 2))) 82 2 (tb_wh (B.1 82 0) (B.1 82 1) (B.1 82 2))) 82 (51 + 2 * (A.1 82 9 + 1)) (tb_wx (B.1 82 0) (B.1 82 1) (B.1 82 2))).1 82 1 = tb_wy (B.1 82 0) (B.1 82 1) (B.1 82 2) := by
      rw [tb_uI_k (by omega), tb_uI_k (by decide), tb_uI_s]
    show tb_E X 235 290 _ _ (tb_upI (tb_upI (tb_upI (tb_upI (tb_upI (tc_sw B (tb_wx (B.1 82 0) (B.1 82 1) (B.1 82 2)) (tb_wy (B.1 82 0) (B.1 82 1) (B.1 82 2)) (tb_wh (B.1 82 0) (B.1 82 1) (B.1 82 2))) 82 0 (tb_wx (B.1 82 0) (B.1 82 1) (B.1 82 2))) 82 1 (tb_wy (B.1 82 0) (B.1 82 1) (B.1 82 2))) 82 2 (tb_wh (B.1 82 0) (B.1 82 1) (B.1 82 2))) 82 (51 + 2 * (A.1 82 9 + 1)) (tb_wx (B.1 82 0) (B.1 82 1) (B.1 82 2))) 82 (51 + 2 * (A.1 82 9 + 1) + 1) ((tb_upI (tb_upI (tb_upI (tb_upI (tc_sw B (tb_wx (B.1 82 0) (B.1 82 1) (B.1 82 2)) (tb_wy (B.1 82 0) (B.1 82 1) (B.1 82 2)) (tb_wh (B.1 82 0) (B.1 82 1) (B.1 82 2))) 82 0 (tb_wx (B.1 82 0) (B.1 82 1) (B.1 82 2))) 82 1 (tb_wy (B.1 82 0) (B.1 82 1) (B.1 82 2))) 82 2 (tb_wh (B.1 82 0) (B.1 82 1) (B.1 82 2))) 82 (51 + 2 * (A.1 82 9 + 1)) (tb_wx (B.1 82 0) (B.1 82 1) (B.1 82 2))).1 82 1)) _
    rw [eb]
    have e6 := eC _ _ _ rfl rfl rfl (tc_sw B (tb_wx (B.1 82 0) (B.1 82 1) (B.1 82 2)) (tb_wy (B.1 82 0) (B.1 82 1) (B.1 82 2)) (tb_wh (B.1 82 0) (B.1 82 1) (B.1 82 2))) rfl
    have f6 : tb_fr [82] td_G0 [] A (tb_upI (tb_upI (tb_upI (tb_upI (tb_upI (tc_sw B (tb_wx (B.1 82 0) (B.1 82 1) (B.1 82 2)) (tb_wy (B.1 82 0) (B.1 82 1) (B.1 82 2)) (tb_wh (B.1 82 0) (B.1 82 1) (B.1 82 2))) 82 0 (tb_wx (B.1 82 0) (B.1 82 1) (B.1 82 2))) 82 1 (tb_wy (B.1 82 0) (B.1 82 1) (B.1 82 2))) 82 2 (tb_wh (B.1 82 0) (B.1 82 1) (B.1 82 2))) 82 (51 + 2 * (A.1 82 9 + 1)) (tb_wx (B.1 82 0) (B.1 82 1) (B.1 82 2))) 82 (51 + 2 * (A.1 82 9 + 1) + 1) (tb_wy (B.1 82 0) (B.1 82 1) (B.1 82 2))) := by
      unfold tc_sw
      refine tb_fr.upI ?_ rfl
      refine tb_fr.upI ?_ rfl
      repeat refine tb_fr.upI ?_ rfl
      exact fB
    revert e6 f6
    generalize tb_upI (tb_upI (tb_upI (tb_upI (tb_upI (tc_sw B (tb_wx (B.1 82 0) (B.1 82 1) (B.1 82 2)) (tb_wy (B.1 82 0) (B.1 82 1) (B.1 82 2)) (tb_wh (B.1 82 0) (B.1 82 1) (B.1 82 2))) 82 0 (tb_wx (B.1 82 0) (B.1 82 1) (B.1 82 2))) 82 1 (tb_wy (B.1 82 0) (B.1 82 1) (B.1 82 2))) 82 2 (tb_wh (B.1 82 0) (B.1 82 1) (B.1 82 2))) 82 (51 + 2 * (A.1 82 9 + 1)) (tb_wx (B.1 82 0) (B.1 82 1) (B.1 82 2))) 82 (51 + 2 * (A.1 82 9 + 1) + 1) (tb_wy (B.1 82 0) (B.1 82 1) (B.1 82 2)) = C
    intro e6 f6
    have e80 : C.1 80 = A.1 80 := funext (fun k => f6.1 80 k rfl rfl)
    have z6 : tb_bz (A.1 80) (C.1 82) := by
      rw [e6, b9]
      exact zB.swm.lgs
    have M6 := M.mk e80 z6
    have rest : ∀ D : tb_H, tb_fr [82] td_G0 [] A D → D.1 82 = td_wds (A.1 80) (td_b (A.1 80) (A.1 82)) → tb_bz (A.1 80) (D.1 82) → tb_E X 235 314 [tb_r 77, tb_i (A.1 82 9 + 1), tb_i j] [] D (tb_Rv 235 Kv) := by
      intro D fD eD zD
      have e80 : D.1 80 = A.1 80 := funext (fun k => fD.1 80 k rfl rfl)
      have MD := M.mk e80 zD
      have d9 : D.1 82 9 = A.1 82 9 + 1 := by rw [eD, td_wds_k (by decide), td_b9 R h9]
      refine qx235_314 ?_
      rw [← d9]
      refine sp252 MD ?_
      intro E fE eE
      rw [e80, eD] at eE
      have fE' := fD.trans (fE.mono rfl rfl rfl)
      have e80 : E.1 80 = A.1 80 := funext (fun k => fE'.1 80 k rfl rfl)
      have zE : tb_bz (A.1 80) (E.1 82) := by
        rw [eE, ← eD]
        unfold td_ern
        exact td_it_bz (N := 4) (fun i s i0 i1 z => z.dI i0 i1) (td_it_bz (N := (A.1 80 114).toNat) (fun i s _ _ z => z.dC) zD _ (Nat.le_refl _)) _ (by have := R.1; omega)
      have ME := M.mk e80 zE
      refine sp253 ME ?_
      intro F fF eF
      rw [e80, eE] at eF
      have fF' := fE'.trans (fF.mono rfl rfl rfl)
      have e80 : F.1 80 = A.1 80 := funext (fun k => fF'.1 80 k rfl rfl)
      have eF : F.1 82 = td_c (A.1 80) (A.1 82) := eF
      have zF : tb_bz (A.1 80) (F.1 82) := by
        rw [eF]
        unfold td_c
        rw [← eE]
        exact td_it_bz (N := 8) (fun i s i0 i1 z => z.dB i0 i1) zE.itc _ (by omega)
      have MF := M.mk e80 zF
      have v3 := M.v3
      rw [d9]
      have last : ∀ G : tb_H, tb_fr [82] td_G0 [] A G → G.1 82 = td_div (A.1 80) (td_c (A.1 80) (A.1 82)) → tb_bz (A.1 80) (G.1 82) → tb_E X 235 354 [tb_r 77, tb_i (A.1 82 9 + 1), tb_i j] [] G (tb_Rv 235 Kv) := by
        intro G fG eG zG
        have e80 : G.1 80 = A.1 80 := funext (fun k => fG.1 80 k rfl rfl)
        refine qx235_354 (sp356 (M.mk e80 zG) ?_ _ ?_)
        · intro l l0 l1
          rw [e80] at l1
          have o := (hp.2.2 l l0 l1).1
          have c7 := R.1.2.2.1
          have dl : G.1 82 (11 + l) = A.1 82 (11 + l) := by
            rw [eG, td_d_k R (by omega) (by omega) (by omega) (by omega) (by omega) (by omega) (by omega) (by omega), b9]
            unfold td_lgs
            rw [e9, td_set_n (by omega), td_set_n (by omega), td_swm_k (by omega) (by omega) (by omega), eB, td_trn_k (by omega) (by omega), td_a_k R (by omega) (by omega) (by omega) (by omega) (by omega)]
          rw [dl]
          omega
        · intro H fH eH
          rw [e80, eG] at eH
          exact k H (fG.trans (fH.mono rfl rfl rfl)) eH
      have c9 : td_c (A.1 80) (A.1 82) 9 = A.1 82 9 + 1 := by rw [td_c_k R (by decide) (by decide) (by decide) (by decide) (by decide), td_b9 R h9]
      have nd : ¬ (td_c (A.1 80) (A.1 82) 9 % A.1 80 3 = 0 ∧ td_c (A.1 80) (A.1 82) 8 < A.1 80 4) → tb_E X 235 354 [tb_r 77, tb_i (A.1 82 9 + 1), tb_i j] [] F (tb_Rv 235 Kv) := by
        intro n
        refine last F fF' ?_ zF
        rw [show td_div (A.1 80) (td_c (A.1 80) (A.1 82)) = td_c (A.1 80) (A.1 82) from if_neg n]
        exact eF
      refine qx235_323 ?_
      rw [e80, Int.tmod_eq_emod_of_nonneg (by omega), eF]
      refine ⟨by omega, fun q => nd (fun n => q (by rw [← c9]; exact n.1)), fun q => ⟨fun q1 => nd (fun n => by omega), fun q1 => ?_⟩⟩
      refine sp254 MF ?_
      intro G fG eG
      rw [e80, eF] at eG
      have fG' := fF'.trans (fG.mono rfl rfl rfl)
      refine last G fG' ?_ ?_
      · rw [eG]
        exact (if_pos ⟨by rw [c9]; exact q, q1⟩ : td_div (A.1 80) (td_c (A.1 80) (A.1 82)) = td_set (td_sn0 (A.1 80) (td_c (A.1 80) (A.1 82))) 5 (tb_w (td_c (A.1 80) (A.1 82) 5 + 1))).symm
      · rw [eG, ← eF]
        refine tb_bz.uDive ?_ (tb_i32 _)
        unfold td_sn0
        exact td_it_bz (N := 8) (fun i s i0 i1 z => z.uBa i0 i1 (by decide)) (td_it_bz (N := 4) (fun i s i0 i1 z => z.vF i0 i1) (td_it_bz (N := 6) (fun i s i0 i1 z => z.vH i0 i1) zF _ (by have := R.1; omega)) _ (by have := R.1; omega)) _ (Nat.le_refl _)
    refine qx235_290 ?_
    refine sp251 M6 (fun q => ⟨fun q' => absurd q' (by decide), fun _ => ?_⟩) (fun q => ⟨fun _ => ?_, fun q' => absurd rfl q'⟩)
    · rw [e80] at q
      rw [e6] at q
      refine rest _ (f6.upI rfl) ?_ ?_
      · rw [td_set_u, td_wds_t q, e6]
      · rw [td_set_u]
        have := z6.1.2.2.2.2.2.2.2.2.2.1
        exact z6.uHung (by omega)
    · rw [e80] at q
      rw [e6] at q
      exact rest C f6 (by rw [td_wds_f q, e6]) z6
  have key := tb_lp (n := A.1 80 118) (E := fun i => ∀ A2 : tb_H, tb_fr [82] td_G0 [] A A2 → A2.1 82 = td_it (td_dL (A.1 80)) i.toNat (td_set (A.1 82) 9 (A.1 82 9 + 1)) → tb_E X 235 21 [tb_r 77, tb_i (A.1 82 9 + 1), tb_i i] [] A2 (tb_Rv 235 Kv)) c8.1 ?_ ?_
  · exact key _ (tb_fr.upI tb_fr.refl rfl) td_set_u
  · intro A2 f2 e2
    have e80 : A2.1 80 = A.1 80 := funext (fun k => f2.1 80 k rfl rfl)
    have z2 : tb_bz (A.1 80) (A2.1 82) := by
      rw [e2]
      exact td_it_bz (N := (A.1 80 118).toNat) (fun i s i0 i1 z => z.dL R (fun i i0 i1 => (M.v107 i0 i1).2) i0 (by omega)) z1 _ (Nat.le_refl _)
    have e2 : A2.1 82 = td_lvs (A.1 80) (td_set (A.1 82) 9 (A.1 82 9 + 1)) := e2
    have l9 : A2.1 82 9 = A.1 82 9 + 1 := by rw [e2, td_lvs_k R.1.1 R.1.2.1 R.1.2.2.2.1 R.cs (by decide) (by decide) (by decide), td_set_s]
    have l3 : A2.1 82 3 = A.1 82 3 := by rw [e2, td_lvs_k R.1.1 R.1.2.1 R.1.2.2.2.1 R.cs (by decide) (by decide) (by decide), td_set_n (by decide)]
    have z3 := z.1.2.2.2.1
    have e3 : (tb_upI A2 82 3 (A2.1 82 3 + 1)).1 82 = td_a (A.1 80) (A.1 82) := by
      rw [td_set_u]
      unfold td_a
      rw [e2]
    have f3 : tb_fr [82] td_G0 [] A (tb_upI A2 82 3 (A2.1 82 3 + 1)) := f2.upI rfl
    have zu : tb_bz (A.1 80) (td_a (A.1 80) (A.1 82)) := by
      rw [← e3, td_set_u]
      exact z2.uHung (by omega)
    have u3 : td_a (A.1 80) (A.1 82) 3 = A2.1 82 3 + 1 := by
      rw [← e3]
      exact tb_uI_s
    refine qx235_21 ⟨fun _ => ?_, fun q => by rw [e80] at q; omega⟩
    rw [tb_w_id (x := A2.1 82 3 + 1) (by omega) (by omega), e80]
    have keep0 : A2.1 82 0 = td_a (A.1 80) (A.1 82) 0 := by rw [← e3]; rfl
    have keep1 : A2.1 82 1 = td_a (A.1 80) (A.1 82) 1 := by rw [← e3]; rfl
    have keep2 : A2.1 82 2 = td_a (A.1 80) (A.1 82) 2 := by rw [← e3]; rfl
    rw [keep0, keep1, keep2]
    revert e3 f3 u3 zu
    generalize hB : tb_upI A2 82 3 (A2.1 82 3 + 1) = B
    intro e3 f3 zu u3
    have e80B : B.1 80 = A.1 80 := funext (fun k => f3.1 80 k rfl rfl)
    have MB : tc_M B := M.mk e80B (by rw [e3]; exact zu)
    have z4 := zu.1
    have turn : ¬ (A.1 80 5 ≤ td_a (A.1 80) (A.1 82) 3 ∧ 0 < A.1 80 116) → ∀ j, tb_E X 235 141 [tb_r 77, tb_i (A.1 82 9 + 1), tb_i j] [] B (tb_Rv 235 Kv) := by
      intro nh j
      have lb := td_lng_bg zu nh v2.1
      refine qx235_141 ?_
      rw [e245 MB, e80B, e3]
      have eln : tb_lean (A.1 80) (td_a (A.1 80) (A.1 82)) (fun f => td_a (A.1 80) (A.1 82) (31 + f)) 9 (A.1 80 0) = td_ln (A.1 80) (td_a (A.1 80) (A.1 82)) := rfl
      rw [eln]
      refine ⟨fun q => ?_, fun q => ?_⟩
      · have w := lb.2 q
        have n8 : ¬ td_bg (A.1 80) (td_a (A.1 80) (A.1 82)) = 8 := fun e => by have := lb.1.mpr e; omega
        refine qx235_184 ?_
        rw [e3, e248 z4.2.2.1.1 z4.2.2.1.2 q w.1, ← w.2]
        refine after _ _ (f3.upI rfl) ?_ ?_
        · rw [td_set_u, e3]
          exact (if_neg n8 : td_trn (A.1 80) (td_a (A.1 80) (A.1 82)) = _).symm
        · rw [td_set_u, e3]
          exact zu.uHead (by rw [w.2]; omega)
      · have w := lb.1.mp q
        have s10 := z4.2.2.2.2.2.2.2.2.2.2
        rw [tb_w_id (x := 75 * td_a (A.1 80) (A.1 82) 10) (by omega) (by omega), tb_w_id (x := 75 * td_a (A.1 80) (A.1 82) 10 + 74) (by omega) (by omega), Int.tmod_eq_emod_of_nonneg (show 0 ≤ 75 * td_a (A.1 80) (A.1 82) 10 + 74 by omega), Int.tmod_eq_emod_of_nonneg (show 0 ≤ (75 * td_a (A.1 80) (A.1 82) 10 + 74) % 65537 by omega)]
        have e2' : (tb_upI B 82 10 ((75 * td_a (A.1 80) (A.1 82) 10 + 74) % 65537)).1 82 2 = td_a (A.1 80) (A.1 82) 2 := by
          show B.1 82 2 = _
          rw [e3]
        refine qx235_184 ?_
        rw [e2', e248 z4.2.2.1.1 z4.2.2.1.2 (by omega) (by omega)]
        refine after _ _ ((f3.upI rfl).upI rfl) ?_ ?_
        · rw [td_set_u, td_set_u, e3]
          exact (if_pos w : td_trn (A.1 80) (td_a (A.1 80) (A.1 82)) = _).symm
        · rw [td_set_u, td_set_u, e3]
          exact (zu.uSeed (by omega)).uHead (by omega)
    refine ⟨fun q => turn (by omega) _, fun q => ⟨fun q1 => turn (by omega) _, fun q1 => ?_⟩⟩
    have hy : A.1 80 5 ≤ td_a (A.1 80) (A.1 82) 3 ∧ 0 < A.1 80 116 := ⟨by omega, q1⟩
    rw [e237 MB z4.1.1 z4.1.2 z4.2.1.1 z4.2.1.2 (by rw [e80B]; exact q1), e80B]
    have bg : td_bg (A.1 80) (td_a (A.1 80) (A.1 82)) = tb_tw (A.1 80) (td_a (A.1 80) (A.1 82) 0) (td_a (A.1 80) (A.1 82) 1) (td_a (A.1 80) (A.1 82) 2) := if_pos hy
    have bb : 0 ≤ td_bg (A.1 80) (td_a (A.1 80) (A.1 82)) ∧ td_bg (A.1 80) (td_a (A.1 80) (A.1 82)) ≤ 7 := by
      rw [bg]
      unfold tb_tw
      split
      · exact z4.2.2.1
      · rename_i n
        have f := (tb_hdf (tb_sgn3 _) (tb_sgn3 _) n).1
        omega
    rw [← bg]
    refine after _ _ (f3.upI rfl) ?_ ?_
    · rw [td_set_u, e3]
      exact (if_neg (by omega) : td_trn (A.1 80) (td_a (A.1 80) (A.1 82)) = _).symm
    · rw [td_set_u, e3]
      exact zu.uHead bb
  · intro i i0 i1 ih A2 f2 e2
    have e80 : A2.1 80 = A.1 80 := funext (fun k => f2.1 80 k rfl rfl)
    have v1 := M.v101 i0 i1
    have v7 := M.v107 i0 i1
    have z2 : tb_bz (A.1 80) (A2.1 82) := by
      rw [e2]
      exact td_it_bz (N := (A.1 80 118).toNat) (fun i s i0 i1 z => z.dL R (fun i i0 i1 => (M.v107 i0 i1).2) i0 (by omega)) z1 _ (by omega)
    have l9 : A2.1 82 9 = A.1 82 9 + 1 := by
      rw [e2, td_it_k (N := (A.1 80 118).toNat) (fun i s i0 i1 => ?_) _ (by omega), td_set_s]
      have := R.cs i i0 (by omega)
      rw [td_dL_d]
      split
      · rw [td_emp_k R.1.1 R.1.2.1 (by decide) (by decide), td_set_n (by omega)]
      · rfl
    rw [td_it_s i0, ← e2] at ih
    refine qx235_21 ⟨fun q => by rw [e80] at q; omega, fun _ => ?_⟩
    rw [tb_w_id (x := 104 + i) (by omega) (by omega), tb_w_id (x := 101 + i) (by omega) (by omega), tb_w_id (x := 107 + i) (by omega) (by omega), tb_w_id (x := i + 1) (by omega) (by omega), e80, tb_w_id (x := 1 + A.1 80 (107 + i)) (by omega) (by omega)]
    refine ⟨by omega, fun q => ih A2 f2 ?_, fun q => ⟨by omega, by omega, ?_⟩⟩
    · rw [td_dL_d, l9, if_neg q]
    · refine sp236 (M.mk e80 z2) v1.1 (by omega) (by omega) ?_
      intro A3 f3 e3
      rw [e80] at e3
      refine ih A3 (f2.trans (f3.mono rfl rfl rfl)) ?_
      rw [e3, td_dL_d, l9, if_pos q]
end TBDAYS
