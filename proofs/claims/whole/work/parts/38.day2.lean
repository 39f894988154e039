/-! A DAY: earning, itching, barnacles, dive, claims: the class's half -/
section TBDAY2
variable {X : tb_X} {A : tb_H} {σ : Int → Int} {K : Int → tb_H → Prop} {Kv : tb_H → Prop}
theorem td_set_id {s : Int → Int} {j v : Int} (h : v = s j) : td_set s j v = s := by
  funext k
  unfold td_set
  by_cases e : k = j
  · rw [if_pos e, h, e]
  · rw [if_neg e]
theorem td_set_2 {s : Int → Int} {j u v : Int} : td_set (td_set s j u) j v = td_set s j v := by
  funext k
  unfold td_set
  by_cases e : k = j
  · rw [if_pos e, if_pos e]
  · rw [if_neg e, if_neg e, if_neg e]
theorem tb_w_sub {a b c : Int} : tb_w (tb_w (a - b) - c) = tb_w (a - (b + c)) := by unfold tb_w; omega
theorem g94 (L : tc_G A σ) {l : Int} (l0 : 0 ≤ l) (l1 : l < A.1 80 117) : tb_Ci X 94 [tb_r (A.2.2 4 1), tb_i l] A K = K (A.1 80 (85 + l) * 10 + A.1 80 (81 + l)) A := by
  have b := L.v81 l0 l1
  have d := L.v85 l0 l1
  refine tb_dei (q94 L.b ?_)
  rw [g41_70 L l0 l1, g41_71 L l0 l1, e52c b.1 b.2 d.1 d.2]
  exact ⟨rfl, rfl⟩
theorem sp93 (L : tc_G A σ) (k : ∀ A', tb_fr [] [(5, 5), (5, 7)] [] A A' → tc_G A' (td_ern (A.1 80) σ) → Kv A') : tb_Cv X 93 [tb_r 4] A Kv := by
  have c4 := L.c114
  have c7 := L.c117
  refine q93 ?_
  have l2 : ∀ (A1 : tb_H) (j1 j2 j3 : tb_V), tb_fr [] [(5, 5), (5, 7)] [] A A1 → tc_G A1 (td_it td_dC (A.1 80 114).toNat σ) → tb_E X 93 43 [tb_r 4, tb_i 0, j1, j2, j3] [] A1 (tb_Rv 93 Kv) := by
    intro A1 j1 j2 j3 f1 G1
    have key := tb_lp (n := A.1 80 117) (E := fun i => ∀ (A2 : tb_H) (j1 j2 j3 : tb_V), tb_fr [] [(5, 5), (5, 7)] [] A A2 → tc_G A2 (td_it (td_dI (A.1 80)) i.toNat (td_it td_dC (A.1 80 114).toNat σ)) → tb_E X 93 43 [tb_r 4, tb_i i, j1, j2, j3] [] A2 (tb_Rv 93 Kv)) c7.1 ?_ ?_
    · exact key A1 _ _ _ f1 G1
    · intro A2 _ _ _ f2 G2
      have e80 : A2.1 80 = A.1 80 := funext (fun k => f2.1 80 k rfl rfl)
      refine q93_43 ⟨G2.b, ?_⟩
      rw [g28_7 G2, e80]
      exact ⟨fun _ => k A2 f2 G2, fun q => by omega⟩
    · intro i i0 i1 ih A2 _ _ _ f2 G2
      have e80 : A2.1 80 = A.1 80 := funext (fun k => f2.1 80 k rfl rfl)
      have i1' : i < A2.1 80 117 := by rw [e80]; exact i1
      rw [td_it_s i0] at ih
      revert ih G2
      generalize td_it (td_dI (A.1 80)) i.toNat (td_it td_dC (A.1 80 114).toNat σ) = s
      intro ih G2
      have z := G2.s0
      have v1 := G2.v81 i0 i1'
      have v5 := G2.v85 i0 i1'
      have sc := G2.sc0
      refine q93_43 ⟨G2.b, ?_⟩
      rw [g28_7 G2, e80]
      refine ⟨fun q => by omega, fun _ => ⟨G2.b, ?_⟩⟩
      rw [g41_72 G2 i0 i1', tb_w_id (x := i + 1) (by omega) (by omega)]
      refine ⟨G2.b, ?_⟩
      rw [g41_73 G2 i0 i1', e80, sc.1]
      rw [e80] at v1 v5
      have no : ¬ (s 0 = A.1 80 (81 + i) ∧ s 1 = A.1 80 (85 + i) ∧ A.1 80 (89 + i) ≤ s 9 ∧ s 9 ≤ A.1 80 (93 + i) ∧ tb_and (tb_shr (s 6) i) 1 = 0) → ∀ j1 j2 j3, tb_E X 93 43 [tb_r 4, tb_i (i + 1), j1, j2, j3] [] A2 (tb_Rv 93 Kv) := by
        intro n j1 j2 j3
        rw [show td_dI (A.1 80) i s = s from if_neg n] at ih
        exact ih A2 _ _ _ f2 G2
      rw [sc.2.2.2.2.2.2.2.1]
      refine ⟨fun q => no (fun n => by rw [if_pos n.2.2.1] at q; exact q rfl) _ _ _, fun q1 => ⟨fun q => no (fun n => by rw [if_pos n.2.2.2.1] at q; exact q rfl) _ _ _, fun q2 => ⟨fun q => no (fun n => by rw [if_pos n.2.2.2.2] at q; exact q rfl) _ _ _, fun q3 => ⟨G2.b, ?_⟩⟩⟩⟩
      rw [g94 G2 i0 i1', e80, sc.2.2.1]
      refine ⟨fun q4 => ⟨G2.b, ?_⟩, fun q4 => no (fun n => q4 (by rw [n.1, n.2.1])) _ _ _⟩
      have y : s 0 = A.1 80 (81 + i) ∧ s 1 = A.1 80 (85 + i) ∧ A.1 80 (89 + i) ≤ s 9 ∧ s 9 ≤ A.1 80 (93 + i) ∧ tb_and (tb_shr (s 6) i) 1 = 0 := by
        refine ⟨by omega, by omega, ?_, ?_, ?_⟩
        · by_cases u : A.1 80 (89 + i) ≤ s 9
          · exact u
          · rw [if_neg u] at q1
            exact absurd q1 (by decide)
        · by_cases u : s 9 ≤ A.1 80 (93 + i)
          · exact u
          · rw [if_neg u] at q2
            exact absurd q2 (by decide)
        · by_cases u : tb_and (tb_shr (s 6) i) 1 = 0
          · exact u
          · rw [if_neg u] at q3
            exact absurd q3 (by decide)
      rw [show td_dI (A.1 80) i s = td_set (td_set s 4 (tb_w (s 4 + A.1 80 (97 + i)))) 6 (tb_or (s 6) (tb_shl 1 i)) from if_pos y, td_set_c (by decide)] at ih
      have G3 := G2.uBuys (v := tb_or (s 6) (tb_shl 1 i)) ((tb_o4 z.2.2.2.2.2.2.1.1 z.2.2.2.2.2.2.1.2).2 i i0 (by omega))
      have e80' : (tb_upI A2 5 7 (tb_or (s 6) (tb_shl 1 i))).1 80 = A.1 80 := e80
      rw [sc.2.2.2.2.2.2.2.1, show A2.2.2 4 1 = (tb_upI A2 5 7 (tb_or (s 6) (tb_shl 1 i))).2.2 4 1 from rfl, g41_74 G3 i0 (by rw [e80']; exact i1), e80', sc.2.2.2.2.2.1]
      exact ih _ _ _ _ ((f2.upI rfl).upI rfl) (G3.uCoin (tb_i32 _))
  have key := tb_lp (n := A.1 80 114) (E := fun i => ∀ (A2 : tb_H) (j1 j2 j3 : tb_V), tb_fr [] [(5, 5), (5, 7)] [] A A2 → tc_G A2 (td_it td_dC i.toNat σ) → tb_E X 93 2 [tb_r 4, tb_i i, j1, j2, j3] [] A2 (tb_Rv 93 Kv)) c4.1 ?_ ?_
  · exact key A _ _ _ tb_fr.refl L
  · intro A2 _ _ _ f2 G2
    have e80 : A2.1 80 = A.1 80 := funext (fun k => f2.1 80 k rfl rfl)
    refine q93_2 ⟨G2.b, ?_⟩
    rw [g28_4 G2, e80]
    exact ⟨fun _ => l2 A2 _ _ _ f2 G2, fun q => by omega⟩
  · intro i i0 i1 ih A2 _ _ _ f2 G2
    have e80 : A2.1 80 = A.1 80 := funext (fun k => f2.1 80 k rfl rfl)
    rw [td_it_s i0] at ih
    revert ih G2
    generalize td_it td_dC i.toNat σ = s
    intro ih G2
    have sc := G2.sc0
    refine q93_2 ⟨G2.b, ?_⟩
    rw [g28_4 G2, e80]
    refine ⟨fun q => by omega, fun _ => ?_⟩
    rw [g68 G2 i0 (by omega), e80, tb_w_id (x := i + 1) (by omega) (by omega)]
    by_cases c : s (27 + i) = 0
    · rw [if_pos ⟨i1, c⟩]
      rw [show td_dC i s = td_set s 4 (tb_w (s 4 + 1)) from if_pos c] at ih
      refine ⟨fun q => absurd q (by decide), fun _ => ?_⟩
      rw [sc.2.2.2.2.2.1]
      exact ih _ _ _ _ (f2.upI rfl) (G2.uCoin (tb_i32 _))
    · rw [if_neg (fun q => c q.2)]
      rw [show td_dC i s = s from if_neg c] at ih
      exact ⟨fun _ => ih A2 _ _ _ f2 G2, fun q => absurd rfl q⟩
theorem sp95 (L : tc_G A σ) (k : ∀ A', tb_fr [] [(5, 9)] [] A A' → tc_G A' (td_itc (A.1 80) σ) → Kv A') : tb_Cv X 95 [tb_r 4] A Kv := by
  have c5 := L.c115
  have c2 := L.c112
  have z := L.s0
  refine q95 ?_
  have l2 : ∀ (A1 : tb_H) (j : tb_V), tb_fr [] [(5, 9)] [] A A1 → tc_G A1 (td_set σ 8 (tb_w (σ 8 - tb_sum (td_itF (A.1 80) σ) (A.1 80 115)))) → tb_E X 95 63 [tb_r 4, tb_i 0, j] [] A1 (tb_Rv 95 Kv) := by
    intro A1 j f1 G1
    have key := tb_lp (n := A.1 80 112) (E := fun i => ∀ (A2 : tb_H) (j : tb_V), tb_fr [] [(5, 9)] [] A A2 → tc_G A2 (td_set σ 8 (tb_w (σ 8 - (tb_sum (td_itF (A.1 80) σ) (A.1 80 115) + tb_sum (td_itS σ) i)))) → tb_E X 95 63 [tb_r 4, tb_i i, j] [] A2 (tb_Rv 95 Kv)) (by omega) ?_ ?_
    · refine key A1 _ f1 ?_
      rw [tb_sum_0, Int.add_zero]
      exact G1
    · intro A2 _ f2 G2
      have e80 : A2.1 80 = A.1 80 := funext (fun k => f2.1 80 k rfl rfl)
      refine q95_63 ⟨G2.b, ?_⟩
      rw [g28_2 G2, e80]
      refine ⟨fun _ => ?_, fun q => by omega⟩
      rw [G2.sc0.2.2.2.2.2.2.2.2.2, td_set_s]
      refine k _ (f2.upI rfl) ?_
      unfold td_itc td_les
      generalize hv : tb_w (σ 8 - (tb_sum (td_itF (A.1 80) σ) (A.1 80 115) + tb_sum (td_itS σ) (A.1 80 112))) = v at G2
      have vb : -2147483648 ≤ v ∧ v < 2147483648 := by rw [← hv]; exact tb_i32 _
      rw [show (if v < -999 then -999 else v) = tb_mx2 (-999) v by unfold tb_mx2; ((repeat' split) <;> omega)]
      have G3 := G2.uPlea (v := tb_mx2 (-999) v) (by unfold tb_mx2; split <;> omega)
      rw [td_set_2] at G3
      exact G3
    · intro i i0 i1 ih A2 _ f2 G2
      have e80 : A2.1 80 = A.1 80 := funext (fun k => f2.1 80 k rfl rfl)
      rw [tb_sum_s i0] at ih
      refine q95_63 ⟨G2.b, ?_⟩
      rw [g28_2 G2, e80]
      refine ⟨fun q => by omega, fun _ => ?_⟩
      rw [g96 G2 i0 (by omega), tb_w_id (x := i + 1) (by omega) (by omega), td_set_n (by omega)]
      have b := (L.s35 i0 (show i < 8 by omega)).1
      unfold td_itS at ih
      refine ⟨fun q => ?_, fun q => ?_⟩
      · rw [if_pos (show σ (35 + i) = 1 by omega), Int.add_zero] at ih
        exact ih A2 _ f2 G2
      · rw [if_neg (show ¬ σ (35 + i) = 1 by omega)] at ih
        rw [g97 G2 i0 (by omega), td_set_n (by omega)]
        refine ⟨fun q1 => ?_, fun q1 => ?_⟩
        · rw [if_pos q1, Int.add_zero] at ih
          exact ih A2 _ f2 G2
        · rw [if_neg (show ¬ σ (43 + i) < 5 by omega)] at ih
          rw [G2.sc0.2.2.2.2.2.2.2.2.2, td_set_s, tb_w_sub, Int.add_assoc]
          refine ih _ _ (f2.upI rfl) ?_
          have G3 := G2.uPlea (v := tb_w (σ 8 - (tb_sum (td_itF (A.1 80) σ) (A.1 80 115) + (tb_sum (td_itS σ) i + 1)))) (tb_i32 _)
          rw [td_set_2] at G3
          exact G3
  have key := tb_lp (n := A.1 80 115) (E := fun i => ∀ (A2 : tb_H) (j : tb_V), tb_fr [] [(5, 9)] [] A A2 → tc_G A2 (td_set σ 8 (tb_w (σ 8 - tb_sum (td_itF (A.1 80) σ) i))) → tb_E X 95 2 [tb_r 4, tb_i i, j] [] A2 (tb_Rv 95 Kv)) c5.1 ?_ ?_
  · refine key A _ tb_fr.refl ?_
    rw [tb_sum_0, Int.sub_zero, td_set_id (tb_w_id (by omega) (by omega))]
    exact L
  · intro A2 _ f2 G2
    have e80 : A2.1 80 = A.1 80 := funext (fun k => f2.1 80 k rfl rfl)
    refine q95_2 ⟨G2.b, ?_⟩
    rw [g28_5 G2, e80]
    exact ⟨fun _ => l2 A2 _ f2 G2, fun q => by omega⟩
  · intro i i0 i1 ih A2 _ f2 G2
    have e80 : A2.1 80 = A.1 80 := funext (fun k => f2.1 80 k rfl rfl)
    have i1' : i < A2.1 80 115 := by rw [e80]; exact i1
    have v := L.v65 i0 i1
    rw [tb_sum_s i0] at ih
    refine q95_2 ⟨G2.b, ?_⟩
    rw [g28_5 G2, e80]
    refine ⟨fun q => by omega, fun _ => ⟨G2.b, ?_⟩⟩
    rw [g41_50 G2 i0 i1', e80, g96 G2 v.1 (by omega), tb_w_id (x := i + 1) (by omega) (by omega), td_set_n (by omega)]
    unfold td_itF at ih
    refine ⟨fun q => ?_, fun q => ⟨G2.b, ?_⟩⟩
    · rw [if_neg q, Int.add_zero] at ih
      exact ih A2 _ f2 G2
    · rw [if_pos q] at ih
      rw [g41_51 G2 i0 i1', e80, G2.sc0.2.2.2.2.2.2.2.2.2, td_set_s, tb_w_sub]
      refine ih _ _ (f2.upI rfl) ?_
      have G3 := G2.uPlea (v := tb_w (σ 8 - (tb_sum (td_itF (A.1 80) σ) i + A.1 80 (69 + i)))) (tb_i32 _)
      rw [td_set_2] at G3
      exact G3
theorem sp98 (L : tc_G A σ) (k : ∀ A', tb_fr [9] [] [] A A' → tc_G A' (td_it td_dB (A.1 80 112).toNat σ) → Kv A') : tb_Cv X 98 [tb_r 4] A Kv := by
  have c2 := L.c112
  refine q98 ?_
  have key := tb_lp (n := A.1 80 112) (E := fun i => ∀ (A2 : tb_H), tb_fr [9] [] [] A A2 → tc_G A2 (td_it td_dB i.toNat σ) → tb_E X 98 2 [tb_r 4, tb_i i] [] A2 (tb_Rv 98 Kv)) (by omega) ?_ ?_
  · exact key A tb_fr.refl L
  · intro A2 f2 G2
    have e80 : A2.1 80 = A.1 80 := funext (fun k => f2.1 80 k rfl rfl)
    refine q98_2 ⟨G2.b, ?_⟩
    rw [g28_2 G2, e80]
    exact ⟨fun _ => k A2 f2 G2, fun q => by omega⟩
  · intro i i0 i1 ih A2 f2 G2
    have e80 : A2.1 80 = A.1 80 := funext (fun k => f2.1 80 k rfl rfl)
    rw [td_it_s i0] at ih
    revert ih G2
    generalize td_it td_dB i.toNat σ = s
    intro ih G2
    have b := G2.s35 i0 (show i < 8 by omega)
    refine q98_2 ⟨G2.b, ?_⟩
    rw [g28_2 G2, e80]
    refine ⟨fun q => by omega, fun _ => ?_⟩
    rw [g96 G2 i0 (by omega), tb_w_id (x := i + 1) (by omega) (by omega)]
    refine ⟨fun q => ?_, fun q => ?_⟩
    · rw [show td_dB i s = s from if_pos (by omega)] at ih
      exact ih A2 f2 G2
    · rw [show td_dB i s = td_set s (43 + i) (if 9 ≤ s (43 + i) then s (43 + i) else s (43 + i) + 1) from if_neg (by omega)] at ih
      rw [g97 G2 i0 (by omega), e99 i0 (by omega), tb_w_id (x := s (43 + i) + 1) (by omega) (by omega), show (if 9 < s (43 + i) + 1 then 9 else s (43 + i) + 1) = (if 9 ≤ s (43 + i) then s (43 + i) else s (43 + i) + 1) by ((repeat' split) <;> omega)]
      exact ih _ (f2.upI rfl) (G2.uBa i0 (by omega) (by split <;> omega))
theorem sp102 (L : tc_G A σ) {x : Int} (k1 : td_tie (A.1 80) σ x → K 1 A) (k0 : ¬ td_tie (A.1 80) σ x → K 0 A) : tb_Ci X 102 [tb_r 4, tb_i x] A K := by
  have c3 := L.c113
  refine q102 ?_
  have key := tb_lp (n := A.1 80 113) (E := fun i => (∀ h, 0 ≤ h → h < i → ¬ (σ (15 + h) = 0 ∧ σ (21 + h) = 1 ∧ A.1 80 (33 + h) = x)) → tb_E X 102 2 [tb_r 4, tb_i x, tb_i i] [] A (tb_Ri 102 K)) c3.1 ?_ ?_
  · exact key (fun h a b => by omega)
  · intro n
    refine q102_2 ⟨L.b, ?_⟩
    rw [g28_3 L]
    exact ⟨fun _ => k0 (fun ⟨h, h0, h1, h2⟩ => n h h0 h1 h2), fun q => by omega⟩
  · intro i i0 i1 ih n
    have nx : ¬ (σ (15 + i) = 0 ∧ σ (21 + i) = 1 ∧ A.1 80 (33 + i) = x) → ∀ h, 0 ≤ h → h < i + 1 → ¬ (σ (15 + h) = 0 ∧ σ (21 + h) = 1 ∧ A.1 80 (33 + h) = x) := by
      intro u h h0 h1
      by_cases e : h = i
      · rw [e]; exact u
      · exact n h h0 (by omega)
    have b := (L.s15 i0 (show i < 6 by omega)).2
    refine q102_2 ⟨L.b, ?_⟩
    rw [g28_3 L]
    refine ⟨fun q => by omega, fun _ => ?_⟩
    rw [g64 L i0 (by omega), tb_w_id (x := i + 1) (by omega) (by omega)]
    by_cases c : σ (15 + i) = 0
    · rw [if_pos ⟨i1, c⟩]
      refine ⟨fun q => absurd q (by decide), fun _ => ?_⟩
      rw [g101 L i0 (by omega)]
      refine ⟨fun q => ih (nx (fun u => by omega)), fun q => ?_⟩
      rw [g66 L i0 i1]
      exact ⟨fun q1 => ih (nx (fun u => q1 u.2.2)), fun q1 => k1 ⟨i, i0, i1, c, by omega, q1⟩⟩
    · rw [if_neg (fun q => c q.2)]
      exact ⟨fun _ => ih (nx (fun u => c u.1)), fun q => absurd rfl q⟩
theorem td_vH_c {s : Int → Int} {v i : Int} (i0 : 0 ≤ i) : td_vH i (td_set s 5 v) = td_set (td_vH i s) 5 v := by
  unfold td_vH
  rw [td_set_n (by omega), td_set_n (by omega)]
  by_cases c : s (15 + i) = 0 ∧ s (21 + i) = 0
  · rw [if_pos c, if_pos c, td_set_c (by omega)]
  · rw [if_neg c, if_neg c]
theorem td_tie_c {r s s' : Int → Int} {x : Int} (c3 : r 113 ≤ 6) (h : ∀ k, 15 ≤ k → k < 27 → s' k = s k) : td_tie r s' x ↔ td_tie r s x := by
  constructor
  · rintro ⟨j, j0, j1, j2, j3, j4⟩
    rw [h _ (by omega) (by omega)] at j2 j3
    exact ⟨j, j0, j1, j2, j3, j4⟩
  · rintro ⟨j, j0, j1, j2, j3, j4⟩
    rw [← h _ (by omega) (by omega)] at j2 j3
    exact ⟨j, j0, j1, j2, j3, j4⟩
theorem td_vF_t {r s : Int → Int} {f : Int} (c : s (27 + f) = 0) (n : ¬ td_tie r s (s (31 + f))) : td_vF r f s = td_set s (27 + f) 1 := if_pos ⟨c, n⟩
theorem td_vF_f {r s : Int → Int} {f : Int} (n : ¬ (s (27 + f) = 0 ∧ ¬ td_tie r s (s (31 + f)))) : td_vF r f s = s := if_neg n
theorem td_vF_c {r s : Int → Int} {v i : Int} (c3 : r 113 ≤ 6) (i0 : 0 ≤ i) : td_vF r i (td_set s 5 v) = td_set (td_vF r i s) 5 v := by
  have e := td_tie_c (r := r) (s := s) (s' := td_set s 5 v) (x := s (31 + i)) c3 (fun k a b => td_set_n (by omega))
  have e1 : td_set s 5 v (31 + i) = s (31 + i) := td_set_n (by omega)
  have e2 : td_set s 5 v (27 + i) = s (27 + i) := td_set_n (by omega)
  by_cases c : s (27 + i) = 0 ∧ ¬ td_tie r s (s (31 + i))
  · rw [td_vF_t c.1 c.2, td_vF_t (by rw [e2]; exact c.1) (by rw [e1, e]; exact c.2), td_set_c (by omega)]
  · rw [td_vF_f c, td_vF_f (by rw [e1, e2, e]; exact c)]
theorem td_sn0_c {r s : Int → Int} {v : Int} (c3 : r 113 ≤ 6) : td_sn0 r (td_set s 5 v) = td_set (td_sn0 r s) 5 v := by
  unfold td_sn0
  rw [td_it_c (f := td_vH) (N := (r 113).toNat) (fun i s i0 _ => td_vH_c i0) _ (Nat.le_refl _), td_it_c (f := td_vF r) (N := (r 114).toNat) (fun i s i0 _ => td_vF_c c3 i0) _ (Nat.le_refl _), td_it_c (f := td_vB) (N := 8) (fun i s i0 _ => td_set_c (by omega)) _ (Nat.le_refl _)]
theorem sp100 (L : tc_G A σ) (k : ∀ A', tb_fr [6, 7, 9] [(5, 6)] [] A A' → tc_G A' (td_set (td_sn0 (A.1 80) σ) 5 (tb_w (σ 5 + 1))) → Kv A') : tb_Cv X 100 [tb_r 4] A Kv := by
  have c3 := L.c113
  have c4 := L.c114
  refine q100 ?_
  rw [L.sc0.2.2.2.2.2.2.1, ← td_sn0_c c3.2] at *
  have G0 := L.uDive (v := tb_w (σ 5 + 1)) (tb_i32 _)
  revert k G0
  generalize td_set σ 5 (tb_w (σ 5 + 1)) = τ
  intro k G0
  have l3 : ∀ A1, tb_fr [6, 7, 9] [(5, 6)] [] A A1 → tc_G A1 (td_it (td_vF (A.1 80)) (A.1 80 114).toNat (td_it td_vH (A.1 80 113).toNat τ)) → tb_Cv X 9 [tb_r 9, tb_i 0] A1 Kv := by
    intro A1 f1 G1
    refine q9 kd_9 ?_
    have key := tb_lp (n := 8) (E := fun i => ∀ A2, tb_fr [6, 7, 9] [(5, 6)] [] A A2 → tc_G A2 (td_it td_vB i.toNat (td_it (td_vF (A.1 80)) (A.1 80 114).toNat (td_it td_vH (A.1 80 113).toNat τ))) → tb_E X 9 5 [tb_r 9, tb_i 0, tb_i i, tb_i 8] [] A2 (tb_Rv 9 Kv)) (by decide) ?_ ?_
    · exact key A1 f1 G1
    · intro A2 f2 G2
      exact q9_5 kd_9 ⟨fun _ => k A2 f2 G2, fun q => absurd q (by decide)⟩
    · intro i i0 i1 ih A2 f2 G2
      rw [td_it_s i0] at ih
      refine q9_5 kd_9 ⟨fun q => by omega, fun _ => ⟨⟨i0, i1⟩, ?_⟩⟩
      rw [tb_w_id (x := i + 1) (by omega) (by omega)]
      exact ih _ (f2.upI rfl) (G2.uBa i0 i1 (by decide))
  have l2 : ∀ A1, tb_fr [6, 7, 9] [(5, 6)] [] A A1 → tc_G A1 (td_it td_vH (A.1 80 113).toNat τ) → tb_E X 100 57 [tb_r 4, tb_i 0] [] A1 (tb_Rv 100 Kv) := by
    intro A1 f1 G1
    have key := tb_lp (n := A.1 80 114) (E := fun i => ∀ A2, tb_fr [6, 7, 9] [(5, 6)] [] A A2 → tc_G A2 (td_it (td_vF (A.1 80)) i.toNat (td_it td_vH (A.1 80 113).toNat τ)) → tb_E X 100 57 [tb_r 4, tb_i i] [] A2 (tb_Rv 100 Kv)) c4.1 ?_ ?_
    · exact key A1 f1 G1
    · intro A2 f2 G2
      have e80 : A2.1 80 = A.1 80 := funext (fun k => f2.1 80 k rfl rfl)
      refine q100_57 ⟨G2.b, ?_⟩
      rw [g28_4 G2, e80]
      exact ⟨fun _ => l3 A2 f2 G2, fun q => by omega⟩
    · intro i i0 i1 ih A2 f2 G2
      have e80 : A2.1 80 = A.1 80 := funext (fun k => f2.1 80 k rfl rfl)
      rw [td_it_s i0] at ih
      revert ih G2
      generalize td_it (td_vF (A.1 80)) i.toNat (td_it td_vH (A.1 80 113).toNat τ) = s
      intro ih G2
      refine q100_57 ⟨G2.b, ?_⟩
      rw [g28_4 G2, e80]
      refine ⟨fun q => by omega, fun _ => ?_⟩
      rw [g68 G2 i0 (by omega), e80, tb_w_id (x := i + 1) (by omega) (by omega)]
      by_cases c : s (27 + i) = 0
      · rw [if_pos ⟨i1, c⟩]
        refine ⟨fun q => absurd q (by decide), fun _ => ?_⟩
        rw [g70 G2 i0 (by omega)]
        refine sp102 G2 (fun t => ⟨fun _ => ?_, fun q => absurd q (by decide)⟩) (fun t => ⟨fun q => absurd rfl q, fun _ => ?_⟩)
        · rw [e80] at t
          rw [td_vF_f (fun u => u.2 t)] at ih
          exact ih A2 f2 G2
        · rw [e80] at t
          rw [td_vF_t c t] at ih
          rw [e71 i0 (by omega)]
          exact ih _ (f2.upI rfl) (G2.uFF i0 (by omega) (by decide))
      · rw [if_neg (fun q => c q.2)]
        rw [td_vF_f (fun u => c u.1)] at ih
        exact ⟨fun _ => ih A2 f2 G2, fun q => absurd rfl q⟩
  have key := tb_lp (n := A.1 80 113) (E := fun i => ∀ A2, tb_fr [6, 7, 9] [(5, 6)] [] A A2 → tc_G A2 (td_it td_vH i.toNat τ) → tb_E X 100 15 [tb_r 4, tb_i i] [] A2 (tb_Rv 100 Kv)) c3.1 ?_ ?_
  · exact key _ (tb_fr.upI tb_fr.refl rfl) G0
  · intro A2 f2 G2
    have e80 : A2.1 80 = A.1 80 := funext (fun k => f2.1 80 k rfl rfl)
    refine q100_15 ⟨G2.b, ?_⟩
    rw [g28_3 G2, e80]
    exact ⟨fun _ => l2 A2 f2 G2, fun q => by omega⟩
  · intro i i0 i1 ih A2 f2 G2
    have e80 : A2.1 80 = A.1 80 := funext (fun k => f2.1 80 k rfl rfl)
    rw [td_it_s i0] at ih
    revert ih G2
    generalize td_it td_vH i.toNat τ = s
    intro ih G2
    refine q100_15 ⟨G2.b, ?_⟩
    rw [g28_3 G2, e80]
    refine ⟨fun q => by omega, fun _ => ?_⟩
    rw [g64 G2 i0 (by omega), e80, tb_w_id (x := i + 1) (by omega) (by omega)]
    by_cases c : s (15 + i) = 0
    · rw [if_pos ⟨i1, c⟩]
      refine ⟨fun q => absurd q (by decide), fun _ => ?_⟩
      rw [g101 G2 i0 (by omega)]
      refine ⟨fun q => ?_, fun q => ?_⟩
      · rw [show td_vH i s = s from if_neg (fun u => q u.2)] at ih
        exact ih A2 f2 G2
      · rw [show td_vH i s = td_set s (15 + i) 1 from if_pos ⟨c, q⟩] at ih
        rw [e67 i0 (by omega)]
        exact ih _ (f2.upI rfl) (G2.uHF i0 (by omega) (by decide))
    · rw [if_neg (fun q => c q.2)]
      rw [show td_vH i s = s from if_neg (fun u => c u.1)] at ih
      exact ⟨fun _ => ih A2 f2 G2, fun q => absurd rfl q⟩
end TBDAY2
