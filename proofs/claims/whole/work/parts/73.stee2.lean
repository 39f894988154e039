/-! STEER 6: the reference's way back and its turns -/
section TESTE2
variable {X : tb_X} {A B C : tb_H} {K : Int → tb_H → Prop} {Kv : tb_H → Prop}
variable {x y hm : Int} {j5 j6 j7 j8 j9 j10 j11 : tb_V}
abbrev te_gl (x y : Int) : Int → Prop := fun p => p / 8 = x * 10 + y
abbrev te_rr (x y hm : Int) (j : Int) (s : Int) : Prop := te_rc (te_al hm) td_af (te_gl x y) j.toNat s
theorem te_rr_0 {s : Int} : te_rr x y hm 0 s ↔ s / 8 = x * 10 + y := Iff.rfl
theorem te_rr_s {j s : Int} (h : 0 ≤ j) : te_rr x y hm (j + 1) s ↔ ∃ t, (0 ≤ t ∧ t ≤ 2) ∧ te_al hm t ∧ te_rr x y hm j (td_af s t) := by
  unfold te_rr
  rw [show (j + 1).toNat = j.toNat + 1 by omega]
  exact Iff.rfl
/-- what is marked so far: spots of more than i days -/
def te_mk (x y hm : Int) (d w : Int → Int) (n i : Int) : Prop := ∀ s, 0 ≤ s → s < 800 → i < d s → d s ≤ n → (w s ≠ 0 ↔ te_rr x y hm (n - d s) s)
theorem l290d {s0 n0 n : Int} (x0 : 0 ≤ x) (x1 : x ≤ 9) (y0 : 0 ≤ y) (y1 : y ≤ 9) (D : te_DS (te_al hm) td_af s0 (B.1 92)) (mn : te_mn (B.1 92) (te_gl x y) n) (n0' : 0 ≤ n) (n40 : n ≤ 40) (k : ∀ C j9 j10 j11, te_f9 B C → C.1 92 = B.1 92 → te_mk x y hm (B.1 92) (C.1 95) n (-1) → tb_E X 290 420 [tb_r 77, tb_i x, tb_i y, tb_i hm, tb_i s0, tb_i n0, tb_i n, tb_i s0, tb_i 0, j9, j10, j11] [] C (tb_Ri 290 K)) : tb_E X 290 256 [tb_r 77, tb_i x, tb_i y, tb_i hm, tb_i s0, tb_i n0, tb_i n, tb_i n, j8, j9, j10, j11] [] B (tb_Ri 290 K) := by
  have hn : ∀ p t, 0 ≤ p → p < 800 → 0 ≤ t → t ≤ 2 → 0 ≤ td_af p t ∧ td_af p t < 800 := fun p t a b c d => te_afB a b c d
  have key := tb_ld (n := n + 1) (E := fun i => ∀ (C : tb_H) (j8 j9 j10 j11 : tb_V), te_f9 B C → C.1 92 = B.1 92 → te_mk x y hm (B.1 92) (C.1 95) n i → tb_E X 290 256 [tb_r 77, tb_i x, tb_i y, tb_i hm, tb_i s0, tb_i n0, tb_i n, tb_i i, j8, j9, j10, j11] [] C (tb_Ri 290 K)) (by omega) ?_ ?_
  · rw [show n + 1 - 1 = n by omega] at key
    exact key B _ _ _ _ tb_fr.refl rfl (fun s _ _ a b => absurd a (by omega))
  · intro C j8 j9 j10 j11 fC e92 m
    exact q290_256 ⟨fun _ => k C _ _ _ fC e92 m, fun q => absurd q (by decide)⟩
  · intro i i0 i1 ih C j8 j9 j10 j11 fC e92 m
    refine q290_256 ⟨fun q => absurd q (by omega), fun _ => ?_⟩
    have row := tb_lp (n := 800) (E := fun s => ∀ (C : tb_H) (j9 j10 j11 : tb_V), te_f9 B C → C.1 92 = B.1 92 → te_mk x y hm (B.1 92) (C.1 95) n i → (∀ s', 0 ≤ s' → s' < s → B.1 92 s' = i → (C.1 95 s' ≠ 0 ↔ te_rr x y hm (n - i) s')) → tb_E X 290 264 [tb_r 77, tb_i x, tb_i y, tb_i hm, tb_i s0, tb_i n0, tb_i n, tb_i i, tb_i s, j9, j10, j11] [] C (tb_Ri 290 K)) (by decide) ?_ ?_
    · exact row C _ _ _ fC e92 m (fun s' a b => absurd b (by omega))
    · intro C j9 j10 j11 fC e92 m h
      refine q290_264 ⟨fun _ => ?_, fun q => absurd q (by decide)⟩
      rw [tb_w_id (x := i + -1) (by omega) (by omega), show i + -1 = i - 1 by omega]
      refine ih C _ _ _ _ fC e92 (fun s a b c d => ?_)
      by_cases e : B.1 92 s = i
      · rw [e]; exact h s a b e
      · exact m s a b (by omega) d
    · intro s s0' s1 ihs C j9 j10 j11 fC e92 m h
      refine q290_264 ⟨fun q => absurd q (by omega), fun _ => ⟨⟨s0', s1⟩, ?_⟩⟩
      rw [tb_w_id (x := s + 1) (by omega) (by omega), e92]
      refine ⟨fun ds => ?_, fun ds => ihs C _ _ _ fC e92 m (fun s' a b c => ?_)⟩
      · rw [Int.tdiv_eq_ediv_of_nonneg s0', tb_w_id (x := s / 8) (by omega) (by omega), tb_w_id (x := x * 10) (by omega) (by omega), tb_w_id (x := x * 10 + y) (by omega) (by omega)]
        -- the inner loop
        have fin : ∀ (E : tb_H) (v : Int) (j9 j10 j11 : tb_V), te_f9 B E → E.1 92 = B.1 92 → E.1 95 = C.1 95 → (v ≠ 0 ↔ te_rr x y hm (n - i) s) → tb_E X 290 264 [tb_r 77, tb_i x, tb_i y, tb_i hm, tb_i s0, tb_i n0, tb_i n, tb_i i, tb_i (s + 1), j9, j10, j11] [] (tb_upI E 95 s v) (tb_Ri 290 K) := by
          intro E v j9 j10 j11 fE g92 g95 hv
          refine ihs _ _ _ _ (tb_fr.upI fE rfl) (by rw [td_upo (by decide)]; exact g92) (fun s' a b c d => ?_) (fun s' a b c => ?_)
          · rw [tb_uI_k (fun q => by rw [q] at c; omega), g95]
            exact m s' a b c d
          · by_cases e : s' = s
            · rw [e, tb_uI_s]; exact hv
            · rw [tb_uI_k e, g95]
              exact h s' a (by omega) c
        have turns := tb_lp (n := 3) (E := fun t => ∀ (E : tb_H) (v : Int) (j11 : tb_V), te_f9 B E → E.1 92 = B.1 92 → E.1 95 = C.1 95 → (v = 0 ∨ v = 1) → (v ≠ 0 ↔ (i = n ∧ s / 8 = x * 10 + y) ∨ (i < n ∧ ∃ u, (0 ≤ u ∧ u < t) ∧ te_al hm u ∧ te_rr x y hm (n - i - 1) (td_af s u))) → tb_E X 290 318 [tb_r 77, tb_i x, tb_i y, tb_i hm, tb_i s0, tb_i n0, tb_i n, tb_i i, tb_i s, tb_i v, tb_i t, j11] [] E (tb_Ri 290 K)) (by decide) ?_ ?_
        · refine turns C _ _ fC e92 rfl ?_ ?_
          · ((repeat' split) <;> omega)
          · by_cases e1 : i = n
            · rw [if_neg (fun q => q e1)]
              by_cases e2 : s / 8 = x * 10 + y
              · rw [if_neg (fun q => q e2)]
                exact ⟨fun _ => Or.inl ⟨e1, e2⟩, fun _ => by decide⟩
              · rw [if_pos e2]
                refine ⟨fun q => absurd rfl q, fun q => ?_⟩
                rcases q with q | q
                · exact absurd q.2 e2
                · exact absurd q.1 (by omega)
            · rw [if_pos e1]
              refine ⟨fun q => absurd rfl q, fun q => ?_⟩
              rcases q with q | ⟨_, u, u01, _⟩
              · exact absurd q.1 e1
              · omega
        · intro E v j11 fE g92 g95 v01 hv
          refine q290_318 ⟨fun _ => ⟨⟨s0', s1⟩, v01, ?_⟩, fun q => absurd q (by decide)⟩
          rw [tb_w_id (x := s + 1) (by omega) (by omega)]
          refine fin E v _ _ _ fE g92 g95 (hv.trans ?_)
          by_cases e1 : i = n
          · rw [show n - i = 0 by omega]
            refine ⟨fun q => ?_, fun q => Or.inl ⟨e1, q⟩⟩
            rcases q with q | q
            · exact q.2
            · exact absurd q.1 (by omega)
          · rw [show n - i = n - i - 1 + 1 by omega, te_rr_s (by omega)]
            refine ⟨fun q => ?_, fun q => Or.inr ⟨by omega, ?_⟩⟩
            · rcases q with q | ⟨_, u, u01, r⟩
              · exact absurd q.1 e1
              · exact ⟨u, by omega, by rw [show n - i - 1 + 1 - 1 = n - i - 1 by omega] at r; exact r⟩
            · obtain ⟨u, u01, r⟩ := q
              exact ⟨u, by omega, by rw [show n - i - 1 + 1 - 1 = n - i - 1 by omega]; exact r⟩
        · intro t t0 t1 iht E v j11 fE g92 g95 v01 hv
          refine q290_318 ⟨fun q => absurd q (by omega), fun _ => ⟨fun q => ⟨⟨s0', s1⟩, v01, ?_⟩, fun q => ?_⟩⟩
          · rw [tb_w_id (x := s + 1) (by omega) (by omega)]
            refine fin E v _ _ _ fE g92 g95 (hv.trans ?_)
            have e1 : i = n := by omega
            rw [show n - i = 0 by omega]
            refine ⟨fun q => ?_, fun q => Or.inl ⟨e1, q⟩⟩
            rcases q with q | q
            · exact q.2
            · exact absurd q.1 (by omega)
          · refine e292s s0' s1 t0 (by omega) (fun G fG => ?_)
            have k92 : G.1 92 = B.1 92 := (funext fun z => fG.1 92 z rfl rfl : G.1 92 = E.1 92).trans g92
            have k95 : G.1 95 = C.1 95 := (funext fun z => fG.1 95 z rfl rfl : G.1 95 = E.1 95).trans g95
            have fBG : te_f9 B G := fE.trans (fG.mono rfl rfl rfl)
            have pb := te_afB (t := t) s0' s1 t0 (by omega)
            rw [tb_w_id (x := t + 1) (by omega) (by omega), tb_w_id (x := i + 1) (by omega) (by omega)]
            have more : ∀ v' : Int, (v' ≠ 0 ↔ v ≠ 0 ∨ (te_al hm t ∧ te_rr x y hm (n - i - 1) (td_af s t))) → (v' ≠ 0 ↔ (i = n ∧ s / 8 = x * 10 + y) ∨ (i < n ∧ ∃ u, (0 ≤ u ∧ u < t + 1) ∧ te_al hm u ∧ te_rr x y hm (n - i - 1) (td_af s u))) := by
              intro v' hv'
              rw [hv', hv]
              refine ⟨fun z => ?_, fun z => ?_⟩
              · rcases z with (z | ⟨_, u, u01, r⟩) | z
                · exact Or.inl z
                · exact Or.inr ⟨q, u, by omega, r⟩
                · exact Or.inr ⟨q, t, by omega, z⟩
              · rcases z with z | ⟨_, u, u01, r⟩
                · exact Or.inl (Or.inl z)
                · by_cases e : u = t
                  · rw [e] at r; exact Or.inr r
                  · exact Or.inl (Or.inr ⟨q, u, by omega, r⟩)
            refine ⟨fun nz => iht G 1 _ fBG k92 k95 (Or.inr rfl) (more 1 ⟨fun _ => Or.inl nz, fun _ => by decide⟩), fun z => ?_⟩
            rw [te224]
            have al01 := tb_bt01 hm t
            refine ⟨fun b => iht G 0 _ fBG k92 k95 (Or.inl rfl) (more 0 ⟨fun w => absurd rfl w, fun w => ?_⟩), fun b => ⟨pb, fun dn => ?_, fun dn => ⟨pb, ?_⟩⟩⟩
            · rcases w with w | w
              · exact absurd z w
              · exact absurd (show (0 : Int) = 1 from b.symm.trans w.1) (by decide)
            · have al : te_al hm t := by
                rcases al01 with w | w
                · exact absurd w b
                · exact w
              refine iht G 0 _ fBG k92 k95 (Or.inl rfl) (more 0 ⟨fun w => absurd rfl w, fun w => ?_⟩)
              rcases w with w | w
              · exact absurd z w
              · have dd := te_rc_d mn D hn n40 i0 (by omega) s0' s1 ds t0 (by omega) al w.2
                rw [k92] at dn
                exact absurd dd dn
            · have al : te_al hm t := by
                rcases al01 with w | w
                · exact absurd w b
                · exact w
              rw [k92] at dn
              rw [k95]
              have mt := m (td_af s t) pb.1 pb.2 (by omega) (by omega)
              -- the mark of the spot behind this turn is right: later writes left it alone
              rw [dn, show n - (i + 1) = n - i - 1 by omega] at mt
              have w0 : ∀ w : Int, ((if w = 0 then (0 : Int) else 1) ≠ 0 ↔ w ≠ 0) := by
                intro w
                by_cases e : w = 0
                · rw [if_pos e]; exact ⟨fun q => absurd rfl q, fun q => absurd e q⟩
                · rw [if_neg e]; exact ⟨fun _ => e, fun _ => by decide⟩
              refine iht G _ _ fBG k92 k95 (by ((repeat' split) <;> omega)) (more _ ((w0 _).trans (mt.trans ⟨fun r => Or.inr ⟨al, r⟩, fun w => ?_⟩)))
              rcases w with w | w
              · exact absurd z w
              · exact w.2
      · by_cases e : s' = s
        · rw [e] at c; exact absurd c ds
        · exact h s' a (by omega) c
theorem l290e {s0 n0 n : Int} (b0 : 0 ≤ s0) (b1 : s0 < 800) (D : te_DS (te_al hm) td_af s0 (B.1 92)) (mn : te_mn (B.1 92) (te_gl x y) n) (n0' : 0 ≤ n) (n40 : n ≤ 40) (mk : te_mk x y hm (B.1 92) (B.1 95) n (-1)) (k : ∀ C m, te_f9 B C → te_ST (te_al hm) td_af s0 (te_gl x y) n m → (∀ i, 0 ≤ i → i < n → C.1 94 i = te_tn n.toNat m i) → K n C) : tb_E X 290 420 [tb_r 77, tb_i x, tb_i y, tb_i hm, tb_i s0, tb_i n0, tb_i n, tb_i s0, tb_i 0, j9, j10, j11] [] B (tb_Ri 290 K) := by
  have hn : ∀ p t, 0 ≤ p → p < 800 → 0 ≤ t → t ≤ 2 → 0 ≤ td_af p t ∧ td_af p t < 800 := fun p t a b c d => te_afB a b c d
  have key := tb_lp (n := n) (E := fun i => ∀ (C : tb_H) (s m : Int) (j9 : tb_V), te_f9 B C → C.1 92 = B.1 92 → C.1 95 = B.1 95 → (0 ≤ s ∧ s < 800) → te_ok (te_al hm) i.toNat m → te_W td_af s0 i.toNat m = s → B.1 92 s = i → te_rr x y hm (n - i) s → (∀ m', te_ok (te_al hm) n.toNat m' → te_gl x y (te_W td_af s0 n.toNat m') → m ≤ te_pr (n - i).toNat m') → (∀ z, 0 ≤ z → z < i → C.1 94 z = te_tn i.toNat m z) → tb_E X 290 420 [tb_r 77, tb_i x, tb_i y, tb_i hm, tb_i s0, tb_i n0, tb_i n, tb_i s, tb_i i, j9, j10, j11] [] C (tb_Ri 290 K)) n0' ?_ ?_
  · have d0 := D.1 0 1 (by decide) rfl
    have e0 : te_W td_af s0 0 1 = s0 := rfl
    rw [e0] at d0
    have z0 : B.1 92 s0 = 0 := by omega
    have r0 : te_rr x y hm (n - 0) s0 := by
      rcases mn with q | q
      · omega
      · obtain ⟨s, s01, g, ds⟩ := q.2.1
        obtain ⟨_, m, hm', hw⟩ := D.2 s s01.1 s01.2 (by omega)
        rw [ds] at hm' hw
        have := te_pr_rc (al := te_al hm) (nx := td_af) (s0 := s0) (Gl := te_gl x y) n.toNat 0 m (by rw [Nat.zero_add]; exact hm') (by rw [Nat.zero_add, hw]; exact g)
        rw [show n - 0 = n by omega]
        exact this
    refine key B s0 1 _ tb_fr.refl rfl rfl ⟨b0, b1⟩ rfl rfl z0 r0 (fun m' o _ => ?_) (fun z a b => absurd b (by omega))
    have := te_pr_ok (n - 0).toNat 0 m' (by rw [Nat.zero_add, show n - 0 = n by omega]; exact o)
    have h' : te_pr (n - 0).toNat m' = 1 := this
    omega
  · intro C s m j9 fC e92 e95 s01 hm' hw ds r le ht
    refine q290_420 ⟨fun _ => ?_, fun q => absurd q (by omega)⟩
    refine k C m fC (Or.inr ⟨⟨n0', n40⟩, hm', ?_, fun l m' l4 o g => ?_⟩) ht
    · rw [hw]
      rw [show n - n = 0 by omega] at r
      exact r
    · have nl := mn.le D (l := l) (by omega) o g
      by_cases e : l = n.toNat
      · subst e
        have := le m' o g
        rw [show (n - n).toNat = 0 by omega] at this
        exact this
      · have := te_ok_lt hm' o (by omega)
        omega
  · intro i i0 i1 ih C s m j9 fC e92 e95 s01 hm' hw ds r le ht
    refine q290_420 ⟨fun q => absurd q (by omega), fun _ => ?_⟩
    rw [show n - i = n - i - 1 + 1 by omega, te_rr_s (by omega)] at r
    have inner := tb_lp (n := 3) (E := fun t => ∀ (E : tb_H), te_f9 C E → E.1 92 = B.1 92 → E.1 95 = B.1 95 → E.1 94 = C.1 94 → (∀ u, 0 ≤ u → u < t → ¬ (te_al hm u ∧ te_rr x y hm (n - i - 1) (td_af s u))) → tb_E X 290 430 [tb_r 77, tb_i x, tb_i y, tb_i hm, tb_i s0, tb_i n0, tb_i n, tb_i s, tb_i i, tb_i t, j10, j11] [] E (tb_Ri 290 K)) (by decide) ?_ ?_
    · exact inner C tb_fr.refl e92 e95 rfl (fun u a b => absurd b (by omega))
    · intro E _ _ _ _ none
      obtain ⟨u, u01, z⟩ := r
      exact absurd z (none u u01.1 (by omega))
    · intro t t0 t1 iht E fE g92 g95 g94 none
      have pb := te_afB (t := t) s01.1 s01.2 t0 (by omega)
      have nx : ∀ E, te_f9 C E → E.1 92 = B.1 92 → E.1 95 = B.1 95 → E.1 94 = C.1 94 → ¬ (te_al hm t ∧ te_rr x y hm (n - i - 1) (td_af s t)) → tb_E X 290 430 [tb_r 77, tb_i x, tb_i y, tb_i hm, tb_i s0, tb_i n0, tb_i n, tb_i s, tb_i i, tb_i (t + 1), j10, j11] [] E (tb_Ri 290 K) := by
        intro E fE g92 g95 g94 nt
        refine iht E fE g92 g95 g94 (fun u a b => ?_)
        by_cases e : u = t
        · rw [e]; exact nt
        · exact none u a (by omega)
      refine q290_430 ?_
      rw [te224, tb_w_id (x := t + 1) (by omega) (by omega), tb_w_id (x := i + 1) (by omega) (by omega)]
      refine ⟨fun b => nx E fE g92 g95 g94 (fun w => absurd (show (0 : Int) = 1 from b.symm.trans w.1) (by decide)), fun b => ?_⟩
      have al : te_al hm t := by
        rcases tb_bt01 hm t with w | w
        · exact absurd w b
        · exact w
      refine e292s s01.1 s01.2 t0 (by omega) (fun G fG => ⟨pb, ?_⟩)
      have k92 : G.1 92 = B.1 92 := (funext fun z => fG.1 92 z rfl rfl : G.1 92 = E.1 92).trans g92
      have k95 : G.1 95 = B.1 95 := (funext fun z => fG.1 95 z rfl rfl : G.1 95 = E.1 95).trans g95
      have k94 : G.1 94 = C.1 94 := (funext fun z => fG.1 94 z rfl rfl : G.1 94 = E.1 94).trans g94
      have fCG : te_f9 C G := fE.trans (fG.mono rfl rfl rfl)
      rw [k92]
      refine ⟨fun dn => nx G fCG k92 k95 k94 (fun w => dn (te_rc_d mn D hn n40 i0 i1 s01.1 s01.2 ds t0 (by omega) al w.2)), fun dn => ?_⟩
      refine e292s s01.1 s01.2 t0 (by omega) (fun H fH => ⟨pb, ?_⟩)
      have h92 : H.1 92 = B.1 92 := (funext fun z => fH.1 92 z rfl rfl : H.1 92 = G.1 92).trans k92
      have h95 : H.1 95 = B.1 95 := (funext fun z => fH.1 95 z rfl rfl : H.1 95 = G.1 95).trans k95
      have h94 : H.1 94 = C.1 94 := (funext fun z => fH.1 94 z rfl rfl : H.1 94 = G.1 94).trans k94
      have fCH : te_f9 C H := fCG.trans (fH.mono rfl rfl rfl)
      rw [h95]
      have mt := mk (td_af s t) pb.1 pb.2 (by omega) (by omega)
      rw [dn, show n - (i + 1) = n - i - 1 by omega] at mt
      refine ⟨fun w => ⟨⟨i0, by omega⟩, ?_⟩, fun w => nx H fCH h92 h95 h94 (fun v => (mt.mpr v.2) w)⟩
      have rt := mt.mp w
      refine e292s s01.1 s01.2 t0 (by omega) (fun J fJ => ?_)
      have e1 : (i + 1).toNat = i.toNat + 1 := by omega
      refine ih J (td_af s t) (3 * m + t) _ (fC.trans ((tb_fr.upI fCH rfl).trans (fJ.mono rfl rfl rfl))) ?_ ?_ pb ?_ ?_ dn ?_ (fun m' o g => ?_) (fun z a b => ?_)
      · exact (funext fun z => fJ.1 92 z rfl rfl : J.1 92 = (tb_upI H 94 i t).1 92).trans (by rw [td_upo (by decide)]; exact h92)
      · exact (funext fun z => fJ.1 95 z rfl rfl : J.1 95 = (tb_upI H 94 i t).1 95).trans (by rw [td_upo (by decide)]; exact h95)
      · rw [e1]; exact te_ok_c hm' t0 (by omega) al
      · rw [e1, te_W_c t0 (by omega), hw]
      · rw [show n - (i + 1) = n - i - 1 by omega]; exact rt
      · have p0 := le m' o g
        have e2 : (n - i).toNat = (n - (i + 1)).toNat + 1 := by omega
        rw [e2] at p0
        have p1 : m ≤ te_pr (n - (i + 1)).toNat m' / 3 := p0
        have e3 : n.toNat = i.toNat + ((n - (i + 1)).toNat + 1) := by omega
        have e4 : n.toNat = (i.toNat + 1) + (n - (i + 1)).toNat := by omega
        by_cases c : m < te_pr (n - (i + 1)).toNat m' / 3
        · omega
        · have em : te_pr (n - (i + 1)).toNat m' / 3 = m := by omega
          have al' : te_al hm (te_pr (n - (i + 1)).toNat m' % 3) := by
            rw [e3] at o
            exact te_pr_al o
          have rc' : te_rr x y hm (n - i - 1) (td_af s (te_pr (n - (i + 1)).toNat m' % 3)) := by
            rw [e4] at o g
            have := te_pr_rc (al := te_al hm) (nx := td_af) (s0 := s0) (Gl := te_gl x y) (n - (i + 1)).toNat (i.toNat + 1) m' o g
            have w1 : te_W td_af s0 (i.toNat + 1) (te_pr (n - (i + 1)).toNat m') = td_af (te_W td_af s0 i.toNat (te_pr (n - (i + 1)).toNat m' / 3)) (te_pr (n - (i + 1)).toNat m' % 3) := rfl
            rw [w1, em, hw] at this
            rw [show n - i - 1 = n - (i + 1) by omega]
            exact this
          have tl : t ≤ te_pr (n - (i + 1)).toNat m' % 3 := by
            by_cases z : t ≤ te_pr (n - (i + 1)).toNat m' % 3
            · exact z
            · exact absurd ⟨al', rc'⟩ (none _ (by omega) (by omega))
          omega
      · rw [fJ.1 94 z rfl rfl, e1, te_tn_c t0 (by omega)]
        by_cases e : z = i
        · rw [e, tb_uI_s, if_pos (by omega)]
        · rw [tb_uI_k e, h94, if_neg (by omega)]
          exact ht z a (by omega)
end TESTE2
