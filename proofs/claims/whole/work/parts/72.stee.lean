/-! STEER 5: the reference's way -/
section TESTEE
variable {X : tb_X} {A B C : tb_H} {K : Int → tb_H → Prop} {Kv : tb_H → Prop}
abbrev te_al (hm : Int) : Int → Prop := fun t => tb_bt hm t = 1
def te_S9 : List Nat := [90, 91, 92, 93, 94, 95]
def te_F9 : List (Nat × Int) := [(77, 28), (77, 29), (77, 30)]
abbrev te_f9 (A B : tb_H) : Prop := tb_fr te_S9 te_F9 [] A B
theorem te_afB {s t : Int} (s0 : 0 ≤ s) (s1 : s < 800) (t0 : 0 ≤ t) (t1 : t ≤ 2) : 0 ≤ td_af s t ∧ td_af s t < 800 := ⟨(td_afB s0 s1 t0 t1).1, (td_afB s0 s1 t0 t1).2.1⟩
theorem te224 {hm t : Int} : tb_Ci X 224 [tb_i hm, tb_i t] A K = K (tb_bt hm t) A := by
  rw [e224]
  rcases tb_bt01 hm t with z | z
  · rw [z]
    have z' : tb_and (tb_shr hm t) 1 = 0 := z
    rw [z', if_pos (by decide)]
  · rw [z]
    have z' : tb_and (tb_shr hm t) 1 = 1 := z
    rw [z', if_neg (by decide)]
section
variable {x y hm : Int} {j5 j6 j7 j8 j9 j10 j11 : tb_V}
theorem l290a (M : tc_M A) (fB : te_f9 A B) (k : ∀ C, te_f9 A C → (∀ s, 0 ≤ s → s < 800 → s ≠ (A.1 82 0 * 10 + A.1 82 1) * 8 + A.1 82 2 → C.1 92 s = -1) → C.1 92 ((A.1 82 0 * 10 + A.1 82 1) * 8 + A.1 82 2) = 0 → C.1 93 0 = (A.1 82 0 * 10 + A.1 82 1) * 8 + A.1 82 2 → tb_E X 290 75 [tb_r 77, tb_i x, tb_i y, tb_i hm, tb_i ((A.1 82 0 * 10 + A.1 82 1) * 8 + A.1 82 2), tb_i 1, tb_i 0, j7, j8, j9, j10, j11] [] C (tb_Ri 290 K)) : tb_E X 290 8 [tb_r 77, tb_i x, tb_i y, tb_i hm, tb_i 0, j5, j6, j7, j8, j9, j10, j11] [] B (tb_Ri 290 K) := by
  have s := M.s0
  have key := tb_lp (n := 800) (E := fun i => ∀ C, te_f9 A C → (∀ s, 0 ≤ s → s < i → C.1 92 s = -1) → tb_E X 290 8 [tb_r 77, tb_i x, tb_i y, tb_i hm, tb_i i, j5, j6, j7, j8, j9, j10, j11] [] C (tb_Ri 290 K)) (by decide) ?_ ?_
  · exact key B fB (fun s a b => absurd b (by omega))
  · intro C fC h
    have e82 : C.1 82 = A.1 82 := funext fun z => fC.1 82 z rfl rfl
    refine q290_8 ⟨fun _ => ?_, fun q => absurd q (by decide)⟩
    rw [e82, e291 s.1.1 s.1.2 s.2.1.1 s.2.1.2 s.2.2.1.1 s.2.2.1.2]
    refine ⟨by omega, k _ (tb_fr.upI (tb_fr.upI fC rfl) rfl) (fun z z0 z1 ne => ?_) ?_ ?_⟩
    · rw [td_upo (by decide), tb_uI_k ne]; exact h z z0 z1
    · rw [td_upo (by decide), tb_uI_s]
    · rw [tb_uI_s]
  · intro i i0 i1 ih C fC h
    refine q290_8 ⟨fun q => absurd q (by omega), fun _ => ⟨⟨i0, i1⟩, ?_⟩⟩
    rw [tb_w_id (x := i + 1) (by omega) (by omega)]
    refine ih _ (tb_fr.upI fC rfl) (fun z z0 z1 => ?_)
    by_cases e : z = i
    · rw [e, tb_uI_s]
    · rw [tb_uI_k e]; exact h z z0 (by omega)
theorem l290b {s0 : Int} {G0 fr0 tu0 : Int → Int} (fB : te_f9 A B) (Q0 : te_Q 800 (te_al hm) td_af s0 0 0 1 (B.1 93) (B.1 92) fr0 tu0 G0) (k : ∀ C n j8, te_f9 A C → te_DS (te_al hm) td_af s0 (C.1 92) → tb_E X 290 180 [tb_r 77, tb_i x, tb_i y, tb_i hm, tb_i s0, tb_i n, tb_i (-2), tb_i 0, j8, j9, j10, j11] [] C (tb_Ri 290 K)) : tb_E X 290 75 [tb_r 77, tb_i x, tb_i y, tb_i hm, tb_i s0, tb_i 1, tb_i 0, j7, j8, j9, j10, j11] [] B (tb_Ri 290 K) := by
  have outer : ∀ (m : Nat) (i : Int), 801 ≤ i + m → ∀ (B : tb_H) (n : Int) (G fr tu : Int → Int) (j7 j8 : tb_V), te_f9 A B → te_Q 800 (te_al hm) td_af s0 i 0 n (B.1 93) (B.1 92) fr tu G → tb_E X 290 75 [tb_r 77, tb_i x, tb_i y, tb_i hm, tb_i s0, tb_i n, tb_i i, j7, j8, j9, j10, j11] [] B (tb_Ri 290 K) := by
    intro m
    induction m with
    | zero =>
      intro i im B n G fr tu j7 j8 fB Q
      have := Q.1
      omega
    | succ m ih =>
      intro i im B n G fr tu j7 j8 fB Q
      have q1 := Q.1
      by_cases c : n ≤ i
      · have e : i = n := by omega
        rw [e] at Q
        exact q290_75 ⟨fun _ => k B n j8 fB Q.ds, fun q => absurd q (by omega)⟩
      · refine q290_75 ⟨fun q => absurd q (by omega), fun _ => ?_⟩
        have inner := tb_lp (n := 3) (E := fun t => ∀ (C : tb_H) (n : Int) (G fr tu : Int → Int) (j8 : tb_V), te_f9 A C → te_Q 800 (te_al hm) td_af s0 i t n (C.1 93) (C.1 92) fr tu G → i < n → tb_E X 290 85 [tb_r 77, tb_i x, tb_i y, tb_i hm, tb_i s0, tb_i n, tb_i i, tb_i t, j8, j9, j10, j11] [] C (tb_Ri 290 K)) (by decide) ?_ ?_
        · exact inner B n G fr tu j8 fB Q (by omega)
        · intro C n G fr tu j8 fC Q c
          refine q290_85 ⟨fun _ => ?_, fun q => absurd q (by decide)⟩
          rw [tb_w_id (x := i + 1) (by omega) (by omega)]
          exact ih (i + 1) (by omega) C n G fr tu _ _ fC (Q.next c (by decide) (Or.inl rfl))
        · intro t t0 t1 iht C n G fr tu j8 fC Q c
          have qn := Q.1
          have ii := Q.2.2.1 i q1.2.1 c
          have pb := te_afB (t := t) ii.1.1 ii.1.2 t0 (by omega)
          refine q290_85 ⟨fun q => absurd q (by omega), fun _ => ⟨⟨by omega, by omega⟩, ?_⟩⟩
          refine e292s ii.1.1 ii.1.2 t0 (by omega) (fun D fD => ?_)
          have f93 : D.1 93 = C.1 93 := funext fun z => fD.1 93 z rfl rfl
          have f92 : D.1 92 = C.1 92 := funext fun z => fD.1 92 z rfl rfl
          have fAD : te_f9 A D := fC.trans (fD.mono rfl rfl rfl)
          rw [← f93, ← f92] at Q
          rw [← f93] at pb ii ⊢
          rw [← f92] at ii
          rw [te224, tb_w_id (x := t + 1) (by omega) (by omega)]
          refine ⟨fun z => iht D n G fr tu _ fAD (Q.skip (fun q => absurd (show (0 : Int) = 1 from z.symm.trans q) (by decide))) c, fun z => ⟨pb, fun v => ?_, fun v => ?_⟩⟩
          · have al : te_al hm t := by
              rcases tb_bt01 hm t with w | w
              · exact absurd w z
              · exact w
            have v1 : D.1 92 (td_af (D.1 93 i) t) = -1 := by
              by_cases e : D.1 92 (td_af (D.1 93 i) t) = -1
              · exact e
              · obtain ⟨k, hk, qk⟩ := Q.2.2.2.2.2.2.2.2 _ pb.1 pb.2 e
                have := (Q.2.2.1 k hk.1 hk.2).2.1.1
                rw [qk] at this
                omega
            have pu := Q.push c t0 (by omega) al (by omega) rfl pb.1 pb.2 v1
            rw [tb_w_id (x := D.1 92 (D.1 93 i) + 1) (by omega) (by omega), tb_w_id (x := n + 1) (by omega) (by omega)]
            refine ⟨⟨by omega, by omega⟩, ii.1, pb, ⟨by omega, pu.1⟩, ?_⟩
            refine iht _ (n + 1) (td_up G n (3 * G i + t)) (td_up fr (td_af (D.1 93 i) t) (D.1 93 i)) (td_up tu (td_af (D.1 93 i) t) t) _ (tb_fr.upI (tb_fr.upI fAD rfl) rfl) ?_ (by omega)
            · rw [td_upi, td_upo (show 93 ≠ 92 by decide), td_upo (show 92 ≠ 93 by decide), td_upi]
              exact pu.2
          · exact iht D n G fr tu _ fAD (Q.seen c pb.1 pb.2 (by omega)) c
  exact outer 801 0 (by decide) B 1 G0 fr0 tu0 _ _ fB Q0
theorem l290c {s0 n0 : Int} (fB : te_f9 A B) (x0 : 0 ≤ x) (x1 : x ≤ 9) (y0 : 0 ≤ y) (y1 : y ≤ 9) (D : te_DS (te_al hm) td_af s0 (B.1 92)) (k2 : ∀ n, te_mn (B.1 92) (fun p => p / 8 = x * 10 + y) n → n = -2 ∨ 40 < n → K (-2) B) (k : ∀ n j8, te_mn (B.1 92) (fun p => p / 8 = x * 10 + y) n → 0 ≤ n → n ≤ 40 → tb_E X 290 256 [tb_r 77, tb_i x, tb_i y, tb_i hm, tb_i s0, tb_i n0, tb_i n, tb_i n, j8, j9, j10, j11] [] B (tb_Ri 290 K)) : tb_E X 290 180 [tb_r 77, tb_i x, tb_i y, tb_i hm, tb_i s0, tb_i n0, tb_i (-2), tb_i 0, j8, j9, j10, j11] [] B (tb_Ri 290 K) := by
  have dneg : ∀ s, 0 ≤ s → s < 800 → B.1 92 s = -1 ∨ 0 ≤ B.1 92 s := by
    intro s a b
    by_cases e : B.1 92 s = -1
    · exact Or.inl e
    · exact Or.inr (D.2 s a b e).1.1
  have key := tb_lp (n := 8) (E := fun h => ∀ (n : Int) (j8 : tb_V), ((n = -2 ∧ ∀ g, 0 ≤ g → g < h → B.1 92 ((x * 10 + y) * 8 + g) = -1) ∨ (0 ≤ n ∧ (∃ g, (0 ≤ g ∧ g < h) ∧ B.1 92 ((x * 10 + y) * 8 + g) = n) ∧ ∀ g, 0 ≤ g → g < h → B.1 92 ((x * 10 + y) * 8 + g) = -1 ∨ n ≤ B.1 92 ((x * 10 + y) * 8 + g))) → tb_E X 290 180 [tb_r 77, tb_i x, tb_i y, tb_i hm, tb_i s0, tb_i n0, tb_i n, tb_i h, j8, j9, j10, j11] [] B (tb_Ri 290 K)) (by decide) ?_ ?_
  · exact key (-2) _ (Or.inl ⟨rfl, fun g a b => absurd b (by omega)⟩)
  · intro n j8 h
    have mn : te_mn (B.1 92) (fun p => p / 8 = x * 10 + y) n := by
      rcases h with h | h
      · refine Or.inl ⟨h.1, fun s s0' s1 e => ?_⟩
        have e' : s / 8 = x * 10 + y := e
        have := h.2 (s % 8) (by omega) (by omega)
        rw [show (x * 10 + y) * 8 + s % 8 = s by omega] at this
        exact this
      · obtain ⟨g, g01, dg⟩ := h.2.1
        refine Or.inr ⟨h.1, ⟨(x * 10 + y) * 8 + g, by omega, by show ((x * 10 + y) * 8 + g) / 8 = x * 10 + y; omega, dg⟩, fun s s0' s1 e => ?_⟩
        have e' : s / 8 = x * 10 + y := e
        have := h.2.2 (s % 8) (by omega) (by omega)
        rw [show (x * 10 + y) * 8 + s % 8 = s by omega] at this
        exact this
    refine q290_180 ⟨fun _ => ⟨fun e => k2 n mn (Or.inl e), fun e => ⟨fun l => k n j8 mn (by rcases h with h | h; exact absurd h.1 e; exact h.1) l, fun l => k2 n mn (Or.inr l)⟩⟩, fun q => absurd q (by decide)⟩
  · intro g g0 g1 ih n j8 h
    refine q290_180 ⟨fun q => absurd q (by omega), fun _ => ?_⟩
    rw [e291 x0 x1 y0 y1 g0 (by omega), tb_w_id (x := g + 1) (by omega) (by omega)]
    refine ⟨by omega, ?_⟩
    have dg := dneg ((x * 10 + y) * 8 + g) (by omega) (by omega)
    by_cases c : B.1 92 ((x * 10 + y) * 8 + g) < 0
    · rw [if_pos c]
      refine ih n _ ?_
      rcases h with h | h
      · refine Or.inl ⟨h.1, fun z z0 z1 => ?_⟩
        by_cases e : z = g
        · rw [e]; omega
        · exact h.2 z z0 (by omega)
      · obtain ⟨w, w01, dw⟩ := h.2.1
        refine Or.inr ⟨h.1, ⟨w, by omega, dw⟩, fun z z0 z1 => ?_⟩
        by_cases e : z = g
        · rw [e]; omega
        · exact h.2.2 z z0 (by omega)
    · rw [if_neg c]
      rcases h with h | h
      · rw [if_pos h.1]
        refine ih _ _ (Or.inr ⟨by omega, ⟨g, by omega, rfl⟩, fun z z0 z1 => ?_⟩)
        by_cases e : z = g
        · rw [e]; omega
        · exact Or.inl (h.2 z z0 (by omega))
      · rw [if_neg (by omega)]
        obtain ⟨w, w01, dw⟩ := h.2.1
        by_cases l : n ≤ B.1 92 ((x * 10 + y) * 8 + g)
        · rw [if_pos l]
          refine ih _ _ (Or.inr ⟨h.1, ⟨w, by omega, dw⟩, fun z z0 z1 => ?_⟩)
          by_cases e : z = g
          · rw [e]; omega
          · exact h.2.2 z z0 (by omega)
        · rw [if_neg l]
          refine ih _ _ (Or.inr ⟨by omega, ⟨g, by omega, rfl⟩, fun z z0 z1 => ?_⟩)
          by_cases e : z = g
          · rw [e]; omega
          · have := h.2.2 z z0 (by omega)
            omega
end
end TESTEE
