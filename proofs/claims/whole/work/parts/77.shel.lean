/-! TYING DOWN 3: shelter -/
section TESHEL
variable {X : tb_X} {A B C : tb_H} {K : Int → tb_H → Prop} {Kv : tb_H → Prop}
section
variable {r s : Int → Int}
def te_sh (r s : Int → Int) (c b : Int) : Prop := (b = -2 ∧ ∀ u, te_va r s (te_Pr r) u → te_OK r s u → te_cd r s u < c → ∀ v, te_T r s u v → v = -2) ∨ (0 ≤ b ∧ (∃ u, te_va r s (te_Pr r) u ∧ te_OK r s u ∧ te_cd r s u < c ∧ te_T r s u b) ∧ ∀ u, te_va r s (te_Pr r) u → te_OK r s u → te_cd r s u < c → ∀ v, te_T r s u v → v = -2 ∨ b ≤ v)
theorem te_T.b {w : Int → Int} {v : Int} (h : te_T r s w v) : v = -2 ∨ 0 ≤ v := by
  rcases h with h | h
  · exact Or.inl h.1
  · exact Or.inr h.1
theorem te_sh.u {b b' : Int} (h : te_sh r s 4096 b) (h' : te_sh r s 4096 b') : b = b' := by
  rcases h with h | h <;> rcases h' with h' | h'
  · exact h.1.trans h'.1.symm
  · obtain ⟨u, a1, a2, a3, a4⟩ := h'.2.1
    have := h.2 u a1 a2 a3 b' a4
    omega
  · obtain ⟨u, a1, a2, a3, a4⟩ := h.2.1
    have := h'.2 u a1 a2 a3 b a4
    omega
  · obtain ⟨u, a1, a2, a3, a4⟩ := h.2.1
    obtain ⟨u', a1', a2', a3', a4'⟩ := h'.2.1
    have := h.2.2 u' a1' a2' a3' b' a4'
    have := h'.2.2 u a1 a2 a3 b a4
    omega
theorem te_sh.keep {c c' b : Int} {w : Int → Int} (h : te_sh r s c b) (c2 : r 112 ≤ 8) (c4 : 0 ≤ r 114 ∧ r 114 ≤ 4) (hw : te_va r s (te_Pr r) w) (hc : c = te_cd r s w) (D : te_D r s w c') (nb : te_OK r s w → ∀ v, te_T r s w v → v = -2 ∨ (b ≠ -2 ∧ b ≤ v)) : te_sh r s c' b := by
  subst hc
  have dd := D.1
  rcases h with h | h
  · refine Or.inl ⟨h.1, fun u hu ok q v hv => ?_⟩
    have l := D.2 u hu ok q
    by_cases z : te_cd r s u = te_cd r s w
    · have g := te_cd_ag c2 c4.2 (fun _ p => p) hu hw z
      rcases nb (g.symm.OK c4.1 ok) v (g.symm.T hv) with y | y
      · exact y
      · exact absurd h.1 y.1
    · exact h.2 u hu ok (by omega) v hv
  · obtain ⟨u0, a1, a2, a3, a4⟩ := h.2.1
    refine Or.inr ⟨h.1, ⟨u0, a1, a2, by omega, a4⟩, fun u hu ok q v hv => ?_⟩
    have l := D.2 u hu ok q
    by_cases z : te_cd r s u = te_cd r s w
    · have g := te_cd_ag c2 c4.2 (fun _ p => p) hu hw z
      rcases nb (g.symm.OK c4.1 ok) v (g.symm.T hv) with y | y
      · exact Or.inl y
      · exact Or.inr y.2
    · exact h.2.2 u hu ok (by omega) v hv
theorem te_sh.new {c c' b v : Int} {w : Int → Int} (h : te_sh r s c b) (c2 : r 112 ≤ 8) (c4 : 0 ≤ r 114 ∧ r 114 ≤ 4) (hw : te_va r s (te_Pr r) w) (hc : c = te_cd r s w) (D : te_D r s w c') (ok : te_OK r s w) (hv : te_T r s w v) (v0 : 0 ≤ v) (bt : b = -2 ∨ v ≤ b) : te_sh r s c' v := by
  subst hc
  refine Or.inr ⟨v0, ⟨w, hw, ok, D.1, hv⟩, fun u hu ok' q v' hv' => ?_⟩
  have l := D.2 u hu ok' q
  by_cases z : te_cd r s u = te_cd r s w
  · have g := te_cd_ag c2 c4.2 (fun _ p => p) hu hw z
    have e := te_T.u hv (g.symm.T hv')
    omega
  · rcases h with h | h
    · exact Or.inl (h.2 u hu ok' (by omega) v' hv')
    · have := h.2.2 u hu ok' (by omega) v' hv'
      omega
theorem te_sh.z {w : Int → Int} (f : ∀ u, te_va r s (te_Pr r) u → te_OK r s u → te_cd r s w ≤ te_cd r s u) : te_sh r s (te_cd r s w) (-2) := by
  refine Or.inl ⟨rfl, fun u hu ok q => ?_⟩
  have := f u hu ok
  omega
theorem te_sh.b {c b : Int} (h : te_sh r s c b) : b = -2 ∨ 0 ≤ b := by
  rcases h with h | h
  · exact Or.inl h.1
  · exact Or.inr h.1
end
theorem sp188 (L : tb_L A) (k : ∀ B b, tb_fr te_S5 te_F [] A B → te_sh (A.1 80) (A.1 82) 4096 b → K b B) : tb_Ci X 188 [tb_r 21, tb_r 4] A K := by
  have M := L.M
  have c2 := M.c112
  have c4 := M.c114
  refine q188 (sp130 L (fun B w fB VB hw hx => ?_))
  have fst := te_first hx (te_Pc_Pr (r := A.1 80) (s := A.1 82))
  have loop : ∀ (m : Nat) (C : tb_H) (w : Int → Int) (b way : Int) (j : tb_V), 4096 ≤ te_cd (A.1 80) (A.1 82) w + m → tb_fr te_S5 te_F [] A C → te_MV (A.1 80) (A.1 82) w 4 C → (∀ f, 0 ≤ f → f < A.1 80 114 → 0 ≤ w f ∧ w f < A.1 80 112) → te_va (A.1 80) (A.1 82) (te_Pc (A.1 80) (A.1 82)) w → 0 ≤ way → way ≤ te_cd (A.1 80) (A.1 82) w → te_sh (A.1 80) (A.1 82) (te_cd (A.1 80) (A.1 82) w) b → tb_E X 188 13 [tb_r 21, tb_r 4, tb_i b, tb_i 1, tb_i way, j] [] C (tb_Ri 188 K) := by
    intro m
    induction m with
    | zero =>
      intro C w b way j hm fC VC hw pw
      have := te_cdb c2.2 te_Pc_Pr pw
      omega
    | succ m ih =>
      intro C w b way j hm fC VC hw pw w0 w1 hh
      have cb := te_cdb c2.2 te_Pc_Pr pw
      have go : ∀ (b' : Int) (j : tb_V), (∀ c', te_D (A.1 80) (A.1 82) w c' → te_sh (A.1 80) (A.1 82) c' b') → tb_Ci X 135 [tb_r 21] C (fun v A' => tb_E X 188 13 [tb_r 21, tb_r 4, tb_i b', tb_i v, tb_i (tb_w (way + 1)), j] [] A' (tb_Ri 188 K)) := by
        intro b' j hb'
        refine te_step L hw pw VC (fun D w' fD VD hw' pw' d => ?_) (fun D fD d => ?_)
        · have := d.1
          rw [tb_w_id (by omega) (by omega)]
          exact ih D w' b' (way + 1) j (by omega) (fC.trans (fD.mono rfl rfl rfl)) VD hw' pw' (by omega) (by omega) (hb' _ d)
        · refine q188_13 ⟨fun _ => ?_, fun _ => ⟨fun _ => ?_, fun q => absurd rfl q⟩⟩
          · exact k D b' (fC.trans (fD.mono rfl rfl rfl)) (hb' _ d)
          · exact k D b' (fC.trans (fD.mono rfl rfl rfl)) (hb' _ d)
      have w8 : ∀ f, 0 ≤ f → f < A.1 80 114 → A.1 82 (27 + f) = 0 → 0 ≤ w f ∧ w f < 8 := fun f f0 f1 _ => by
        have := hw f f0 f1
        omega
      refine q188_13 ⟨fun q => absurd q (by omega), fun _ => ⟨fun q => absurd q (by decide), fun _ => ?_⟩⟩
      refine sp186 M w8 (fun f f0 f1 => (VC.1 f f0 f1).1) VC.2.2.2.2.2.1 (fun v hv => ?_)
      have T := hv.T M w8
      have tb := T.b
      have bb := hh.b
      refine ⟨fun q => go b _ (fun c' d => hh.keep c2.2 c4 pw.w rfl d (fun _ v' hv' => ?_)), fun q => ⟨fun q2 => ?_, fun q2 => ⟨fun q3 => go b _ (fun c' d => hh.keep c2.2 c4 pw.w rfl d (fun _ v' hv' => ?_)), fun q3 => ?_⟩⟩⟩
      · have := T.u hv'
        omega
      · refine sp133 M pw VC (fun ok => ⟨fun q => absurd q (by decide), fun _ => go v _ (fun c' d => hh.new c2.2 c4 pw.w rfl d ok T q (Or.inl (by omega)))⟩) (fun nok => ⟨fun _ => go b _ (fun c' d => hh.keep c2.2 c4 pw.w rfl d (fun ok => absurd ok nok)), fun q => absurd rfl q⟩)
      · have := T.u hv'
        exact Or.inr ⟨by omega, by omega⟩
      · refine sp133 M pw VC (fun ok => ⟨fun q => absurd q (by decide), fun _ => go v _ (fun c' d => hh.new c2.2 c4 pw.w rfl d ok T q (Or.inr (by omega)))⟩) (fun nok => ⟨fun _ => go b _ (fun c' d => hh.keep c2.2 c4 pw.w rfl d (fun ok => absurd ok nok)), fun q => absurd rfl q⟩)
  refine loop 4096 B w (-2) 0 _ ?_ (fB.mono rfl rfl rfl) VB hw fst.1 (by decide) (te_cdb c2.2 te_Pc_Pr fst.1).1 (te_sh.z (fun u hu ok => fst.2 u (ok.c hu L.own)))
  have := te_cdb c2.2 te_Pc_Pr fst.1
  omega
theorem l317 (M : tc_M A) (fB : tb_fr [90, 91] [] [] A B) (cB : te_cn (A.1 80) (A.1 82) (B.1 90)) (gB : te_rg (A.1 80) (B.1 90)) (fst : ∀ u, te_va (A.1 80) (A.1 82) (te_Pr (A.1 80)) u → te_cd (A.1 80) (A.1 82) (B.1 90) ≤ te_cd (A.1 80) (A.1 82) u) {j : tb_V} (k : ∀ C b, tb_fr [90, 91] [] [] A C → te_sh (A.1 80) (A.1 82) 4096 b → K b C) : tb_E X 317 26 [tb_r 77, tb_i (-2), tb_i 1, j] [] B (tb_Ri 317 K) := by
  have c2 := M.c112
  have c4 := M.c114
  have loop : ∀ (m : Nat) (C : tb_H) (b : Int) (j : tb_V), 4096 ≤ te_cd (A.1 80) (A.1 82) (C.1 90) + m → tb_fr [90, 91] [] [] A C → te_cn (A.1 80) (A.1 82) (C.1 90) → te_rg (A.1 80) (C.1 90) → te_sh (A.1 80) (A.1 82) (te_cd (A.1 80) (A.1 82) (C.1 90)) b → tb_E X 317 26 [tb_r 77, tb_i b, tb_i 1, j] [] C (tb_Ri 317 K) := by
    intro m
    induction m with
    | zero =>
      intro C b j hm fC cC gC
      have := te_cdb (s := A.1 82) c2.2 (fun _ p => p) (gC.va (s := A.1 82))
      omega
    | succ m ih =>
      intro C b j hm fC cC gC hh
      have e80 := (te_rows fC).1
      have e82 := (te_rows fC).2
      have MC : tc_M C := M.c e80 e82
      have go : ∀ (b' : Int) (j : tb_V), (∀ c', te_D (A.1 80) (A.1 82) (C.1 90) c' → te_sh (A.1 80) (A.1 82) c' b') → tb_Ci X 285 [tb_r 77] C (fun v A' => tb_E X 317 26 [tb_r 77, tb_i b', tb_i v, j] [] A' (tb_Ri 317 K)) := by
        intro b' j hb'
        refine te_stepR M e80 e82 cC gC (fun D fD cD gD d => ?_) (fun D fD d => ?_)
        · have := d.1
          exact ih D b' j (by omega) (fC.trans (fD.mono rfl rfl rfl)) cD gD (hb' _ d)
        · refine q317_26 ⟨fun _ => ?_, fun q => absurd rfl q⟩
          exact k D b' (fC.trans (fD.mono rfl rfl rfl)) (hb' _ d)
      refine q317_26 ⟨fun q => absurd q (by decide), fun _ => ?_⟩
      refine sp283 MC (by rw [e80, e82]; exact cC) (by rw [e80]; exact gC) ?_ ?_
      · rw [e80, e82]
        intro ok
        refine ⟨fun q => absurd q (by decide), fun _ => ?_⟩
        refine sp316 MC (fun v T => ?_)
        rw [e80, e82] at T
        have tb := T.b
        have bb := hh.b
        refine go _ _ (fun c' d => ?_)
        by_cases q : v = -2
        · rw [if_pos q]
          refine hh.keep c2.2 c4 gC.va rfl d (fun _ v' hv' => ?_)
          have := T.u hv'
          exact Or.inl (by omega)
        · rw [if_neg q]
          by_cases q2 : b = -2
          · rw [if_pos q2]
            exact hh.new c2.2 c4 gC.va rfl d ok T (by omega) (Or.inl q2)
          · rw [if_neg q2]
            by_cases q3 : b ≤ v
            · rw [if_pos q3]
              refine hh.keep c2.2 c4 gC.va rfl d (fun _ v' hv' => ?_)
              have := T.u hv'
              exact Or.inr ⟨q2, by omega⟩
            · rw [if_neg q3]
              exact hh.new c2.2 c4 gC.va rfl d ok T (by omega) (Or.inr (by omega))
      · rw [e80, e82]
        intro nok
        exact ⟨fun _ => go b _ (fun c' d => hh.keep c2.2 c4 gC.va rfl d (fun ok => absurd ok nok)), fun q => absurd rfl q⟩
  refine loop 4096 B (-2) j ?_ (fB.mono rfl rfl rfl) cB gB (te_sh.z (fun u hu _ => fst u hu))
  have := te_cdb (s := A.1 82) c2.2 (fun _ p => p) (gB.va (s := A.1 82))
  omega
theorem c187 (h : tb_Rel A) : tb_Ci X 187 [tb_r 0] A (tb_A2 X 317 [tb_r 77]) := by
  refine q187 ?_
  rcases h.t01 with t | t
  · rw [if_neg (fun q => q (h.told.trans t))]
    refine r6n (by decide) ?_
    refine q317 ?_
    rw [e201g]
    exact ⟨fun q => absurd (tb_g14.trans t) q, fun _ => tb_no h (by decide)⟩
  · have t0 : A.1 77 14 ≠ 0 := by rw [t]; decide
    have L := tb_Lu (k := 0) (h.L t0)
    rw [if_pos (by rw [h.told]; exact t0)]
    refine r6z ?_
    refine sp188 L (fun B n fB hB => ?_)
    have e80 : B.1 80 = (tb_upI A 0 13 0).1 80 := funext fun q => fB.1 80 q rfl rfl
    have e82 : B.1 82 = (tb_upI A 0 13 0).1 82 := funext fun q => fB.1 82 q rfl rfl
    have fA : tb_fr tb_S0 tb_F0 [] A B := (tb_fr.upI tb_fr.refl rfl).trans (fB.mono rfl rfl rfl)
    have M1 : tc_M (te_gg B) := L.M.c (by rw [td_upo (by decide), td_upo (by decide)]; exact e80) (by rw [td_upo (by decide), td_upo (by decide)]; exact e82)
    refine q317 ?_
    rw [e201]
    refine ⟨fun _ => ?_, fun q => absurd ((fA.1 77 14 rfl rfl).symm.trans q) t0⟩
    refine sp281 M1 (fun B2 f2 c2 g2 fst => ?_)
    refine l317 M1 (f2.mono rfl rfl rfl) c2 g2 fst (fun C n' fC hC => ?_)
    rw [td_upo (by decide), td_upo (by decide), td_upo (by decide), td_upo (by decide), e80, e82] at hC
    refine ⟨hB.u hC, te_fin h ((tb_fr.upI (tb_fr.upI fA rfl) rfl).trans (fC.mono rfl rfl rfl)) ?_ ?_⟩
    · rw [fC.1 0 13 rfl rfl, fC.1 77 11 rfl rfl, tb_uI_s, td_upo (by decide), td_upo (by decide), fB.1 0 13 rfl rfl, tb_uI_s]
    · rw [fC.1 77 11 rfl rfl, tb_uI_s]
      decide
end TESHEL
