/-! MOVES 7: the reference's best and helm; trim, trimAt, helm -/
section TEMOV7
variable {X : tb_X} {A B C : tb_H} {K : Int → tb_H → Prop} {Kv : tb_H → Prop}
theorem te_rows (f : tb_fr [90, 91] [] [] A C) : C.1 80 = A.1 80 ∧ C.1 82 = A.1 82 := ⟨funext fun z => f.1 80 z rfl rfl, funext fun z => f.1 82 z rfl rfl⟩
theorem sp280 (M : tc_M A) {a b : Int} (k : ∀ B n o z, tb_fr [90, 91] [] [] A B → (n ≠ -2 → ∀ f, 0 ≤ f → f < A.1 80 114 → A.1 82 (27 + f) = 0 → B.1 91 f = z f) → te_bst (A.1 80) (A.1 82) a b 4096 n o z → K n B) : tb_Ci X 280 [tb_r 77, tb_i a, tb_i b] A K := by
  have c2 := M.c112
  have c4 := M.c114
  refine q280 (sp281 M (fun B fB cB gB fst => ?_))
  have loop : ∀ (m : Nat) (C : tb_H) (n o : Int) (z : Int → Int) (j6 j7 j8 j9 j10 : tb_V), 4096 ≤ te_cd (A.1 80) (A.1 82) (C.1 90) + m → tb_fr [90, 91] [] [] A C → te_cn (A.1 80) (A.1 82) (C.1 90) → te_rg (A.1 80) (C.1 90) → (n ≠ -2 → ∀ f, 0 ≤ f → f < A.1 80 114 → A.1 82 (27 + f) = 0 → C.1 91 f = z f) → te_bst (A.1 80) (A.1 82) a b (te_cd (A.1 80) (A.1 82) (C.1 90)) n o z → tb_E X 280 13 [tb_r 77, tb_i a, tb_i b, tb_i n, tb_i o, tb_i 1, j6, j7, j8, j9, j10] [] C (tb_Ri 280 K) := by
    intro m
    induction m with
    | zero =>
      intro C n o z j6 j7 j8 j9 j10 hm fC cC gC
      have := te_cdb (s := A.1 82) c2.2 (fun _ p => p) (gC.va (s := A.1 82))
      omega
    | succ m ih =>
      intro C n o z j6 j7 j8 j9 j10 hm fC cC gC hz hb
      have e80 := (te_rows fC).1
      have e82 := (te_rows fC).2
      have MC : tc_M C := M.c e80 e82
      have lb1 := M.leanB gC (o := 9) (m := 0) (Or.inl ⟨rfl, rfl⟩)
      have lb2 := M.leanB gC (o := 17) (m := 1) (Or.inr ⟨rfl, rfl⟩)
      have ab1 := te_abb lb1
      have ab2 := te_abb lb2
      have l0 : ∀ K : Int → tb_H → Prop, tb_Ci X 247 [tb_r 77, tb_i 0, tb_r 90, tb_i 0] C K = K (tb_lean (A.1 80) (A.1 82) (C.1 90) 9 (A.1 80 0)) C := by
        intro K
        have t := te247_0 (X := X) (K := K) MC (by rw [e80]; exact gC)
        rw [e80, e82] at t
        exact t
      have l1 : ∀ K : Int → tb_H → Prop, tb_Ci X 247 [tb_r 77, tb_i 1, tb_r 90, tb_i 0] C K = K (tb_lean (A.1 80) (A.1 82) (C.1 90) 17 (A.1 80 1)) C := by
        intro K
        have t := te247_1 (X := X) (K := K) MC (by rw [e80]; exact gC)
        rw [e80, e82] at t
        exact t
      have l2 : ∀ K : Int → tb_H → Prop, tb_Ci X 282 [tb_r 77] C K = K (te_mv (A.1 80) (A.1 82) (C.1 90)) C := by
        intro K
        have t := e282 (X := X) (K := K) MC (by rw [e80, e82]; exact cC)
        rw [e80, e82] at t
        exact t
      have l3 : ∀ K : Int → tb_H → Prop, (te_OK (A.1 80) (A.1 82) (C.1 90) → K 1 C) → (¬ te_OK (A.1 80) (A.1 82) (C.1 90) → K 0 C) → tb_Ci X 283 [tb_r 77] C K := by
        intro K k1 k0
        refine sp283 MC (by rw [e80, e82]; exact cC) (by rw [e80]; exact gC) ?_ ?_
        · rw [e80, e82]; exact k1
        · rw [e80, e82]; exact k0
      have go : ∀ (C' : tb_H) (n' o' : Int) (z' : Int → Int) (j6 j7 j8 j9 j10 : tb_V), tb_fr [91] [] [] C C' → (n' ≠ -2 → ∀ f, 0 ≤ f → f < A.1 80 114 → A.1 82 (27 + f) = 0 → C'.1 91 f = z' f) → (∀ c', te_D (A.1 80) (A.1 82) (C.1 90) c' → te_bst (A.1 80) (A.1 82) a b c' n' o' z') → tb_Ci X 285 [tb_r 77] C' (fun v A' => tb_E X 280 13 [tb_r 77, tb_i a, tb_i b, tb_i n', tb_i o', tb_i v, j6, j7, j8, j9, j10] [] A' (tb_Ri 280 K)) := by
        intro C' n' o' z' j6 j7 j8 j9 j10 fC' hz' hb'
        have f90 : C'.1 90 = C.1 90 := funext fun q => fC'.1 90 q rfl rfl
        have g80 : C'.1 80 = A.1 80 := (funext fun q => fC'.1 80 q rfl rfl : C'.1 80 = C.1 80).trans e80
        have g82 : C'.1 82 = A.1 82 := (funext fun q => fC'.1 82 q rfl rfl : C'.1 82 = C.1 82).trans e82
        refine te_stepR M g80 g82 (by rw [f90]; exact cC) (by rw [f90]; exact gC) (fun D fD cD gD d => ?_) (fun D fD d => ?_)
        · rw [f90] at d
          have := d.1
          refine ih D n' o' z' j6 j7 j8 j9 j10 (by omega) ((fC.trans (fC'.mono rfl rfl rfl)).trans (fD.mono rfl rfl rfl)) cD gD (fun q f f0 f1 t => ?_) (hb' _ d)
          rw [fD.1 91 f rfl rfl]
          exact hz' q f f0 f1 t
        · rw [f90] at d
          refine q280_13 ⟨fun _ => ?_, fun q => absurd rfl q⟩
          refine k D n' o' z' ((fC.trans (fC'.mono rfl rfl rfl)).trans (fD.mono rfl rfl rfl)) (fun q f f0 f1 t => ?_) (hb' _ d)
          rw [fD.1 91 f rfl rfl]
          exact hz' q f f0 f1 t
      have cp : ∀ i6 i7 i8 i9 : Int, te_fe (A.1 80) (A.1 82) a b (C.1 90) → (n = -2 ∨ te_mv (A.1 80) (A.1 82) (C.1 90) < n ∨ (te_mv (A.1 80) (A.1 82) (C.1 90) = n ∧ te_off (A.1 80) (A.1 82) (C.1 90) < o)) → tb_E X 280 126 [tb_r 77, tb_i a, tb_i b, tb_i (te_mv (A.1 80) (A.1 82) (C.1 90)), tb_i (te_off (A.1 80) (A.1 82) (C.1 90)), tb_i 1, tb_i i6, tb_i i7, tb_i i8, tb_i i9, tb_i 0] [] C (tb_Ri 280 K) := by
        intro i6 i7 i8 i9 fe bt
        have key := tb_lp (n := A.1 80 114) (E := fun i => ∀ C' : tb_H, tb_fr [91] [] [] C C' → (∀ f, 0 ≤ f → f < i → C'.1 91 f = C.1 90 f) → tb_E X 280 126 [tb_r 77, tb_i a, tb_i b, tb_i (te_mv (A.1 80) (A.1 82) (C.1 90)), tb_i (te_off (A.1 80) (A.1 82) (C.1 90)), tb_i 1, tb_i i6, tb_i i7, tb_i i8, tb_i i9, tb_i i] [] C' (tb_Ri 280 K)) c4.1 ?_ ?_
        · exact key C tb_fr.refl (fun f f0 f1 => absurd f1 (by omega))
        · intro C' fC' h
          have g80 : C'.1 80 = A.1 80 := (funext fun q => fC'.1 80 q rfl rfl : C'.1 80 = C.1 80).trans e80
          refine q280_126 ⟨fun _ => ?_, fun q => absurd q (by rw [g80]; omega)⟩
          exact go C' _ _ (C.1 90) _ _ _ _ _ fC' (fun _ f f0 f1 _ => h f f0 f1) (fun c' d => hb.new c2.2 c4 rfl d fe bt)
        · intro i i0 i1 ih' C' fC' h
          have g80 : C'.1 80 = A.1 80 := (funext fun q => fC'.1 80 q rfl rfl : C'.1 80 = C.1 80).trans e80
          refine q280_126 ⟨fun q => absurd q (by rw [g80]; omega), fun _ => ⟨⟨i0, by omega⟩, ⟨i0, by omega⟩, ?_⟩⟩
          rw [tb_w_id (x := i + 1) (by omega) (by omega)]
          refine ih' _ (tb_fr.upI fC' rfl) (fun f f0 f1 => ?_)
          by_cases e : f = i
          · rw [e, tb_uI_s]
            exact fC'.1 90 i rfl rfl
          · rw [tb_uI_k e]; exact h f f0 (by omega)
      have no : ∀ j6 j7 j8 j9 j10 : tb_V, (te_fe (A.1 80) (A.1 82) a b (C.1 90) → n ≠ -2 ∧ (n < te_mv (A.1 80) (A.1 82) (C.1 90) ∨ (n = te_mv (A.1 80) (A.1 82) (C.1 90) ∧ o ≤ te_off (A.1 80) (A.1 82) (C.1 90)))) → tb_Ci X 285 [tb_r 77] C (fun v A' => tb_E X 280 13 [tb_r 77, tb_i a, tb_i b, tb_i n, tb_i o, tb_i v, j6, j7, j8, j9, j10] [] A' (tb_Ri 280 K)) := by
        intro j6 j7 j8 j9 j10 nb
        exact go C n o z _ _ _ _ _ tb_fr.refl hz (fun c' d => hb.keep c2.2 c4 gC.va rfl d nb)
      refine q280_13 ⟨fun q => absurd q (by decide), fun _ => ?_⟩
      rw [l0, e239 (by omega) (by omega), l1, e239 (by omega) (by omega), l2, tb_w_id (x := tc_ab (tb_lean (A.1 80) (A.1 82) (C.1 90) 9 (A.1 80 0)) + tc_ab (tb_lean (A.1 80) (A.1 82) (C.1 90) 17 (A.1 80 1))) (by omega) (by omega)]
      have n0 := hb.nn c4.1
      have m0 := te_mv0 (s := A.1 82) (w := C.1 90) c4.1
      have z1 : (if (1 : Int) = 0 then (0 : Int) else 1) = 1 := by decide
      have z0 : (if (0 : Int) = 0 then (0 : Int) else 1) = 0 := by decide
      refine ⟨fun q => no _ _ _ _ _ (fun fe => absurd fe.2.1 (by omega)), fun q1 => ⟨fun q => no _ _ _ _ _ (fun fe => absurd fe.2.2.1 (by omega)), fun q2 => ?_⟩⟩
      have fe : te_OK (A.1 80) (A.1 82) (C.1 90) → te_fe (A.1 80) (A.1 82) a b (C.1 90) := fun ok => ⟨gC.va, q1, q2, ok⟩
      have nf : ¬ te_OK (A.1 80) (A.1 82) (C.1 90) → ¬ te_fe (A.1 80) (A.1 82) a b (C.1 90) := fun nok f => nok f.2.2.2
      refine ⟨fun q3 => l3 _ (fun ok => ⟨fun q => absurd q (by decide), fun _ => cp _ _ _ _ (fe ok) (Or.inl q3)⟩) (fun nok => ⟨fun _ => no _ _ _ _ _ (fun f => absurd f (nf nok)), fun q => absurd z0 q⟩), fun q3 => ⟨fun q4 => l3 _ (fun ok => ⟨fun q => absurd q (by decide), fun _ => cp _ _ _ _ (fe ok) (Or.inr (Or.inl q4))⟩) (fun nok => ⟨fun _ => no _ _ _ _ _ (fun f => absurd f (nf nok)), fun q => absurd z0 q⟩), fun q4 => ⟨fun q5 => no _ _ _ _ _ (fun _ => ⟨q3, Or.inl (by omega)⟩), fun q5 => ⟨fun q6 => no _ _ _ _ _ (fun _ => ⟨q3, Or.inr ⟨q5.symm, q6⟩⟩), fun q6 => l3 _ (fun ok => ⟨fun q => absurd q (by decide), fun _ => cp _ _ _ _ (fe ok) (Or.inr (Or.inr ⟨q5, q6⟩))⟩) (fun nok => ⟨fun _ => no _ _ _ _ _ (fun f => absurd f (nf nok)), fun q => absurd z0 q⟩)⟩⟩⟩⟩
  refine loop 4096 B (-2) 0 (B.1 90) _ _ _ _ _ ?_ (fB.mono rfl rfl rfl) cB gB (fun q => absurd rfl q) (te_bst.z 0 (fun u hu _ => fst u hu))
  have := te_cdb (s := A.1 82) c2.2 (fun _ p => p) (gB.va (s := A.1 82))
  omega
theorem te_sdr {r s w : Int → Int} (b : 1 ≤ r 2 ∧ r 2 ≤ 99) : (if tb_w (-(r 2)) < tb_lean r s w 9 (r 0) then (if tb_lean r s w 9 (r 0) < r 2 then 2 else 4) else 1 : Int) = te_sd r s w := by
  unfold te_sd
  rw [tb_w_id (x := -(r 2)) (by omega) (by omega)]
  ((repeat' split) <;> omega)
theorem sp288 (M : tc_M A) (k : ∀ B h, tb_fr [90, 91] [] [] A B → te_hs (A.1 80) (A.1 82) 4096 h → K h B) : tb_Ci X 288 [tb_r 77] A K := by
  have c2 := M.c112
  have c4 := M.c114
  refine q288 (sp281 M (fun B fB cB gB fst => ?_))
  have loop : ∀ (m : Nat) (C : tb_H) (h : Int) (j : tb_V), 4096 ≤ te_cd (A.1 80) (A.1 82) (C.1 90) + m → tb_fr [90, 91] [] [] A C → te_cn (A.1 80) (A.1 82) (C.1 90) → te_rg (A.1 80) (C.1 90) → te_hs (A.1 80) (A.1 82) (te_cd (A.1 80) (A.1 82) (C.1 90)) h → tb_E X 288 8 [tb_r 77, tb_i h, tb_i 1, j] [] C (tb_Ri 288 K) := by
    intro m
    induction m with
    | zero =>
      intro C h j hm fC cC gC
      have := te_cdb (s := A.1 82) c2.2 (fun _ p => p) (gC.va (s := A.1 82))
      omega
    | succ m ih =>
      intro C h j hm fC cC gC hh
      have e80 := (te_rows fC).1
      have e82 := (te_rows fC).2
      have MC : tc_M C := M.c e80 e82
      have l0 : ∀ K : Int → tb_H → Prop, tb_Ci X 247 [tb_r 77, tb_i 0, tb_r 90, tb_i 0] C K = K (tb_lean (A.1 80) (A.1 82) (C.1 90) 9 (A.1 80 0)) C := by
        intro K
        have t := te247_0 (X := X) (K := K) MC (by rw [e80]; exact gC)
        rw [e80, e82] at t
        exact t
      have go : ∀ (h' : Int) (j : tb_V), (∀ c', te_D (A.1 80) (A.1 82) (C.1 90) c' → te_hs (A.1 80) (A.1 82) c' h') → tb_Ci X 285 [tb_r 77] C (fun v A' => tb_E X 288 8 [tb_r 77, tb_i h', tb_i v, j] [] A' (tb_Ri 288 K)) := by
        intro h' j hb'
        refine te_stepR M e80 e82 cC gC (fun D fD cD gD d => ?_) (fun D fD d => ?_)
        · have := d.1
          exact ih D h' j (by omega) (fC.trans (fD.mono rfl rfl rfl)) cD gD (hb' _ d)
        · refine q288_8 ⟨fun _ => ?_, fun q => absurd rfl q⟩
          exact k D h' (fC.trans (fD.mono rfl rfl rfl)) (hb' _ d)
      refine q288_8 ⟨fun q => absurd q (by decide), fun _ => ?_⟩
      rw [l0]
      refine sp283 MC (by rw [e80, e82]; exact cC) (by rw [e80]; exact gC) ?_ ?_
      · rw [e80, e82, te_sdr M.v2]
        intro ok
        exact ⟨fun q => absurd q (by decide), fun _ => go _ _ (fun c' d => hh.new c2.2 c4 gC.va rfl d ok)⟩
      · rw [e80, e82]
        intro nok
        exact ⟨fun _ => go _ _ (fun c' d => hh.keep c2.2 c4 gC.va rfl d (fun ok => absurd ok nok)), fun q => absurd rfl q⟩
  refine loop 4096 B 0 _ ?_ (fB.mono rfl rfl rfl) cB gB (te_hs.z (fun u hu _ => fst u hu))
  have := te_cdb (s := A.1 82) c2.2 (fun _ p => p) (gB.va (s := A.1 82))
  omega
/-- what a question leaves -/
theorem te_RP {S : List Nat} {F : List (Nat × Int)} (h : tb_RP A) (f : tb_fr S F [] A C) : tb_RP C := by
  unfold tb_RP at h ⊢
  rw [f.2.2 38 0 rfl, f.2.2 38 1 rfl, f.2.2 42 4 rfl, f.2.2 42 5 rfl]
  exact h
theorem te_fin (h : tb_Rel A) (f : tb_fr tb_S0 tb_F0 [] A C) (e : C.1 0 13 = C.1 77 11) (n4 : C.1 77 11 ≠ 4) : tb_Rel C := h.qy (f.mono rfl rfl rfl) e n4 (te_RP h.P f)
abbrev te_gg (B : tb_H) : tb_H := tb_upI (tb_upI B 77 0 0) 77 11 0
theorem e128t {a b : Int} (h : (0 ≤ a ∧ a ≤ 9999) ∧ 0 ≤ b ∧ b ≤ 9999) : tb_Ci X 128 [tb_i a, tb_i b] A K = K 0 A := by
  refine tb_dei (q128 ?_)
  rw [e5f h.1, e5f h.2]
  exact ⟨fun q => absurd rfl q, fun _ => ⟨rfl, rfl⟩⟩
theorem e128f {a b : Int} (h : ¬ ((0 ≤ a ∧ a ≤ 9999) ∧ 0 ≤ b ∧ b ≤ 9999)) : tb_Ci X 128 [tb_i a, tb_i b] A K = K 1 A := by
  refine tb_dei (q128 ?_)
  by_cases c : 0 ≤ a ∧ a ≤ 9999
  · rw [e5f c, e5t (fun q => h ⟨c, q⟩)]
    exact ⟨fun q => absurd rfl q, fun _ => ⟨rfl, rfl⟩⟩
  · rw [e5t c]
    exact ⟨fun _ => ⟨rfl, rfl⟩, fun q => absurd q (by decide)⟩
theorem e279t {a b : Int} (h : (0 ≤ a ∧ a ≤ 9999) ∧ 0 ≤ b ∧ b ≤ 9999) : tb_Ci X 279 [tb_i a, tb_i b] A K = K 1 A := by
  refine tb_dei (q279 ?_)
  rw [e202t h.1, e202t h.2]
  exact ⟨fun q => absurd q (by decide), fun _ => ⟨rfl, rfl⟩⟩
theorem e279f {a b : Int} (h : ¬ ((0 ≤ a ∧ a ≤ 9999) ∧ 0 ≤ b ∧ b ≤ 9999)) : tb_Ci X 279 [tb_i a, tb_i b] A K = K 0 A := by
  refine tb_dei (q279 ?_)
  by_cases c : 0 ≤ a ∧ a ≤ 9999
  · rw [e202t c, e202f (fun q => h ⟨c, q⟩)]
    exact ⟨fun q => absurd q (by decide), fun _ => ⟨rfl, rfl⟩⟩
  · rw [e202f c]
    exact ⟨fun _ => ⟨rfl, rfl⟩, fun q => absurd rfl q⟩
theorem c127 (h : tb_Rel A) {a b : Int} : tb_Ci X 127 [tb_r 0, tb_i a, tb_i b] A (tb_A2 X 278 [tb_r 77, tb_i a, tb_i b]) := by
  rcases h.t01 with t | t
  · refine q127 ⟨fun q => absurd (h.told.trans t) q, fun _ => r6n (by decide) ?_⟩
    refine q278 ?_
    rw [e201g]
    exact ⟨fun q => absurd (tb_g14.trans t) q, fun _ => tb_no h (by decide)⟩
  · have t0 : A.1 77 14 ≠ 0 := by rw [t]; decide
    have L := tb_Lu (k := 0) (h.L t0)
    refine q127 ⟨fun _ => ?_, fun q => absurd (h.told.symm.trans q) t0⟩
    by_cases hb : (0 ≤ a ∧ a ≤ 9999) ∧ 0 ≤ b ∧ b ≤ 9999
    · rw [e128t hb, if_pos rfl]
      refine r6z ?_
      refine sp129 L (fun B n o z fB hz bB => ?_)
      have e80 : B.1 80 = (tb_upI A 0 13 0).1 80 := funext fun q => fB.1 80 q rfl rfl
      have e82 : B.1 82 = (tb_upI A 0 13 0).1 82 := funext fun q => fB.1 82 q rfl rfl
      have fA : tb_fr tb_S0 tb_F0 [] A B := (tb_fr.upI tb_fr.refl rfl).trans (fB.mono rfl rfl rfl)
      have M1 : tc_M (te_gg B) := L.M.c (by rw [td_upo (by decide), td_upo (by decide)]; exact e80) (by rw [td_upo (by decide), td_upo (by decide)]; exact e82)
      refine q278 ?_
      rw [e201]
      refine ⟨fun _ => ?_, fun q => absurd ((fA.1 77 14 rfl rfl).symm.trans q) t0⟩
      rw [e279t hb]
      refine ⟨fun q => absurd q (by decide), fun _ => ?_⟩
      refine sp280 M1 (fun C n' o' z' fC hz' bC => ?_)
      have b2 : te_bst ((tb_upI A 0 13 0).1 80) ((tb_upI A 0 13 0).1 82) a b 4096 n' o' z' := by
        rw [← e80, ← e82]
        rw [td_upo (by decide), td_upo (by decide), td_upo (by decide), td_upo (by decide)] at bC
        exact bC
      refine ⟨(bB.u b2 L.M.c112.2 L.M.c114).1, te_fin h ((tb_fr.upI (tb_fr.upI fA rfl) rfl).trans (fC.mono rfl rfl rfl)) ?_ ?_⟩
      · rw [fC.1 0 13 rfl rfl, fC.1 77 11 rfl rfl, tb_uI_s, td_upo (by decide), td_upo (by decide), fB.1 0 13 rfl rfl, tb_uI_s]
      · rw [fC.1 77 11 rfl rfl, tb_uI_s]
        decide
    · rw [e128f hb, if_neg (by decide)]
      refine r6n (by decide) ?_
      refine q278 ?_
      rw [e201g]
      refine ⟨fun _ => ?_, fun q => absurd (tb_g14.symm.trans q) t0⟩
      rw [e279f hb]
      exact ⟨fun _ => tb_no h (by decide), fun q => absurd rfl q⟩
theorem c139 (h : tb_Rel A) : tb_Ci X 139 [tb_r 0] A (tb_A2 X 287 [tb_r 77]) := by
  refine q139 ?_
  rcases h.t01 with t | t
  · rw [if_neg (fun q => q (h.told.trans t))]
    refine r6n (by decide) ?_
    refine q287 ?_
    rw [e201g]
    exact ⟨fun _ => tb_no h (by decide), fun q => absurd (tb_g14.trans t) q⟩
  · have t0 : A.1 77 14 ≠ 0 := by rw [t]; decide
    have L := tb_Lu (k := 0) (h.L t0)
    rw [if_pos (by rw [h.told]; exact t0)]
    refine r6z ?_
    refine sp140 L (fun B n fB hB => ?_)
    have e80 : B.1 80 = (tb_upI A 0 13 0).1 80 := funext fun q => fB.1 80 q rfl rfl
    have e82 : B.1 82 = (tb_upI A 0 13 0).1 82 := funext fun q => fB.1 82 q rfl rfl
    have fA : tb_fr tb_S0 tb_F0 [] A B := (tb_fr.upI tb_fr.refl rfl).trans (fB.mono rfl rfl rfl)
    have M1 : tc_M (te_gg B) := L.M.c (by rw [td_upo (by decide), td_upo (by decide)]; exact e80) (by rw [td_upo (by decide), td_upo (by decide)]; exact e82)
    refine q287 ?_
    rw [e201]
    refine ⟨fun q => absurd ((fA.1 77 14 rfl rfl).symm.trans q) t0, fun _ => ?_⟩
    refine sp288 M1 (fun C n' fC hC => ?_)
    rw [td_upo (by decide), td_upo (by decide), td_upo (by decide), td_upo (by decide), e80, e82] at hC
    refine ⟨hB.u hC, te_fin h ((tb_fr.upI (tb_fr.upI fA rfl) rfl).trans (fC.mono rfl rfl rfl)) ?_ ?_⟩
    · rw [fC.1 0 13 rfl rfl, fC.1 77 11 rfl rfl, tb_uI_s, td_upo (by decide), td_upo (by decide), fB.1 0 13 rfl rfl, tb_uI_s]
    · rw [fC.1 77 11 rfl rfl, tb_uI_s]
      decide
end TEMOV7
