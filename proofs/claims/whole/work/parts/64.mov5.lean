/-! MOVES 5: the class's walks -/
section TEMOV5
variable {X : tb_X} {A B C : tb_H} {K : Int → tb_H → Prop} {Kv : tb_H → Prop}
def te_S5 : List Nat := [22, 23, 24, 25, 26, 27, 28, 29, 30, 31]
theorem te_cpy_o {o q p : Nat} {sp dp n : Int} (h : p ≠ q) : (tb_cpy A o sp q dp n).1 p = A.1 p := funext fun k => if_neg (fun e => h e.1)
theorem te_cpy_s {o q : Nat} {n k : Int} (h0 : 0 ≤ k) (h1 : k < n) : (tb_cpy A o 0 q 0 n).1 q k = A.1 o k := by
  show (if q = q ∧ 0 ≤ k ∧ k < 0 + n then A.1 o (k - 0 + 0) else A.1 q k) = _
  rw [if_pos ⟨rfl, h0, by omega⟩, show k - 0 + 0 = k by omega]
theorem te_MV.fr {r s w : Int → Int} {i : Int} {S : List Nat} {F : List (Nat × Int)} {P : List Nat} (h : te_MV r s w i B) (hf : tb_fr S F P B C) (c : tb_av S F P [22, 23, 24, 26, 27, 28, 29, 30, 31] [(21, 10), (21, 11), (21, 12)] [] = true) : te_MV r s w i C := by
  unfold te_MV te_MC at h ⊢
  rw [hf.o c (o := 22) rfl, hf.o c (o := 23) rfl, hf.o c (o := 24) rfl, hf.o c (o := 26) rfl, hf.o c (o := 27) rfl, hf.o c (o := 28) rfl, hf.o c (o := 29) rfl, hf.o c (o := 30) rfl, hf.o c (o := 31) rfl, hf.f c (o := 21) (k := 10) rfl, hf.f c (o := 21) (k := 11) rfl, hf.f c (o := 21) (k := 12) rfl]
  exact h
theorem te_abs {x : Int} (h : -2700 ≤ x ∧ x ≤ 2700) : (if 0 ≤ x then x else tb_w (0 - x)) = tc_ab x := by
  unfold tc_ab
  rw [tb_w_id (by omega) (by omega), Int.zero_sub]
theorem te_abb {x : Int} (h : -2700 ≤ x ∧ x ≤ 2700) : 0 ≤ tc_ab x ∧ tc_ab x ≤ 2700 := by
  unfold tc_ab
  ((repeat' split) <;> omega)
theorem tb_L.own (L : tb_L A) : ∀ f, 0 ≤ f → f < A.1 80 114 → A.1 82 (27 + f) = 0 → A.1 82 (35 + A.1 82 (31 + f)) = 0 := fun _ f0 f1 t => L.th f0 f1 t
/-- one walk of the class: from each way to the next -/
theorem te_step (L : tb_L A) {w : Int → Int} (hw : ∀ f, 0 ≤ f → f < A.1 80 114 → 0 ≤ w f ∧ w f < A.1 80 112) (pw : te_va (A.1 80) (A.1 82) (te_Pc (A.1 80) (A.1 82)) w) (V : te_MV (A.1 80) (A.1 82) w 4 B)
    (k1 : ∀ B' w', tb_fr [22, 26] [(21, 11), (21, 12)] [] B B' → te_MV (A.1 80) (A.1 82) w' 4 B' → (∀ f, 0 ≤ f → f < A.1 80 114 → 0 ≤ w' f ∧ w' f < A.1 80 112) → te_va (A.1 80) (A.1 82) (te_Pc (A.1 80) (A.1 82)) w' → te_D (A.1 80) (A.1 82) w (te_cd (A.1 80) (A.1 82) w') → K 1 B')
    (k0 : ∀ B', tb_fr [22, 26] [(21, 11), (21, 12)] [] B B' → te_D (A.1 80) (A.1 82) w 4096 → K 0 B') : tb_Ci X 135 [tb_r 21] B K := by
  have M := L.M
  have c2 := M.c112
  have c4 := M.c114
  exact sp135 M hw pw V (fun B' w' f f' V' h' ad => k1 B' w' f' V' h' (ad.va pw c4.2) (ad.D pw c2.2 c4.2 L.own)) (fun B' f' n => k0 B' f' (te_lastD n pw c2.2 c4.2 L.own))
theorem sp129 (L : tb_L A) {a b : Int} (k : ∀ B n o z, tb_fr te_S5 te_F [] A B → (n ≠ -2 → ∀ f, 0 ≤ f → f < A.1 80 114 → A.1 82 (27 + f) = 0 → B.1 25 f = z f) → te_bst (A.1 80) (A.1 82) a b 4096 n o z → K n B) : tb_Ci X 129 [tb_r 21, tb_r 4, tb_i a, tb_i b] A K := by
  have M := L.M
  have c2 := M.c112
  have c4 := M.c114
  refine q129 (sp130 L (fun B w fB VB hw hx => ?_))
  have fst := te_first hx (te_Pc_Pr (r := A.1 80) (s := A.1 82))
  have loop : ∀ (m : Nat) (C : tb_H) (w : Int → Int) (n o way : Int) (z : Int → Int) (j8 j9 : tb_V), 4096 ≤ te_cd (A.1 80) (A.1 82) w + m → tb_fr te_S5 te_F [] A C → te_MV (A.1 80) (A.1 82) w 4 C → (∀ f, 0 ≤ f → f < A.1 80 114 → 0 ≤ w f ∧ w f < A.1 80 112) → te_va (A.1 80) (A.1 82) (te_Pc (A.1 80) (A.1 82)) w → 0 ≤ way → way ≤ te_cd (A.1 80) (A.1 82) w → (n ≠ -2 → ∀ f, 0 ≤ f → f < A.1 80 114 → A.1 82 (27 + f) = 0 → C.1 25 f = z f) → te_bst (A.1 80) (A.1 82) a b (te_cd (A.1 80) (A.1 82) w) n o z → tb_E X 129 18 [tb_r 21, tb_r 4, tb_i a, tb_i b, tb_i n, tb_i o, tb_i 1, tb_i way, j8, j9] [] C (tb_Ri 129 K) := by
    intro m
    induction m with
    | zero =>
      intro C w n o way z j8 j9 hm fC VC hw pw
      have := te_cdb c2.2 te_Pc_Pr pw
      omega
    | succ m ih =>
      intro C w n o way z j8 j9 hm fC VC hw pw w0 w1 hz hb
      have cb := te_cdb c2.2 te_Pc_Pr pw
      have lb1 := M.leanB hw (o := 9) (m := 0) (Or.inl ⟨rfl, rfl⟩)
      have lb2 := M.leanB hw (o := 17) (m := 1) (Or.inr ⟨rfl, rfl⟩)
      have ab1 := te_abb lb1
      have ab2 := te_abb lb2
      have go : ∀ (C' : tb_H) (n' o' : Int) (z' : Int → Int) (j8 j9 : tb_V), tb_fr te_S5 te_F [] A C' → te_MV (A.1 80) (A.1 82) w 4 C' → (n' ≠ -2 → ∀ f, 0 ≤ f → f < A.1 80 114 → A.1 82 (27 + f) = 0 → C'.1 25 f = z' f) → (∀ c', te_D (A.1 80) (A.1 82) w c' → te_bst (A.1 80) (A.1 82) a b c' n' o' z') → tb_Ci X 135 [tb_r 21] C' (fun v A' => tb_E X 129 18 [tb_r 21, tb_r 4, tb_i a, tb_i b, tb_i n', tb_i o', tb_i v, tb_i (tb_w (way + 1)), j8, j9] [] A' (tb_Ri 129 K)) := by
        intro C' n' o' z' j8 j9 fC' VC' hz' hb'
        refine te_step L hw pw VC' (fun D w' fD VD hw' pw' d => ?_) (fun D fD d => ?_)
        · have := d.1
          rw [tb_w_id (by omega) (by omega)]
          refine ih D w' n' o' (way + 1) z' j8 j9 (by omega) (fC'.trans (fD.mono rfl rfl rfl)) VD hw' pw' (by omega) (by omega) (fun q f f0 f1 t => ?_) (hb' _ d)
          rw [fD.1 25 f rfl rfl]
          exact hz' q f f0 f1 t
        · refine q129_18 ⟨fun _ => ?_, fun _ => ⟨fun _ => ?_, fun q => absurd rfl q⟩⟩
          · refine k D n' o' z' (fC'.trans (fD.mono rfl rfl rfl)) (fun q f f0 f1 t => ?_) (hb' _ d)
            rw [fD.1 25 f rfl rfl]
            exact hz' q f f0 f1 t
          · refine k D n' o' z' (fC'.trans (fD.mono rfl rfl rfl)) (fun q f f0 f1 t => ?_) (hb' _ d)
            rw [fD.1 25 f rfl rfl]
            exact hz' q f f0 f1 t
      have cp : ∀ j8 j9 : tb_V, te_fe (A.1 80) (A.1 82) a b w → (n = -2 ∨ te_mv (A.1 80) (A.1 82) w < n ∨ (te_mv (A.1 80) (A.1 82) w = n ∧ te_off (A.1 80) (A.1 82) w < o)) → tb_Ci X 135 [tb_r 21] (tb_cpy C 22 0 25 0 4) (fun v A' => tb_E X 129 18 [tb_r 21, tb_r 4, tb_i a, tb_i b, tb_i (te_mv (A.1 80) (A.1 82) w), tb_i (te_off (A.1 80) (A.1 82) w), tb_i v, tb_i (tb_w (way + 1)), j8, j9] [] A' (tb_Ri 129 K)) := by
        intro j8 j9 fe bt
        refine go _ _ _ w j8 j9 (fC.cpy rfl) (VC.fr (tb_fr.cpy (S := [25]) (F := []) (P := []) tb_fr.refl rfl) rfl) (fun _ f f0 f1 t => ?_) (fun c' d => hb.new c2.2 c4 rfl d fe bt)
        rw [te_cpy_s f0 (by omega), (VC.1 f f0 (by omega)).1]
        exact if_pos ⟨f1, t⟩
      have no : ∀ j8 j9 : tb_V, (te_fe (A.1 80) (A.1 82) a b w → n ≠ -2 ∧ (n < te_mv (A.1 80) (A.1 82) w ∨ (n = te_mv (A.1 80) (A.1 82) w ∧ o ≤ te_off (A.1 80) (A.1 82) w))) → tb_Ci X 135 [tb_r 21] C (fun v A' => tb_E X 129 18 [tb_r 21, tb_r 4, tb_i a, tb_i b, tb_i n, tb_i o, tb_i v, tb_i (tb_w (way + 1)), j8, j9] [] A' (tb_Ri 129 K)) := by
        intro j8 j9 nb
        exact go C n o z j8 j9 fC VC hz (fun c' d => hb.keep c2.2 c4 pw.w rfl d nb)
      refine q129_18 ⟨fun q => absurd q (by omega), fun _ => ⟨fun q => absurd q (by decide), fun _ => ?_⟩⟩
      rw [VC.2.2.1, VC.2.2.2.1, te_abs lb1, te_abs lb2, tb_w_id (x := tc_ab (tb_lean (A.1 80) (A.1 82) w 9 (A.1 80 0)) + tc_ab (tb_lean (A.1 80) (A.1 82) w 17 (A.1 80 1))) (by omega) (by omega)]
      refine ⟨fun q => no _ _ (fun fe => absurd fe.2.1 (by omega)), fun q1 => ⟨fun q => no _ _ (fun fe => absurd fe.2.2.1 (by omega)), fun q2 => ?_⟩⟩
      refine sp133 M pw VC (fun ok => ?_) (fun nok => ⟨fun _ => no _ _ (fun fe => absurd fe.2.2.2 nok), fun q => absurd rfl q⟩)
      have fe : te_fe (A.1 80) (A.1 82) a b w := ⟨pw.w, q1, q2, ok⟩
      refine ⟨fun q => absurd q (by decide), fun _ => ?_⟩
      rw [e134 M VC]
      have n0 := hb.nn c4.1
      have m0 := te_mv0 (s := A.1 82) (w := w) c4.1
      have e4 : (0 : Int) ≤ (0 : Int) ∧ (0 : Int) ≤ (0 : Int) ∧ (0 : Int) ≤ (4 : Int) ∧ (0 : Int) + (4 : Int) ≤ 4 ∧ (0 : Int) + (4 : Int) ≤ 4 := by decide
      refine ⟨fun q => ⟨e4, cp _ _ fe (Or.inl (by omega))⟩, fun q3 => ⟨fun q => ⟨e4, cp _ _ fe (Or.inr (Or.inl q))⟩, fun q4 => ⟨fun q => no _ _ (fun _ => ⟨by omega, Or.inl (by omega)⟩), fun q5 => ⟨fun q => no _ _ (fun _ => ⟨by omega, Or.inr ⟨q5.symm, q⟩⟩), fun q => ⟨e4, cp _ _ fe (Or.inr (Or.inr ⟨q5, q⟩))⟩⟩⟩⟩⟩
  refine loop 4096 B w (-2) 0 0 w _ _ ?_ (fB.mono rfl rfl rfl) VB hw fst.1 (by decide) (te_cdb c2.2 te_Pc_Pr fst.1).1 (fun q => absurd rfl q) (te_bst.z 0 (fun u hu ok => fst.2 u (ok.c hu L.own)))
  have := te_cdb c2.2 te_Pc_Pr fst.1
  omega
theorem te_sdc {r s w : Int → Int} (b : 1 ≤ r 2 ∧ r 2 ≤ 99) : (if tb_w (-(r 2)) < tb_lean r s w 9 (r 0) then (if r 2 ≤ tb_lean r s w 9 (r 0) then 4 else 2) else 1 : Int) = te_sd r s w := by
  unfold te_sd
  rw [tb_w_id (x := -(r 2)) (by omega) (by omega)]
theorem sp140 (L : tb_L A) (k : ∀ B h, tb_fr te_S5 te_F [] A B → te_hs (A.1 80) (A.1 82) 4096 h → K h B) : tb_Ci X 140 [tb_r 21, tb_r 4] A K := by
  have M := L.M
  have c2 := M.c112
  have c4 := M.c114
  refine q140 ⟨L.b, ?_⟩
  rw [e76_2 L]
  refine sp130 L (fun B w fB VB hw hx => ?_)
  have fst := te_first hx (te_Pc_Pr (r := A.1 80) (s := A.1 82))
  have loop : ∀ (m : Nat) (C : tb_H) (w : Int → Int) (h way : Int) (j : tb_V), 4096 ≤ te_cd (A.1 80) (A.1 82) w + m → tb_fr te_S5 te_F [] A C → te_MV (A.1 80) (A.1 82) w 4 C → (∀ f, 0 ≤ f → f < A.1 80 114 → 0 ≤ w f ∧ w f < A.1 80 112) → te_va (A.1 80) (A.1 82) (te_Pc (A.1 80) (A.1 82)) w → 0 ≤ way → way ≤ te_cd (A.1 80) (A.1 82) w → te_hs (A.1 80) (A.1 82) (te_cd (A.1 80) (A.1 82) w) h → tb_E X 140 22 [tb_r 21, tb_r 4, tb_i (A.1 80 2), tb_i h, tb_i 1, tb_i way, j] [] C (tb_Ri 140 K) := by
    intro m
    induction m with
    | zero =>
      intro C w h way j hm fC VC hw pw
      have := te_cdb c2.2 te_Pc_Pr pw
      omega
    | succ m ih =>
      intro C w h way j hm fC VC hw pw w0 w1 hh
      have cb := te_cdb c2.2 te_Pc_Pr pw
      have go : ∀ (h' : Int) (j : tb_V), (∀ c', te_D (A.1 80) (A.1 82) w c' → te_hs (A.1 80) (A.1 82) c' h') → tb_Ci X 135 [tb_r 21] C (fun v A' => tb_E X 140 22 [tb_r 21, tb_r 4, tb_i (A.1 80 2), tb_i h', tb_i v, tb_i (tb_w (way + 1)), j] [] A' (tb_Ri 140 K)) := by
        intro h' j hb'
        refine te_step L hw pw VC (fun D w' fD VD hw' pw' d => ?_) (fun D fD d => ?_)
        · have := d.1
          rw [tb_w_id (by omega) (by omega)]
          exact ih D w' h' (way + 1) j (by omega) (fC.trans (fD.mono rfl rfl rfl)) VD hw' pw' (by omega) (by omega) (hb' _ d)
        · refine q140_22 ⟨fun _ => ?_, fun _ => ⟨fun _ => ?_, fun q => absurd rfl q⟩⟩
          · exact k D h' (fC.trans (fD.mono rfl rfl rfl)) (hb' _ d)
          · exact k D h' (fC.trans (fD.mono rfl rfl rfl)) (hb' _ d)
      refine q140_22 ⟨fun q => absurd q (by omega), fun _ => ⟨fun q => absurd q (by decide), fun _ => ⟨fun q => ?_, fun _ => ?_⟩⟩⟩
      · rw [q] at hh ⊢
        exact k C 7 fC (hh.full (by omega))
      · rw [VC.2.2.1, te_sdc M.v2]
        refine ⟨fun q => go h _ (fun c' d => hh.keep c2.2 c4 pw.w rfl d (fun _ => q)), fun q => ?_⟩
        refine sp133 M pw VC (fun ok => ⟨fun q => absurd q (by decide), fun _ => go _ _ (fun c' d => hh.new c2.2 c4 pw.w rfl d ok)⟩) (fun nok => ⟨fun _ => go h _ (fun c' d => hh.keep c2.2 c4 pw.w rfl d (fun ok => absurd ok nok)), fun q => absurd rfl q⟩)
  refine loop 4096 B w 0 0 _ ?_ (fB.mono rfl rfl rfl) VB hw fst.1 (by decide) (te_cdb c2.2 te_Pc_Pr fst.1).1 (te_hs.z (fun u hu ok => fst.2 u (ok.c hu L.own)))
  have := te_cdb c2.2 te_Pc_Pr fst.1
  omega
end TEMOV5
