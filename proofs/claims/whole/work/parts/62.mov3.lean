/-! MOVES 3: the class's first way -/
section TEMOV3
variable {X : tb_X} {A B C : tb_H} {K : Int → tb_H → Prop} {Kv : tb_H → Prop}
theorem te41 (L : tb_L A) {b : Nat} (hb : A.2.2 4 1 = b) {l : Int} (l0 : 0 ≤ l) : tb_Ci X 41 [tb_r b, tb_i 2, tb_i l, tb_i 2] A K = K (if l < A.1 80 112 then A.1 80 (25 + l) else 0) A := by
  subst hb
  by_cases c : l < A.1 80 112
  · rw [if_pos c]; exact e41_22 L l0 c
  · rw [if_neg c]; exact e41n L (by decide) (by decide) (by decide) (by decide) l0 (by show A.1 80 112 ≤ l; omega)
theorem te75_0 (L : tb_L A) {b : Nat} (hb : A.2.2 4 1 = b) {l : Int} (l0 : 0 ≤ l) : tb_Ci X 75 [tb_r b, tb_i l, tb_i 0] A K = K (if l < A.1 80 112 then A.1 80 (9 + l) - A.1 80 0 else 0 - A.1 80 0) A := by
  subst hb
  have z := L.v0
  by_cases c : l < A.1 80 112
  · rw [if_pos c]; exact e75_0 L l0 c
  · rw [if_neg c]
    refine tb_dei (q75 L.b ?_)
    rw [e41n L (by decide) (by decide) (by decide) (by decide) l0 (by show A.1 80 112 ≤ l; omega), show tb_w (0 + 0) = 0 from rfl, e76_0 L, tb_w_id (by omega) (by omega)]
    exact ⟨rfl, rfl⟩
theorem te75_1 (L : tb_L A) {b : Nat} (hb : A.2.2 4 1 = b) {l : Int} (l0 : 0 ≤ l) : tb_Ci X 75 [tb_r b, tb_i l, tb_i 1] A K = K (if l < A.1 80 112 then A.1 80 (17 + l) - A.1 80 1 else 0 - A.1 80 1) A := by
  subst hb
  have z := L.v1
  by_cases c : l < A.1 80 112
  · rw [if_pos c]; exact e75_1 L l0 c
  · rw [if_neg c]
    refine tb_dei (q75 L.b ?_)
    rw [e41n L (by decide) (by decide) (by decide) (by decide) l0 (by show A.1 80 112 ≤ l; omega), show tb_w (0 + 1) = 1 from rfl, e76_1 L, tb_w_id (by omega) (by omega)]
    exact ⟨rfl, rfl⟩
def te_S : List Nat := [22, 23, 24, 26, 27, 28, 29, 30, 31]
def te_F : List (Nat × Int) := [(21, 10), (21, 11), (21, 12)]
/-- rows of scutes behind p -/
def te_MR (r s : Int → Int) (p : Int) (B : tb_H) : Prop := ∀ k, p < k → 0 ≤ k → k < 8 → B.1 26 k = tb_load r s (fun f => s (31 + f)) k ∧ (k < r 112 → B.1 27 k = r (25 + k) ∧ B.1 28 k = r (9 + k) - r 0 ∧ B.1 29 k = r (17 + k) - r 1) ∧ B.1 30 k = td_hm r s k (r 113).toNat ∧ te_nv (te_Pc r s) k (B.1 31 (k + 1))
theorem te_no_pc {r s : Int → Int} {p v : Int} (c2 : 0 ≤ p) (h : te_nv (te_Pc r s) p v) (n : ¬ te_Pc r s p) : te_nv (te_Pc r s) (p - 1) v := by
  rcases h with h | h
  · refine Or.inl ⟨by have := h.1; omega, h.2.1, fun e e0 e1 => ?_⟩
    by_cases z : e = p
    · rw [z]; exact n
    · exact h.2.2 e (by omega) e1
  · refine Or.inr ⟨h.1, fun e e0 => ?_⟩
    by_cases z : e = p
    · rw [z]; exact n
    · exact h.2 e (by omega)
theorem te_b1 (L : tb_L A) {B0 : tb_H} (f0 : tb_fr te_S te_F [] A B0) (v11 : B0.1 21 11 = tb_lean (A.1 80) (A.1 82) (fun f => A.1 82 (31 + f)) 9 (A.1 80 0)) (v12 : B0.1 21 12 = tb_lean (A.1 80) (A.1 82) (fun f => A.1 82 (31 + f)) 17 (A.1 80 1)) {j : tb_V} {x3 : Int} (h3 : x3 = A.1 80 112)
    (k : ∀ B free j, tb_fr te_S te_F [] A B → B.1 21 11 = tb_lean (A.1 80) (A.1 82) (fun f => A.1 82 (31 + f)) 9 (A.1 80 0) → B.1 21 12 = tb_lean (A.1 80) (A.1 82) (fun f => A.1 82 (31 + f)) 17 (A.1 80 1) → te_MR (A.1 80) (A.1 82) (-1) B → te_nv (te_Pc (A.1 80) (A.1 82)) (-1) free → tb_E X 130 36 [tb_r 21, tb_r 4, tb_r (A.2.2 4 1), tb_i x3, tb_i free, tb_i (-1), j] [] B (tb_Rv 130 Kv)) :
    tb_E X 130 36 [tb_r 21, tb_r 4, tb_r (A.2.2 4 1), tb_i x3, tb_i (-1), tb_i 7, j] [] B0 (tb_Rv 130 Kv) := by
  have M := L.M
  have c2 := M.c112
  have key := tb_ld (n := 8) (E := fun p => ∀ (B : tb_H) (free : Int) (j : tb_V), tb_fr te_S te_F [] A B → B.1 21 11 = tb_lean (A.1 80) (A.1 82) (fun f => A.1 82 (31 + f)) 9 (A.1 80 0) → B.1 21 12 = tb_lean (A.1 80) (A.1 82) (fun f => A.1 82 (31 + f)) 17 (A.1 80 1) → te_MR (A.1 80) (A.1 82) p B → te_nv (te_Pc (A.1 80) (A.1 82)) p free → tb_E X 130 36 [tb_r 21, tb_r 4, tb_r (A.2.2 4 1), tb_i x3, tb_i free, tb_i p, j] [] B (tb_Rv 130 Kv)) (by decide) (fun B free j fB b1 b2 m n => k B free j fB b1 b2 m n) ?_
  · refine key B0 (-1) j f0 v11 v12 (fun z z0 _ z1 => absurd z1 (by omega)) (Or.inr ⟨rfl, fun e e0 p => ?_⟩)
    have := p.1
    omega
  · intro i i0 i1 ih B free j fB b1 b2 m n
    have LB : tb_L B := L.fr fB rfl
    have p4 : B.2.2 4 1 = A.2.2 4 1 := fB.2.2 4 1 rfl
    have e80 : B.1 80 = A.1 80 := funext fun z => fB.1 80 z rfl rfl
    have e82 : B.1 82 = A.1 82 := funext fun z => fB.1 82 z rfl rfl
    refine q130_36 L.b ⟨fun q => absurd q (by omega), fun _ => ?_⟩
    rw [e112 LB, e80, e82]
    refine ⟨⟨i0, i1⟩, ?_⟩
    rw [te41 (A := tb_upI B 26 i _) (LB.up rfl) p4 i0]
    refine ⟨⟨i0, i1⟩, ?_⟩
    rw [te75_0 (A := tb_upI (tb_upI B 26 i _) 27 i _) ((LB.up rfl).up rfl) p4 i0]
    refine ⟨⟨i0, i1⟩, ?_⟩
    rw [te75_1 (A := tb_upI (tb_upI (tb_upI B 26 i _) 27 i _) 28 i _) (((LB.up rfl).up rfl).up rfl) p4 i0]
    refine ⟨⟨i0, i1⟩, ?_⟩
    rw [e131 (A := tb_upI (tb_upI (tb_upI (tb_upI B 26 i _) 27 i _) 28 i _) 29 i _) ((((LB.up rfl).up rfl).up rfl).up rfl)]
    refine ⟨⟨i0, i1⟩, ⟨by rw [tb_w_id (by omega) (by omega)]; omega, by rw [tb_w_id (by omega) (by omega)]; omega⟩, ?_⟩
    rw [tb_w_id (x := i + 1) (by omega) (by omega), tb_w_id (x := i + -1) (by omega) (by omega), show i + -1 = i - 1 by omega]
    simp only [td_upo (show 80 ≠ 26 by decide), td_upo (show 80 ≠ 27 by decide), td_upo (show 80 ≠ 28 by decide), td_upo (show 80 ≠ 29 by decide), td_upo (show 82 ≠ 26 by decide), td_upo (show 82 ≠ 27 by decide), td_upo (show 82 ≠ 28 by decide), td_upo (show 82 ≠ 29 by decide), e80, e82]
    have nx : ∀ fr2, te_nv (te_Pc (A.1 80) (A.1 82)) (i - 1) fr2 → tb_E X 130 36 [tb_r 21, tb_r 4, tb_r (A.2.2 4 1), tb_i x3, tb_i fr2, tb_i (i - 1), j] [] (tb_upI (tb_upI (tb_upI (tb_upI (tb_upI (tb_upI B 26 i (tb_load (A.1 80) (A.1 82) (fun f => A.1 82 (31 + f)) i)) 27 i (if i < A.1 80 112 then A.1 80 (25 + i) else 0)) 28 i (if i < A.1 80 112 then A.1 80 (9 + i) - A.1 80 0 else 0 - A.1 80 0)) 29 i (if i < A.1 80 112 then A.1 80 (17 + i) - A.1 80 1 else 0 - A.1 80 1)) 30 i (td_hm (A.1 80) (A.1 82) i (A.1 80 113).toNat)) 31 (i + 1) free) (tb_Rv 130 Kv) := by
      intro fr2 n2
      refine ih _ fr2 j (tb_fr.upI (tb_fr.upI (tb_fr.upI (tb_fr.upI (tb_fr.upI (tb_fr.upI fB rfl) rfl) rfl) rfl) rfl) rfl) ?_ ?_ (fun z z0 z1 z2 => ?_) n2
      · rw [td_upo (by decide), td_upo (by decide), td_upo (by decide), td_upo (by decide), td_upo (by decide), td_upo (by decide)]; exact b1
      · rw [td_upo (by decide), td_upo (by decide), td_upo (by decide), td_upo (by decide), td_upo (by decide), td_upo (by decide)]; exact b2
      · by_cases e : z = i
        · subst e
          refine ⟨?_, fun l => ⟨?_, ?_, ?_⟩, ?_, ?_⟩
          · rw [td_upo (by decide), td_upo (by decide), td_upo (by decide), td_upo (by decide), td_upo (by decide), tb_uI_s]
          · rw [td_upo (by decide), td_upo (by decide), td_upo (by decide), td_upo (by decide), tb_uI_s, if_pos l]
          · rw [td_upo (by decide), td_upo (by decide), td_upo (by decide), tb_uI_s, if_pos l]
          · rw [td_upo (by decide), td_upo (by decide), tb_uI_s, if_pos l]
          · rw [td_upo (by decide), tb_uI_s]
          · rw [tb_uI_s]; exact n
        · have o := m z (by omega) z1 z2
          refine ⟨?_, fun l => ⟨?_, ?_, ?_⟩, ?_, ?_⟩
          · rw [td_upo (by decide), td_upo (by decide), td_upo (by decide), td_upo (by decide), td_upo (by decide), tb_uI_k e]; exact o.1
          · rw [td_upo (by decide), td_upo (by decide), td_upo (by decide), td_upo (by decide), tb_uI_k e, td_upo (by decide)]; exact (o.2.1 l).1
          · rw [td_upo (by decide), td_upo (by decide), td_upo (by decide), tb_uI_k e, td_upo (by decide), td_upo (by decide)]; exact (o.2.1 l).2.1
          · rw [td_upo (by decide), td_upo (by decide), tb_uI_k e, td_upo (by decide), td_upo (by decide), td_upo (by decide)]; exact (o.2.1 l).2.2
          · rw [td_upo (by decide), tb_uI_k e, td_upo (by decide), td_upo (by decide), td_upo (by decide), td_upo (by decide)]; exact o.2.2.1
          · rw [tb_uI_k (by omega), td_upo (by decide), td_upo (by decide), td_upo (by decide), td_upo (by decide), td_upo (by decide)]; exact o.2.2.2
    rw [h3]
    rw [h3] at nx
    refine ⟨fun q => nx free (te_no_pc i0 n (fun p => by have := p.1; omega)), fun q => ?_⟩
    rw [e96 (A := tb_upI (tb_upI (tb_upI (tb_upI (tb_upI (tb_upI B 26 i _) 27 i _) 28 i _) 29 i _) 30 i _) 31 (i + 1) free) ((((((LB.up rfl).up rfl).up rfl).up rfl).up rfl).up rfl) i0 i1]
    simp only [td_upo (show 82 ≠ 26 by decide), td_upo (show 82 ≠ 27 by decide), td_upo (show 82 ≠ 28 by decide), td_upo (show 82 ≠ 29 by decide), td_upo (show 82 ≠ 30 by decide), td_upo (show 82 ≠ 31 by decide), e82]
    refine ⟨fun g => nx free (te_no_pc i0 n (fun p => g p.2)), fun g => nx i (Or.inl ⟨by omega, ⟨⟨i0, q⟩, g⟩, fun e e0 e1 => absurd e1 (by omega)⟩)⟩
theorem sp130 (L : tb_L A) (k : ∀ B w, tb_fr te_S te_F [] A B → te_MV (A.1 80) (A.1 82) w 4 B → (∀ f, 0 ≤ f → f < A.1 80 114 → 0 ≤ w f ∧ w f < A.1 80 112) → (∀ f, 0 ≤ f → f < A.1 80 114 → A.1 82 (27 + f) = 0 → te_nx (te_Pc (A.1 80) (A.1 82)) (-1) (w f)) → Kv B) : tb_Cv X 130 [tb_r 21, tb_r 4] A Kv := by
  have M := L.M
  have c2 := M.c112
  have c4 := M.c114
  refine q130 ⟨L.b, ?_⟩
  rw [e28_2 L, e73_0 L, e73_1 (A := tb_upI A 21 11 _) (L.up rfl)]
  refine te_b1 L (tb_fr.upI (tb_fr.upI tb_fr.refl rfl) rfl) ?_ ?_ rfl (fun B free j fB v11 v12 mr nv => ?_)
  · rw [tb_uI_k (by decide), tb_uI_s]
  · rw [tb_uI_s, td_upo (by decide), td_upo (by decide)]
  · have LB : tb_L B := L.fr fB rfl
    have p4 : B.2.2 4 1 = A.2.2 4 1 := fB.2.2 4 1 rfl
    have e80 : B.1 80 = A.1 80 := funext fun z => fB.1 80 z rfl rfl
    refine q130_36 L.b ⟨fun _ => ?_, fun q => absurd q (by decide)⟩
    have e28 : ∀ K : Int → tb_H → Prop, tb_Ci X 28 [tb_r (A.2.2 4 1), tb_i 4] (tb_upI B 31 0 free) K = K (A.1 80 114) (tb_upI B 31 0 free) := by
      intro K
      rw [← p4]
      have := e28_4 (X := X) (K := K) (A := tb_upI B 31 0 free) (LB.up rfl)
      rw [td_upo (show 80 ≠ 31 by decide), e80] at this
      exact this
    rw [e28]
    have fB2 : tb_fr te_S te_F [] A (tb_upI (tb_upI B 31 0 free) 21 10 (A.1 80 114)) := tb_fr.upI (tb_fr.upI fB rfl) rfl
    have mc : te_MC (A.1 80) (A.1 82) (tb_upI (tb_upI B 31 0 free) 21 10 (A.1 80 114)) := by
      refine ⟨fun z z0 z1 => ?_, fun z z0 z1 => ?_, fun z z0 z1 => ?_, ?_⟩
      · rw [td_upo (by decide), td_upo (by decide), td_upo (by decide), td_upo (by decide), td_upo (by decide), td_upo (by decide)]
        exact (mr z (by omega) z0 (by omega)).2.1 z1
      · rw [td_upo (by decide), td_upo (by decide)]
        exact (mr z (by omega) z0 z1).2.2.1
      · rw [td_upo (by decide)]
        by_cases e : z = -1
        · subst e
          rw [show (-1 + 1 : Int) = 0 from rfl, tb_uI_s]
          exact nv
        · rw [tb_uI_k (by omega)]
          exact (mr z (by omega) (by omega) z1).2.2.2
      · rw [tb_uI_s]
    have v0 : te_MV (A.1 80) (A.1 82) (fun f => A.1 82 (31 + f)) 0 (tb_upI (tb_upI B 31 0 free) 21 10 (A.1 80 114)) := by
      refine ⟨fun f a b => absurd b (by omega), fun z z0 z1 => ?_, ?_, ?_, mc⟩
      · rw [td_upo (by decide), td_upo (by decide)]
        exact (mr z (by omega) z0 z1).1
      · rw [tb_uI_k (by decide), td_upo (by decide)]; exact v11
      · rw [tb_uI_k (by decide), td_upo (by decide)]; exact v12
    have key := tb_lp (n := 4) (E := fun i => ∀ (C : tb_H) (w : Int → Int) (j : tb_V), tb_fr te_S te_F [] A C → te_MV (A.1 80) (A.1 82) w i C → (∀ f, 0 ≤ f → f < A.1 80 114 → 0 ≤ w f ∧ w f < A.1 80 112) → (∀ f, 0 ≤ f → f < i → f < A.1 80 114 → A.1 82 (27 + f) = 0 → te_nx (te_Pc (A.1 80) (A.1 82)) (-1) (w f)) → (∀ f, i ≤ f → w f = A.1 82 (31 + f)) → tb_E X 130 166 [tb_r 21, tb_r 4, tb_r (A.2.2 4 1), tb_i (A.1 80 112), tb_i free, tb_i i, j] [] C (tb_Rv 130 Kv)) (by decide) ?_ ?_
    · exact key _ _ j fB2 v0 L.at (fun f a b => absurd b (by omega)) (fun f _ => rfl)
    · intro C w j fC VC hw hx _
      exact q130_166 L.b ⟨fun _ => k C w fC VC hw (fun f f0 f1 t => hx f f0 (by omega) f1 t), fun q => absurd q (by decide)⟩
    · intro i i0 i1 ih C w j fC VC hw hx hy
      have LC : tb_L C := L.fr fC rfl
      have c80 : C.1 80 = A.1 80 := funext fun z => fC.1 80 z rfl rfl
      have c82 : C.1 82 = A.1 82 := funext fun z => fC.1 82 z rfl rfl
      refine q130_166 L.b ⟨fun q => absurd q (by omega), fun _ => ?_⟩
      rw [e68 LC i0 i1, c80, c82]
      have wi := hy i (Int.le_refl _)
      have row : ∀ own wt : Int, own = te_hv (A.1 80) (A.1 82) (fun f => A.1 82 (31 + f)) i → wt = te_fw (A.1 80) (A.1 82) i → te_MV (A.1 80) (A.1 82) w (i + 1) (tb_upI (tb_upI (tb_upI C 23 i own) 22 i own) 24 i wt) := by
        intro own wt ho ht
        refine ⟨fun f f0 f1 => ?_, fun z z0 z1 => ?_, ?_, ?_, ?_⟩
        · by_cases e : f = i
          · subst e
            refine ⟨?_, ?_, ?_⟩
            · rw [td_upo (by decide), tb_uI_s, ho]
              unfold te_hv
              rw [wi]
            · rw [td_upo (by decide), td_upo (by decide), tb_uI_s, ho]
            · rw [tb_uI_s, ht]
          · have o := VC.1 f f0 (by omega)
            refine ⟨?_, ?_, ?_⟩
            · rw [td_upo (by decide), tb_uI_k e, td_upo (by decide)]; exact o.1
            · rw [td_upo (by decide), td_upo (by decide), tb_uI_k e]; exact o.2.1
            · rw [tb_uI_k e, td_upo (by decide), td_upo (by decide)]; exact o.2.2
        · rw [td_upo (by decide), td_upo (by decide), td_upo (by decide)]; exact VC.2.1 z z0 z1
        · rw [td_upo (by decide), td_upo (by decide), td_upo (by decide)]; exact VC.2.2.1
        · rw [td_upo (by decide), td_upo (by decide), td_upo (by decide)]; exact VC.2.2.2.1
        · exact VC.2.2.2.2.fr (tb_fr.upI (S := [22, 23, 24]) (F := []) (P := []) (tb_fr.upI (tb_fr.upI tb_fr.refl rfl) rfl) rfl) rfl
      have e77' : ∀ own, ∀ K : Int → tb_H → Prop, tb_Ci X 77 [tb_r 4, tb_i i] (tb_upI (tb_upI C 23 i own) 22 i own) K = K (te_fw (A.1 80) (A.1 82) i) (tb_upI (tb_upI C 23 i own) 22 i own) := by
        intro own K
        have := e77 (X := X) (K := K) (A := tb_upI (tb_upI C 23 i own) 22 i own) ((LC.up rfl).up rfl) i0 i1
        rw [td_upo (show 80 ≠ 22 by decide), td_upo (show 80 ≠ 23 by decide), td_upo (show 82 ≠ 22 by decide), td_upo (show 82 ≠ 23 by decide), c80, c82] at this
        exact this
      by_cases t : i < A.1 80 114 ∧ A.1 82 (27 + i) = 0
      · rw [if_pos t]
        refine ⟨fun q => absurd q (by decide), fun _ => ?_⟩
        rw [e70 LC i0 i1, c82]
        refine ⟨⟨i0, i1⟩, ⟨i0, i1⟩, ⟨i0, i1⟩, ?_⟩
        rw [tb_uI_s, e77']
        refine ⟨⟨i0, i1⟩, fun q => absurd q (by decide), fun _ => ?_⟩
        have rw' := row (A.1 82 (31 + i)) (te_fw (A.1 80) (A.1 82) i) (by unfold te_hv; rw [if_pos t]) rfl
        have at' := M.at i i0 t.1
        have th := L.th i0 t.1 t.2
        have nx : te_nx (te_Pc (A.1 80) (A.1 82)) (-1) free := nv.y (fun z => nv.n z (A.1 82 (31 + i)) (by omega) ⟨at', th⟩)
        refine sp132 M hw rw' i0 (by omega) (by omega) t nx.b.1 nx.b.2 (fun C' f' V' => ?_)
        rw [tb_w_id (x := i + 1) (by omega) (by omega)]
        refine ih C' _ _ ((tb_fr.upI (tb_fr.upI (tb_fr.upI fC rfl) rfl) rfl).trans (f'.mono rfl rfl rfl)) V' (te_rng hw nx.b.1 nx.b.2) (fun f a b c d => ?_) (fun f a => ?_)
        · by_cases e : f = i
          · rw [e, td_set_s]; exact nx
          · rw [td_set_n e]; exact hx f a (by omega) c d
        · rw [td_set_n (by omega)]; exact hy f (by omega)
      · rw [if_neg t]
        refine ⟨fun _ => ⟨⟨i0, i1⟩, ⟨i0, i1⟩, ⟨i0, i1⟩, ?_⟩, fun q => absurd rfl q⟩
        rw [tb_uI_s, e77']
        refine ⟨⟨i0, i1⟩, fun _ => ?_, fun q => absurd rfl q⟩
        have rw' := row (-1) (te_fw (A.1 80) (A.1 82) i) (by unfold te_hv; rw [if_neg t]) rfl
        rw [tb_w_id (x := i + 1) (by omega) (by omega)]
        refine ih _ w _ (tb_fr.upI (tb_fr.upI (tb_fr.upI fC rfl) rfl) rfl) rw' hw (fun f a b c d => ?_) (fun f a => hy f (by omega))
        by_cases e : f = i
        · rw [e] at c d; exact absurd ⟨c, d⟩ t
        · exact hx f a (by omega) c d
end TEMOV3
