/-! READER 7: a new name, a scute's name -/
section TEPAR3
variable {X : tb_X} {A B A0 B0 : tb_H} {K : Int → tb_H → Prop} {Kv : tb_H → Prop}
variable {n : Int} {b : Nat} {a0 sort N cs m : Int} {vs rho : Int → Int}
theorem te_wd_c {l l' : Int → Int} {z c : Int} (h : te_wd l z c) (e : ∀ k, 0 ≤ k → k < z → l' k = l k) : te_wd l' z c := by
  refine ⟨h.1, fun k k0 k1 => by rw [e k k0 k1]; exact h.2.1 k k0 k1, ?_⟩
  rw [h.2.2]
  have := h.1
  exact te_code_c _ (fun k k0 k1 => (e k k0 (by omega)).symm)
theorem te_kind (tk : te_Tk n A B) (h : A.1 1 5 = 1) : (A.1 1 4 = B.1 77 5 ∧ 0 ≤ A.1 1 4 ∧ A.1 1 4 ≤ n) ∧ B.1 77 6 = 2 ∧ te_wd (B.1 79) (B.1 77 8) (A.2.1 1 7) := by
  rcases tk.2 with q | q | ⟨q, z | z | z⟩
  · omega
  · omega
  · exact ⟨q, z.2⟩
  · omega
  · omega
theorem te_kindn (tk : te_Tk n A B) (h : A.1 1 5 ≠ 1) : B.1 77 6 ≠ 2 := by
  rcases tk.2 with q | q | ⟨q, z | z | z⟩
  · omega
  · omega
  · exact absurd z.1 h
  · omega
  · omega
theorem te_Nm.w (nm : te_Nm b N cs A B) : ∀ i, 0 ≤ i → i < N → te_wd (fun k => B.1 81 (186 + 8 * i + k)) (B.1 81 (164 + i)) (te_cod B i) ∧ A.2.1 (b + 3) i = te_cod B i := by
  intro i i0 i1
  have w := (nm.2.2 i i0 i1).1
  exact ⟨⟨w.1, w.2.1, rfl⟩, w.2.2⟩
theorem te_Nm.f (nm : te_Nm b N cs A B) (c : Int) : te_find (A.2.1 (b + 3)) c N.toNat 0 = te_find (te_cod B) c N.toNat 0 := by
  have := nm.2.1
  exact te_find_c _ _ (fun j a d => (nm.w j a (by omega)).2)
theorem te_nz1 {x : Int} (hx : x ≠ 0) : (te_F1 A x).1 1 10 ≠ 0 := by
  rw [tb_uI_k (by decide), tb_uI_s]; exact hx
theorem te_nz2 {x y : Int} : (te_F2 B x y).1 77 13 ≠ 0 := by
  rw [tb_uI_k (by decide), tb_uI_k (by decide), tb_uI_s]; decide
theorem te_pname (hb : tb_isB b) {w kb nw : Nat} (hs : te_str w kb nw) {i : Int} (i0 : 0 ≤ i) (i1 : i < nw) (hc : tb_cI kb i = 64) (s0 : te_Sl n b a0 sort N cs m vs rho A0 B0 A B) (n22 : N < 22) {so nu : Int} (hso : so = 0 ↔ sort = 2) (hnu : so = 0 → nu = cs) (c2 : A0.1 (b + 1) 2 = cs) (cs0 : 0 ≤ cs) :
    ∃ A' B', (∀ K, te_ci X b w (i + 1) A' K → te_ci X b w i A K) ∧ (∀ K : tb_H → Prop, K B' → tb_Cv X 219 [tb_r 77, tb_i so, tb_i nu] B K) ∧ te_Sl n b a0 sort (N + 1) (if so = 0 then cs + 1 else cs) m vs rho A0 B0 A' B' := by
  obtain ⟨fA, fB, s0⟩ := s0
  have b5 := te_b5 hb
  have n100 := hs.2.2.1
  rcases s0 with fl | ⟨f0, T, tk, row, nm, hr, ho, pg⟩
  · refine ⟨A, B, fun K k => ⟨fun q => k.1 q, fun q => absurd q fl.1⟩, fun K k => q219 ?_, te_Sl.old fA fB fl⟩
    refine q220 ?_
    rw [te210f te_w127.1 (Or.inl fl.2.1)]
    refine ⟨fun q => absurd rfl q, fun _ => ?_⟩
    rw [te210f te_w141.1 (Or.inl fl.2.1)]
    refine ⟨fun q => absurd rfl q, fun _ => ?_⟩
    rw [te210f te_w147.1 (Or.inl fl.2.1)]
    refine ⟨fun q => absurd rfl q, fun _ => ?_⟩
    rw [te210f te_w149.1 (Or.inl fl.2.1)]
    refine ⟨fun q => absurd rfl q, fun _ => ?_⟩
    rw [te210f te_w151.1 (Or.inl fl.2.1)]
    refine ⟨fun q => absurd rfl q, fun _ => ?_⟩
    rw [te210f te_w153.1 (Or.inl fl.2.1)]
    refine ⟨fun q => absurd rfl q, fun _ => ?_⟩
    rw [te210f te_w155.1 (Or.inl fl.2.1)]
    refine ⟨fun q => absurd rfl q, fun _ => ?_⟩
    rw [te210f te_w157.1 (Or.inl fl.2.1)]
    refine ⟨fun q => absurd rfl q, fun _ => ?_⟩
    rw [te210f te_w159.1 (Or.inl fl.2.1)]
    refine ⟨fun q => absurd rfl q, fun _ => ?_⟩
    rw [te210f te_w161.1 (Or.inl fl.2.1), te211f fl.2.1]
    exact ⟨fun _ => ⟨fun q => absurd q fl.2.1, fun _ => k⟩, fun _ => ⟨fun _ => ⟨fun q => absurd q fl.2.1, fun _ => k⟩, fun q => absurd rfl q⟩⟩
  · have ent : ∀ (K : tb_H → Prop), tb_Cv X 35 [tb_r 1, tb_r b] A (fun A953 => (A953.1 1 10 = 0 → tb_Cv X 10 [tb_r 1] A953 (fun A958 => ∀ j : tb_V, tb_E X 30 5 [tb_r 1, tb_r b, tb_r w, tb_i (i + 1), tb_i (i + 1), j] [] A958 (tb_Rv 30 K))) ∧ (A953.1 1 10 ≠ 0 → K A953)) → te_ci X b w i A K := by
      intro K k
      refine ⟨fun q => absurd f0.1 q, fun _ j => ?_⟩
      refine q30_5 hb hs.1 hs.2.1 ?_
      rw [te19 hs]
      refine ⟨fun q => absurd q (by omega), fun _ => ⟨fun _ => ?_, fun q => absurd q (by omega)⟩⟩
      rw [te21 hs i0 i1, hc, tb_w_id (x := i + 1) (by omega) (by omega)]
      exact ⟨fun _ => ⟨fun q => absurd rfl q, fun _ => k.imp (fun A1 h => ⟨fun q => (h.1 q).imp (fun A2 h2 => h2 _), h.2⟩)⟩, fun q => absurd q (by decide)⟩
    have bad : ∀ (x : Int), x ≠ 0 → (∀ K : tb_H → Prop, K (te_F1 A x) → tb_Cv X 35 [tb_r 1, tb_r b] A K) → (∀ K : tb_H → Prop, K (te_F2 B x (B.1 77 4)) → tb_Cv X 219 [tb_r 77, tb_i so, tb_i nu] B K) → ∃ A' B', (∀ K, te_ci X b w (i + 1) A' K → te_ci X b w i A K) ∧ (∀ K : tb_H → Prop, K B' → tb_Cv X 219 [tb_r 77, tb_i so, tb_i nu] B K) ∧ te_Sl n b a0 sort (N + 1) (if so = 0 then cs + 1 else cs) m vs rho A0 B0 A' B' := by
      intro x hx h1 h2
      exact ⟨te_F1 A x, te_F2 B x (B.1 77 4), fun K k => ent K (h1 _ ⟨fun q => absurd q (te_nz1 hx), fun _ => k.1 (te_nz1 hx)⟩), h2, ⟨te_fc.upI (te_fc.upI fA rfl) rfl, tb_fr.upI (tb_fr.upI (tb_fr.upI fB rfl) rfl) rfl, Or.inl (te_Fl.mk hx tk.1)⟩⟩
    by_cases hk : A.1 1 5 = 1
    · have wh := te_kind tk hk
      by_cases sw : te_fst te_L (A.2.1 1 7) = -1
      · have fd := nm.f (A.2.1 1 7)
        have nmw := nm.w
        by_cases fi : te_find (te_cod B) (A.2.1 1 7) N.toNat 0 = -1
        · -- a new one
          have pg' : a0 ≤ A.1 1 4 := by
            rcases pg with q | q | q
            · omega
            · omega
            · exact q
          have nb := nm.2.1
          have wb := wh.2.2.1
          let v : Int := if so = 0 then cs else -1
          have cl : ∀ K : tb_H → Prop, K (tb_upI (tb_upI (tb_upL A (b + 3) N (A.2.1 1 7)) (b + 4) N v) b 4 (N + 1)) → tb_Cv X 35 [tb_r 1, tb_r b] A K := by
            intro K k
            refine q35 hb ⟨fun q => absurd hk q, fun _ => ?_⟩
            rw [e18, if_pos hk, sw]
            refine ⟨fun _ => ?_, fun q => absurd rfl q⟩
            rw [te36 hb nm.1.1 nb, fd, fi, if_pos rfl]
            refine ⟨fun _ => ⟨fun q => ?_, fun q => ?_⟩, fun q => absurd rfl q⟩
            · rw [te37 hb nm.1.1 nb.1 n22]
              have : v = -1 := if_neg (fun z => q (by rw [row.1]; exact hso.mp z))
              rw [this] at k
              exact k
            · rw [e28g hb (by decide) (by decide), te37 hb nm.1.1 nb.1 n22]
              have : v = cs := if_pos (hso.mpr (by rw [← row.1]; exact q))
              rw [this] at k
              rw [ho.1, c2]
              exact k
          have rf : ∃ D, tb_fr [81] [] [] B D ∧ (∀ j, ¬ (186 + 8 * N ≤ j ∧ j < 186 + 8 * N + B.1 77 8) → D.1 81 j = B.1 81 j) ∧ (∀ l, 0 ≤ l → l < B.1 77 8 → D.1 81 (186 + 8 * N + l) = B.1 79 l) ∧ ∀ K : tb_H → Prop, tb_Cv X 204 [tb_r 77] (tb_upI (tb_upI (tb_upI (tb_upI D 81 (164 + N) (B.1 77 8)) 81 (120 + N) so) 81 (142 + N) nu) 81 119 (N + 1)) K → tb_Cv X 219 [tb_r 77, tb_i so, tb_i nu] B K := by
            have loop : ∀ (k : Nat) (l : Int) (D : tb_H), l + k = B.1 77 8 → 0 ≤ l → tb_fr [81] [] [] B D → (∀ j, ¬ (186 + 8 * N ≤ j ∧ j < 186 + 8 * N + l) → D.1 81 j = B.1 81 j) → (∀ y, 0 ≤ y → y < l → D.1 81 (186 + 8 * N + y) = B.1 79 y) → ∃ D', tb_fr [81] [] [] B D' ∧ (∀ j, ¬ (186 + 8 * N ≤ j ∧ j < 186 + 8 * N + B.1 77 8) → D'.1 81 j = B.1 81 j) ∧ (∀ y, 0 ≤ y → y < B.1 77 8 → D'.1 81 (186 + 8 * N + y) = B.1 79 y) ∧ ∀ K : tb_H → Prop, tb_Cv X 204 [tb_r 77] (tb_upI (tb_upI (tb_upI (tb_upI D' 81 (164 + N) (B.1 77 8)) 81 (120 + N) so) 81 (142 + N) nu) 81 119 (N + 1)) K → tb_E X 219 47 [tb_r 77, tb_i so, tb_i nu, tb_i N, tb_i l] [] D (tb_Rv 219 K) := by
              intro k
              induction k with
              | zero =>
                intro l D lk l0 fD d1 d2
                have el : l = B.1 77 8 := by omega
                rw [el] at d1 d2
                refine ⟨D, fD, d1, d2, fun K k => ?_⟩
                refine q219_47 ⟨fun _ => ?_, fun q => absurd q (by rw [fD.1 77 8 rfl rfl]; omega)⟩
                rw [fD.1 77 8 rfl rfl, tb_w_id (x := 164 + N) (by omega) (by omega), tb_w_id (x := 120 + N) (by omega) (by omega), tb_w_id (x := 142 + N) (by omega) (by omega)]
                refine ⟨⟨by omega, by omega⟩, ⟨by omega, by omega⟩, ⟨by omega, by omega⟩, ?_⟩
                rw [tb_uI_k (k' := 119) (by omega), tb_uI_k (k' := 119) (by omega), tb_uI_k (k' := 119) (by omega), d1 119 (by omega), nm.1.2, tb_w_id (by omega) (by omega)]
                exact k
              | succ k ih =>
                intro l D lk l0 fD d1 d2
                have h := ih (l + 1) (tb_upI D 81 (186 + 8 * N + l) (B.1 79 l)) (by omega) (by omega) (tb_fr.upI fD rfl) (fun j hj => by
                  rw [tb_uI_k (by omega)]
                  exact d1 j (by omega)) (fun y y0 y1 => by
                  by_cases e : y = l
                  · rw [e, tb_uI_s]
                  · rw [tb_uI_k (by omega)]
                    exact d2 y y0 (by omega))
                obtain ⟨D', g1, g2, g3, g4⟩ := h
                refine ⟨D', g1, g2, g3, fun K k => q219_47 ⟨fun q => absurd q (by rw [fD.1 77 8 rfl rfl]; omega), fun _ => ?_⟩⟩
                rw [fD.1 79 l rfl rfl, tb_w_id (x := 8 * N) (by omega) (by omega), tb_w_id (x := 186 + 8 * N) (by omega) (by omega), tb_w_id (x := 186 + 8 * N + l) (by omega) (by omega), tb_w_id (x := l + 1) (by omega) (by omega)]
                exact ⟨⟨l0, by omega⟩, ⟨by omega, by omega⟩, g4 K k⟩
            obtain ⟨D, g1, g2, g3, g4⟩ := loop (B.1 77 8).toNat 0 B (by omega) (by decide) tb_fr.refl (fun j _ => rfl) (fun y a d => absurd d (by omega))
            refine ⟨D, g1, g2, g3, fun K k => q219 (te220 f0.2 wh.2.1 wh.2.2 (fun _ => ?_) (fun q => absurd sw q))⟩
            refine ⟨fun _ => ?_, fun q => absurd f0.2 q⟩
            rw [te221 nm.1.2 nb (fun z z0 z1 => (nmw z z0 z1).1) wh.2.2, fi]
            refine ⟨fun _ => ⟨fun _ => ?_, fun q => absurd f0.2 q⟩, fun q => absurd q (by decide)⟩
            rw [nm.1.2]
            exact g4 K k
          obtain ⟨D, g1, g2, g3, g4⟩ := rf
          have hB1 : tb_fr [81] [] [] B (tb_upI (tb_upI (tb_upI (tb_upI D 81 (164 + N) (B.1 77 8)) 81 (120 + N) so) 81 (142 + N) nu) 81 119 (N + 1)) := tb_fr.upI (tb_fr.upI (tb_fr.upI (tb_fr.upI g1 rfl) rfl) rfl) rfl
          have lo81 : ∀ j, j ≠ 119 → j ≠ 142 + N → j ≠ 120 + N → j ≠ 164 + N → (tb_upI (tb_upI (tb_upI (tb_upI D 81 (164 + N) (B.1 77 8)) 81 (120 + N) so) 81 (142 + N) nu) 81 119 (N + 1)).1 81 j = D.1 81 j := by
            intro j j1 j2 j3 j4
            rw [tb_uI_k j1, tb_uI_k j2, tb_uI_k j3, tb_uI_k j4]
          have hA1 : te_fc b A0 (tb_upI (tb_upI (tb_upL A (b + 3) N (A.2.1 1 7)) (b + 4) N v) b 4 (N + 1)) := te_fc.upI (te_fc.upI (te_fc.upL fA te_Sbb.2.2.2.1) (by rw [te_Sbb.2.2.2.2]; rfl)) (by rw [te_Sbb.1]; rfl)
          have o1 : ∀ o, o ≠ b → o ≠ b + 4 → (tb_upI (tb_upI (tb_upL A (b + 3) N (A.2.1 1 7)) (b + 4) N v) b 4 (N + 1)).1 o = A.1 o := by
            intro o h1 h2
            rw [td_upo h1, td_upo h2]
            rfl
          have T1 : te_tp n (tb_upI (tb_upI (tb_upL A (b + 3) N (A.2.1 1 7)) (b + 4) N v) b 4 (N + 1)) (tb_upI (tb_upI (tb_upI (tb_upI D 81 (164 + N) (B.1 77 8)) 81 (120 + N) so) 81 (142 + N) nu) 81 119 (N + 1)) := by
            refine ⟨⟨?_, ?_⟩, ⟨T.2.1.1, T.2.1.2.1, by rw [hB1.1 77 9 rfl rfl]; exact T.2.1.2.2⟩, fun k k0 k1 => ?_⟩
            · rw [o1 1 (by omega) (by omega)]; exact T.1.1
            · rw [hB1.1 77 3 rfl rfl]; exact T.1.2
            · rw [o1 2 (by omega) (by omega), hB1.1 78 k rfl rfl]; exact T.2.2 k k0 k1
          obtain ⟨A2, B2, cc2, r2, s2, y1, y2⟩ := te_adv1 (X := X) (a0 := a0) (sort := sort) (N := N + 1) (cs := if so = 0 then cs + 1 else cs) (m := m) (vs := vs) (rho := rho) hb hA1 (fB.trans (hB1.mono rfl rfl rfl)) T1 ⟨by rw [o1 1 (by omega) (by omega)]; exact f0.1, by rw [hB1.1 77 13 rfl rfl]; exact f0.2⟩ (by rw [o1 1 (by omega) (by omega), hB1.1 77 5 rfl rfl]; exact wh.1) (by rw [o1 1 (by omega) (by omega), o1 3 (by omega) (by omega)]; exact row) (by
            refine ⟨⟨tb_uI_s, tb_uI_s⟩, by omega, fun z z0 z1 => ?_⟩
            have so0 : (if so = 0 then nu else (-1)) = v := by
              show _ = (if so = 0 then cs else -1)
              by_cases q : so = 0
              · rw [if_pos q, if_pos q]; exact hnu q
              · rw [if_neg q, if_neg q]
            by_cases e : z = N
            · subst e
              refine ⟨?_, ?_, fun q => ?_⟩
              · rw [tb_uI_k (show 164 + z ≠ 119 by omega), tb_uI_k (show 164 + z ≠ 142 + z by omega), tb_uI_k (show 164 + z ≠ 120 + z by omega), tb_uI_s]
                have l1 : (tb_upI (tb_upI (tb_upL A (b + 3) z (A.2.1 1 7)) (b + 4) z v) b 4 (z + 1)).2.1 (b + 3) z = A.2.1 1 7 := tb_uL_s
                rw [l1]
                exact te_wd_c wh.2.2 (fun k k0 k1 => by
                  show (tb_upI _ 81 119 (z + 1)).1 81 (186 + 8 * z + k) = _
                  rw [lo81 _ (by omega) (by omega) (by omega) (by omega)]
                  exact g3 k k0 k1)
              · rw [tb_uI_o (by omega), tb_uI_s, tb_uI_k (show 120 + z ≠ 119 by omega), tb_uI_k (show 120 + z ≠ 142 + z by omega), tb_uI_s, tb_uI_k (show 142 + z ≠ 119 by omega), tb_uI_s]
                exact so0.symm
              · rw [tb_uI_k (show 120 + z ≠ 119 by omega), tb_uI_k (show 120 + z ≠ 142 + z by omega), tb_uI_s] at q
                rw [tb_uI_k (show 142 + z ≠ 119 by omega), tb_uI_s, if_pos q, hnu q]
                omega
            · have w := nm.2.2 z z0 (by omega)
              have wz := w.1.1
              rw [lo81 (164 + z) (by omega) (by omega) (by omega) (by omega), lo81 (120 + z) (by omega) (by omega) (by omega) (by omega), lo81 (142 + z) (by omega) (by omega) (by omega) (by omega), g2 (164 + z) (by omega), g2 (120 + z) (by omega), g2 (142 + z) (by omega)]
              refine ⟨?_, ?_, fun q => ?_⟩
              · have l1 : (tb_upI (tb_upI (tb_upL A (b + 3) N (A.2.1 1 7)) (b + 4) N v) b 4 (N + 1)).2.1 (b + 3) z = A.2.1 (b + 3) z := if_neg (fun q => e q.2)
                rw [l1]
                refine te_wd_c w.1 (fun k k0 k1 => ?_)
                show (tb_upI _ 81 119 (N + 1)).1 81 (186 + 8 * z + k) = _
                rw [lo81 _ (by omega) (by omega) (by omega) (by omega), g2 _ (by omega)]
              · rw [tb_uI_o (by omega), tb_uI_k e]
                exact w.2.1
              · have := w.2.2 q
                split <;> omega) (fun k hk' => by rw [lo81 k (by omega) (by omega) (by omega) (by omega), g2 k (by omega)]; exact hr k hk') ⟨by rw [o1 (b + 1) (by omega) (by omega)]; exact ho.1, by rw [o1 (b + 2) (by omega) (by omega)]; exact ho.2⟩ (by rw [o1 1 (by omega) (by omega)]; exact pg') b5.1
          refine ⟨A2, B2, fun K k => ent K (cl _ ⟨fun _ => cc2 _ (k.2 y1), fun q => absurd (by rw [o1 1 (by omega) (by omega)]; exact f0.1) q⟩), fun K k => g4 K (r2 _ k), s2⟩
        · have fr := te_find_r (cod := te_cod B) (c := A.2.1 1 7) N.toNat 0
          refine bad 3 (by decide) (fun K k => q35 hb ⟨fun q => absurd hk q, fun _ => ?_⟩) (fun K k => q219 (te220 f0.2 wh.2.1 wh.2.2 (fun _ => ?_) (fun q => absurd sw q)))
          · rw [e18, if_pos hk, sw]
            refine ⟨fun _ => ?_, fun q => absurd rfl q⟩
            rw [te36 hb nm.1.1 nm.2.1, fd, if_neg fi]
            refine ⟨fun q => absurd q (by decide), fun _ => ?_⟩
            rw [te26 f0.1]; exact k
          · refine ⟨fun _ => ?_, fun q => absurd f0.2 q⟩
            rw [te221 nm.1.2 nm.2.1 (fun z z0 z1 => (nmw z z0 z1).1) wh.2.2]
            refine ⟨fun q => absurd q (by omega), fun _ => ?_⟩
            rw [te211 f0.2]
            exact ⟨fun q => absurd q te_nz2, fun _ => k⟩
      · refine bad 1 (by decide) (fun K k => q35 hb ⟨fun q => absurd hk q, fun _ => ?_⟩) (fun K k => q219 (te220 f0.2 wh.2.1 wh.2.2 (fun q => absurd q sw) (fun _ => ⟨fun q => absurd q te_nz2, fun _ => k⟩)))
        rw [e18, if_pos hk]
        refine ⟨fun q => absurd q sw, fun _ => ?_⟩
        rw [te26 f0.1]; exact k
    · refine bad 1 (by decide) (fun K k => q35 hb ⟨fun _ => by rw [te26 f0.1]; exact k, fun q => absurd q hk⟩) (fun K k => q219 (te220n f0.2 (te_kindn tk hk) ⟨fun q => absurd q te_nz2, fun _ => k⟩))
end TEPAR3
