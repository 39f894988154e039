/-! READER 8: a scute's name; a told whole; a cell -/
section TEPAR4
variable {X : tb_X} {A B A0 B0 : tb_H} {K : Int → tb_H → Prop} {Kv : tb_H → Prop}
variable {n : Int} {b : Nat} {a0 sort N cs m : Int} {vs rho : Int → Int}
theorem te_pscu (hb : tb_isB b) {w kb nw : Nat} (hs : te_str w kb nw) {i : Int} (i0 : 0 ≤ i) (i1 : i < nw) (hc : tb_cI kb i = 36) (s0 : te_Sl n b a0 sort N cs m vs rho A0 B0 A B) (m0 : 0 ≤ m) (m6 : m < 6) {mask : Int} {f : Int → Int} (cs8 : cs ≤ 8)
    (h40 : sort = 8 → ∀ (A : tb_H) (K : Int → tb_H → Prop) (v : Int), A.1 (b + 1) = A0.1 (b + 1) → A.1 (b + 2) = A0.1 (b + 2) → 0 ≤ v → v < cs → tb_Ci X 40 [tb_r b, tb_i v] A K = K (f v) A)
    (hm : ∀ v, 0 ≤ v → v < cs → tb_bt mask v = if sort = 8 then f v else 0) :
    ∃ A' v B', (∀ K, te_ci X b w (i + 1) A' K → te_ci X b w i A K) ∧ (∀ K : Int → tb_H → Prop, K v B' → tb_Ci X 223 [tb_r 77, tb_i mask] B K) ∧ te_Sl n b a0 sort N cs (m + 1) (td_up vs m v) rho A0 B0 A' B' ∧ (A'.1 1 10 = 0 → 0 ≤ v ∧ v < cs ∧ (sort = 8 → f v = 0)) := by
  obtain ⟨fA, fB, s0⟩ := s0
  have b5 := te_b5 hb
  have n100 := hs.2.2.1
  rcases s0 with fl | ⟨f0, T, tk, row, nm, hr, ho, pg⟩
  · exact ⟨A, 0, B, fun K k => ⟨fun q => k.1 q, fun q => absurd q fl.1⟩, fun K k => q223 ⟨fun q => absurd q fl.2.1, fun _ => k⟩, te_Sl.old fA fB fl, fun q => absurd q fl.1⟩
  · have ent : ∀ (K : tb_H → Prop), tb_Cv X 38 [tb_r 1, tb_r b] A (fun A953 => (A953.1 1 10 = 0 → tb_Cv X 10 [tb_r 1] A953 (fun A958 => ∀ j : tb_V, tb_E X 30 5 [tb_r 1, tb_r b, tb_r w, tb_i (i + 1), tb_i (i + 1), j] [] A958 (tb_Rv 30 K))) ∧ (A953.1 1 10 ≠ 0 → K A953)) → te_ci X b w i A K := by
      intro K k
      refine ⟨fun q => absurd f0.1 q, fun _ j => ?_⟩
      refine q30_5 hb hs.1 hs.2.1 ?_
      rw [te19 hs]
      refine ⟨fun q => absurd q (by omega), fun _ => ⟨fun _ => ?_, fun q => absurd q (by omega)⟩⟩
      rw [te21 hs i0 i1, hc, tb_w_id (x := i + 1) (by omega) (by omega)]
      exact ⟨fun _ => ⟨fun _ => ⟨fun q => absurd rfl q, fun _ => k.imp (fun A1 h => ⟨fun q => (h.1 q).imp (fun A2 h2 => h2 _), h.2⟩)⟩, fun q => absurd q (by decide)⟩, fun q => absurd q (by decide)⟩
    have bad : ∀ (x v : Int), x ≠ 0 → (∀ K : tb_H → Prop, K (te_F1 A x) → tb_Cv X 38 [tb_r 1, tb_r b] A K) → (∀ K : Int → tb_H → Prop, K v (te_F2 B x (B.1 77 4)) → tb_Ci X 223 [tb_r 77, tb_i mask] B K) → ∃ A' v B', (∀ K, te_ci X b w (i + 1) A' K → te_ci X b w i A K) ∧ (∀ K : Int → tb_H → Prop, K v B' → tb_Ci X 223 [tb_r 77, tb_i mask] B K) ∧ te_Sl n b a0 sort N cs (m + 1) (td_up vs m v) rho A0 B0 A' B' ∧ (A'.1 1 10 = 0 → 0 ≤ v ∧ v < cs ∧ (sort = 8 → f v = 0)) := by
      intro x v hx h1 h2
      exact ⟨te_F1 A x, v, te_F2 B x (B.1 77 4), fun K k => ent K (h1 _ ⟨fun q => absurd q (te_nz1 hx), fun _ => k.1 (te_nz1 hx)⟩), h2, te_Sl.fail fA fB hx tk.1, fun q => absurd q (te_nz1 hx)⟩
    have fd := nm.f (A.2.1 1 7)
    have nmw := nm.w
    have nb := nm.2.1
    by_cases hk : A.1 1 5 = 1
    · have wh := te_kind tk hk
      by_cases sw : te_fst te_L (A.2.1 1 7) = -1
      · have fr := te_find_r (cod := te_cod B) (c := A.2.1 1 7) N.toNat 0
        -- the class's and the reference's way up to what is found
        have cl : ∀ K : tb_H → Prop, ((if te_find (te_cod B) (A.2.1 1 7) N.toNat 0 = -1 then -1 else A.1 (b + 4) (te_find (te_cod B) (A.2.1 1 7) N.toNat 0)) ≠ -1 → (sort ≠ 8 → tb_Cv X 34 [tb_r 1, tb_i (if te_find (te_cod B) (A.2.1 1 7) N.toNat 0 = -1 then -1 else A.1 (b + 4) (te_find (te_cod B) (A.2.1 1 7) N.toNat 0))] A K) ∧ (sort = 8 → tb_Ci X 40 [tb_r b, tb_i (if te_find (te_cod B) (A.2.1 1 7) N.toNat 0 = -1 then -1 else A.1 (b + 4) (te_find (te_cod B) (A.2.1 1 7) N.toNat 0))] A (fun v A1 => (v = 0 → tb_Cv X 34 [tb_r 1, tb_i (if te_find (te_cod B) (A.2.1 1 7) N.toNat 0 = -1 then -1 else A.1 (b + 4) (te_find (te_cod B) (A.2.1 1 7) N.toNat 0))] A1 K) ∧ (v ≠ 0 → tb_Cv X 26 [tb_r 1, tb_i 3] A1 K)))) → ((if te_find (te_cod B) (A.2.1 1 7) N.toNat 0 = -1 then -1 else A.1 (b + 4) (te_find (te_cod B) (A.2.1 1 7) N.toNat 0)) = -1 → K (te_F1 A 2)) → tb_Cv X 38 [tb_r 1, tb_r b] A K := by
          intro K k1 k2
          refine q38 hb ?_
          rw [te39 hb nm.1.1 nb, fd]
          refine ⟨fun q => absurd hk q, fun _ => ?_⟩
          rw [e18, if_pos hk, sw, row.1]
          refine ⟨fun _ => ⟨fun q => ?_, fun q => ?_⟩, fun q => absurd rfl q⟩
          · exact ⟨fun z => (k1 q).1 z, fun z => (k1 q).2 z⟩
          · rw [te26 f0.1]; exact k2 q
        have rf : ∀ K : Int → tb_H → Prop, tb_Ci X 221 [tb_r 77] B (fun v11633 A11632 => (v11633 < 0 → K 0 (te_F2 B 2 (B.1 77 4))) ∧ (0 ≤ v11633 → (0 ≤ 120 + v11633 ∧ 120 + v11633 < 362) ∧ ((B.1 81 (120 + v11633) = 0 → (0 ≤ 142 + v11633 ∧ 142 + v11633 < 362) ∧ ((tb_bt mask (B.1 81 (142 + v11633)) = 0 → tb_Cv X 204 [tb_r 77] B (fun A1 => K (B.1 81 (142 + v11633)) A1)) ∧ (tb_bt mask (B.1 81 (142 + v11633)) ≠ 0 → K (B.1 81 (142 + v11633)) (te_F2 B 3 (B.1 77 4))))) ∧ (B.1 81 (120 + v11633) ≠ 0 → K 0 (te_F2 B 2 (B.1 77 4)))))) → tb_Ci X 223 [tb_r 77, tb_i mask] B K := by
          intro K k
          rw [te221 nm.1.2 nb (fun z z0 z1 => (nmw z z0 z1).1) wh.2.2] at k
          refine q223 ⟨fun _ => te220 f0.2 wh.2.1 wh.2.2 (fun _ => ⟨fun _ => ?_, fun q => absurd f0.2 q⟩) (fun q => absurd sw q), fun q => absurd f0.2 q⟩
          rw [te221 nm.1.2 nb (fun z z0 z1 => (nmw z z0 z1).1) wh.2.2]
          refine ⟨fun q => ?_, fun q => ?_⟩
          · rw [te211 f0.2]
            exact ⟨fun z => absurd z te_nz2, fun _ => k.1 q⟩
          · have kk := k.2 q
            rw [tb_w_id (x := 120 + te_find (te_cod B) (A.2.1 1 7) N.toNat 0) (by omega) (by omega), tb_w_id (x := 142 + te_find (te_cod B) (A.2.1 1 7) N.toNat 0) (by omega) (by omega)]
            refine ⟨kk.1, fun z => ⟨fun _ => ⟨(kk.2.1 z).1, ?_⟩, fun y => absurd f0.2 y⟩, fun z => ?_⟩
            · rw [te224]
              refine ⟨fun y => ⟨fun u => absurd f0.2 u, fun _ => ((kk.2.1 z).2.1 y)⟩, fun y => ?_⟩
              rw [te211 f0.2]
              exact ⟨fun _ => (kk.2.1 z).2.2 y, fun u => absurd u te_nz2⟩
            · rw [te211 f0.2]
              exact ⟨fun u => absurd u te_nz2, fun _ => kk.2.2 z⟩
        by_cases fi : te_find (te_cod B) (A.2.1 1 7) N.toNat 0 = -1
        · refine bad 2 0 (by decide) (fun K k => cl K (fun q => absurd (if_pos fi) q) (fun _ => k)) (fun K k => rf K ?_)
          rw [te221 nm.1.2 nb (fun z z0 z1 => (nmw z z0 z1).1) wh.2.2]
          exact ⟨fun _ => k, fun q => by omega⟩
        · have fi0 : 0 ≤ te_find (te_cod B) (A.2.1 1 7) N.toNat 0 ∧ te_find (te_cod B) (A.2.1 1 7) N.toNat 0 < N := by omega
          have w := nm.2.2 _ fi0.1 fi0.2
          by_cases so : B.1 81 (120 + te_find (te_cod B) (A.2.1 1 7) N.toNat 0) = 0
          · have vb := w.2.2 so
            have ev : (if te_find (te_cod B) (A.2.1 1 7) N.toNat 0 = -1 then -1 else A.1 (b + 4) (te_find (te_cod B) (A.2.1 1 7) N.toNat 0)) = B.1 81 (142 + te_find (te_cod B) (A.2.1 1 7) N.toNat 0) := by
              rw [if_neg fi, w.2.1, if_pos so]
            generalize hv : B.1 81 (142 + te_find (te_cod B) (A.2.1 1 7) N.toNat 0) = v at vb ev
            have mk := hm v vb.1 vb.2
            rw [ev] at cl
            by_cases tw : sort = 8 ∧ f v ≠ 0
            · rw [if_pos tw.1] at mk
              refine bad 3 v (by decide) (fun K k => cl K (fun _ => ⟨fun z => absurd tw.1 z, fun _ => ?_⟩) (fun q => by omega)) (fun K k => rf K ?_)
              · rw [h40 tw.1 A _ v ho.1 ho.2 vb.1 vb.2]
                refine ⟨fun z => absurd z tw.2, fun _ => ?_⟩
                rw [te26 f0.1]; exact k
              · rw [te221 nm.1.2 nb (fun z z0 z1 => (nmw z z0 z1).1) wh.2.2, hv, mk]
                exact ⟨fun q => by omega, fun _ => ⟨⟨by omega, by omega⟩, fun _ => ⟨⟨by omega, by omega⟩, fun z => absurd z tw.2, fun _ => k⟩, fun z => absurd so z⟩⟩
            · have pg' : a0 ≤ A.1 1 4 := by
                rcases pg with q | q | q
                · omega
                · omega
                · exact q
              have m0' : tb_bt mask v = 0 := by
                rw [mk]
                by_cases z : sort = 8
                · rw [if_pos z]
                  by_cases y : f v = 0
                  · exact y
                  · exact absurd ⟨z, y⟩ tw
                · rw [if_neg z]
              have kp : ∀ K : tb_H → Prop, K (tb_upI (tb_upI A 3 m v) 1 9 (m + 1)) → tb_Cv X 34 [tb_r 1, tb_i v] A K := by
                intro K k
                refine q34 ⟨fun q => absurd q (by rw [row.2.1]; omega), fun _ => ⟨fun _ => ?_, fun q => absurd q (by rw [row.2.1]; omega)⟩⟩
                rw [row.2.1, tb_w_id (x := m + 1) (by omega) (by omega)]
                exact k
              have row1 : ∀ K : tb_H → Prop, K (tb_upI (tb_upI A 3 m v) 1 9 (m + 1)) → tb_Cv X 38 [tb_r 1, tb_r b] A K := by
                intro K k
                refine cl K (fun _ => ⟨fun _ => kp K k, fun z => ?_⟩) (fun q => by omega)
                rw [h40 z A _ v ho.1 ho.2 vb.1 vb.2]
                have fv : f v = 0 := by
                  by_cases y : f v = 0
                  · exact y
                  · exact absurd ⟨z, y⟩ tw
                exact ⟨fun _ => kp K k, fun y => absurd fv y⟩
              have fA1 : te_fc b A0 (tb_upI (tb_upI A 3 m v) 1 9 (m + 1)) := te_fc.upI (te_fc.upI fA rfl) rfl
              have T1 : te_tp n (tb_upI (tb_upI A 3 m v) 1 9 (m + 1)) B := by
                refine ⟨⟨?_, T.1.2⟩, T.2.1, fun k k0 k1 => ?_⟩
                · rw [tb_uI_k (by decide), td_upo (by decide)]; exact T.1.1
                · rw [td_upo (by decide), td_upo (by decide)]; exact T.2.2 k k0 k1
              have z10 : (tb_upI (tb_upI A 3 m v) 1 9 (m + 1)).1 1 10 = 0 := by rw [tb_uI_k (by decide), td_upo (by decide)]; exact f0.1
              have z4 : (tb_upI (tb_upI A 3 m v) 1 9 (m + 1)).1 1 4 = A.1 1 4 := by rw [tb_uI_k (by decide), td_upo (by decide)]
              obtain ⟨A2, B2, c2, r2, s2, y1, y2⟩ := te_adv1 (X := X) (a0 := a0) (sort := sort) (N := N) (cs := cs) (m := m + 1) (vs := td_up vs m v) (rho := rho) hb fA1 fB T1 ⟨z10, f0.2⟩ (by rw [z4]; exact wh.1) ⟨by rw [tb_uI_k (by decide), td_upo (by decide)]; exact row.1, tb_uI_s, fun k k0 k1 => by
                rw [td_upo (by decide), td_upi]
                show (if k = m then _ else _) = if k = m then _ else _
                by_cases e : k = m
                · rw [if_pos e, if_pos e]
                · rw [if_neg e, if_neg e]; exact row.2.2 k k0 (by omega)⟩ (by
                  refine ⟨⟨?_, nm.1.2⟩, nm.2.1, fun z z0 z1 => ?_⟩
                  · rw [td_upo (by omega), td_upo (by omega)]; exact nm.1.1
                  · rw [td_upo (show b + 4 ≠ 1 by omega), td_upo (show b + 4 ≠ 3 by omega)]
                    exact nm.2.2 z z0 z1) hr ⟨by rw [td_upo (show b + 1 ≠ 1 by omega), td_upo (show b + 1 ≠ 3 by omega)]; exact ho.1, by rw [td_upo (show b + 2 ≠ 1 by omega), td_upo (show b + 2 ≠ 3 by omega)]; exact ho.2⟩ (by rw [z4]; exact pg') b5.1
              refine ⟨A2, v, B2, fun K k => ent K (row1 _ ⟨fun _ => c2 _ (k.2 y1), fun q => absurd z10 q⟩), fun K k => rf K ?_, s2, fun _ => ⟨vb.1, vb.2, fun z => ?_⟩⟩
              · rw [te221 nm.1.2 nb (fun z z0 z1 => (nmw z z0 z1).1) wh.2.2, hv, m0']
                exact ⟨fun q => by omega, fun _ => ⟨⟨by omega, by omega⟩, fun _ => ⟨⟨by omega, by omega⟩, fun _ => r2 _ k, fun z => absurd rfl z⟩, fun z => absurd so z⟩⟩
              · by_cases y : f v = 0
                · exact y
                · exact absurd ⟨z, y⟩ tw
          · have ev : (if te_find (te_cod B) (A.2.1 1 7) N.toNat 0 = -1 then -1 else A.1 (b + 4) (te_find (te_cod B) (A.2.1 1 7) N.toNat 0)) = -1 := by
              rw [if_neg fi, w.2.1, if_neg so]
            refine bad 2 0 (by decide) (fun K k => cl K (fun q => absurd ev q) (fun _ => k)) (fun K k => rf K ?_)
            rw [te221 nm.1.2 nb (fun z z0 z1 => (nmw z z0 z1).1) wh.2.2]
            exact ⟨fun q => by omega, fun _ => ⟨⟨by omega, by omega⟩, fun z => absurd z so, fun _ => k⟩⟩
      · refine bad 1 0 (by decide) (fun K k => q38 hb ?_) (fun K k => q223 ⟨fun _ => te220 f0.2 wh.2.1 wh.2.2 (fun q => absurd q sw) (fun _ => ⟨fun q => absurd q te_nz2, fun _ => k⟩), fun q => absurd f0.2 q⟩)
        rw [te39 hb nm.1.1 nb]
        refine ⟨fun q => absurd hk q, fun _ => ?_⟩
        rw [e18, if_pos hk]
        refine ⟨fun q => absurd q sw, fun _ => ?_⟩
        rw [te26 f0.1]; exact k
    · refine bad 1 0 (by decide) (fun K k => q38 hb ?_) (fun K k => q223 ⟨fun _ => te220n f0.2 (te_kindn tk hk) ⟨fun q => absurd q te_nz2, fun _ => k⟩, fun q => absurd f0.2 q⟩)
      rw [te39 hb nm.1.1 nb]
      refine ⟨fun _ => ?_, fun q => absurd q hk⟩
      rw [te26 f0.1]; exact k
/-- a word and a whole behind it -/
theorem te_ptold (hb : tb_isB b) {w kb nw : Nat} (hs : te_str w kb nw) {i e : Int} (i0 : 0 ≤ i) (i1 : i < e) (e1 : e < nw) (e8 : e - i ≤ 8) (hl : ∀ k, i ≤ k → k < e → 97 ≤ tb_cI kb k ∧ tb_cI kb k ≤ 122) (he : tb_cI kb e = 35) {w' kb' nw' : Nat} (hs' : te_ws w' kb' nw') (hcode : te_code (fun k => tb_cI kb (i + k)) (e - i).toNat = te_code (tb_cI kb') nw') (s0 : te_Sl n b a0 sort N cs m vs rho A0 B0 A B) (m0 : 0 ≤ m) (m6 : m < 6) {lo hi : Int} (lh : lo ≤ hi)
    (hlo : ∀ (A : tb_H) (K : Int → tb_H → Prop), A.1 1 8 = sort → A.1 1 9 = m → (∀ k, 0 ≤ k → k < m → A.1 3 k = vs k) → tb_Ci X 32 [tb_r 1] A K = K lo A) (hhi : ∀ (A : tb_H) (K : Int → tb_H → Prop), A.1 1 8 = sort → A.1 1 9 = m → tb_Ci X 33 [tb_r 1] A K = K hi A) :
    ∃ A' v B', (∀ K, te_ci X b w (e + 1) A' K → te_ci X b w i A K) ∧ (∀ K : Int → tb_H → Prop, K v B' → tb_Ci X 213 [tb_r 77, tb_r w', tb_i lo, tb_i hi] B K) ∧ te_Sl n b a0 sort N cs (m + 1) (td_up vs m v) rho A0 B0 A' B' ∧ (lo ≤ v ∧ v ≤ hi) := by
  obtain ⟨A1, B1, c1, r1, s1⟩ := te_pword (X := X) hb hs i0 i1 (by omega) e8 hl (fun _ => by omega) hs' hcode s0
  obtain ⟨A2, v, B2, c2, r2, s2, bv⟩ := te_pnum (X := X) hb hs (by omega) e1 he s1 m0 m6 lh hlo hhi
  exact ⟨A2, v, B2, fun K k => c1 K (c2 K k), fun K k => q213 hs'.1.1 hs'.1.2.1 (r1 _ (r2 _ k)), s2, bv⟩
end TEPAR4
