/-! READER 14: a line that is read when a fault was met already -/
section TEFAIL
variable {X : tb_X} {A B A0 B0 : tb_H} {K : Int → tb_H → Prop} {Kv : tb_H → Prop}
variable {n : Int} {b : Nat} {N : Int}
def te_Xq (b : Nat) (A A' : tb_H) : Prop := te_fc b A A' ∧ A'.1 1 10 = A.1 1 10 ∧ A'.1 1 11 = A.1 1 11
theorem te_Xq.refl : te_Xq b A A := ⟨te_fc.refl, rfl, rfl⟩
theorem te_Xq.trans {A1 A2 : tb_H} (h : te_Xq b A A1) (g : te_Xq b A1 A2) : te_Xq b A A2 := ⟨h.1.trans g.1, g.2.1.trans h.2.1, g.2.2.trans h.2.2⟩
theorem te26x (f : A.1 1 10 ≠ 0) {x : Int} : tb_Cv X 26 [tb_r 1, tb_i x] A Kv = Kv A := tb_dev (q26 ⟨fun q => absurd q f, fun _ => rfl⟩)
theorem te34x {v : Int} : ∃ A', (∀ K : tb_H → Prop, K A' → tb_Cv X 34 [tb_r 1, tb_i v] A K) ∧ te_Xq b A A' := by
  by_cases h0 : A.1 1 9 < 0
  · exact ⟨A, fun K k => q34 ⟨fun _ => k, fun q => absurd q (by omega)⟩, te_Xq.refl⟩
  · by_cases h6 : A.1 1 9 < 6
    · refine ⟨tb_upI (tb_upI A 3 (A.1 1 9) v) 1 9 (tb_w (A.1 1 9 + 1)), fun K k => q34 ⟨fun q => absurd q h0, fun _ => ⟨fun _ => k, fun q => absurd q (by omega)⟩⟩, te_fc.upI (te_fc.upI te_fc.refl rfl) rfl, ?_, ?_⟩
      · rw [tb_uI_k (by decide), td_upo (by decide)]
      · rw [tb_uI_k (by decide), td_upo (by decide)]
    · exact ⟨A, fun K k => q34 ⟨fun _ => k, fun _ => ⟨fun q => absurd q h6, fun _ => k⟩⟩, te_Xq.refl⟩
theorem te37x (hb : tb_isB b) (n4 : A.1 b 4 = N) (n22 : 0 ≤ N ∧ N ≤ 22) {c v : Int} : ∃ A', (∀ K : tb_H → Prop, K A' → tb_Cv X 37 [tb_r b, tb_j c, tb_i v] A K) ∧ te_Xq b A A' := by
  have b5 := te_b5 hb
  by_cases h : N < 22
  · refine ⟨_, fun K k => by rw [te37 hb n4 n22.1 h]; exact k, te_fc.upI (te_fc.upI (te_fc.upL te_fc.refl te_Sbb.2.2.2.1) (by rw [te_Sbb.2.2.2.2]; rfl)) (by rw [te_Sbb.1]; rfl), ?_, ?_⟩
    · rw [td_upo (by omega), td_upo (by omega)]; rfl
    · rw [td_upo (by omega), td_upo (by omega)]; rfl
  · exact ⟨A, fun K k => q37 hb ⟨fun _ => k, fun _ => ⟨fun _ => k, fun q => absurd q (by omega)⟩⟩, te_Xq.refl⟩
theorem te35x (hb : tb_isB b) (f : A.1 1 10 ≠ 0) (n4 : A.1 b 4 = N) (n22 : 0 ≤ N ∧ N ≤ 22) : ∃ A', (∀ K : tb_H → Prop, K A' → tb_Cv X 35 [tb_r 1, tb_r b] A K) ∧ te_Xq b A A' := by
  by_cases k1 : A.1 1 5 = 1
  · by_cases v : te_fst te_L (A.2.1 1 7) = -1
    · by_cases t : te_find (A.2.1 (b + 3)) (A.2.1 1 7) N.toNat 0 = -1
      · by_cases s2 : A.1 1 8 = 2
        · obtain ⟨A', h, q⟩ := te37x (X := X) hb n4 n22 (c := A.2.1 1 7) (v := A.1 (b + 1) 2)
          refine ⟨A', fun K k => q35 hb ⟨fun z => absurd k1 z, fun _ => ?_⟩, q⟩
          rw [e18, if_pos k1, v, te36 hb n4 n22, if_pos t]
          refine ⟨fun _ => ⟨fun _ => ⟨fun z => absurd s2 z, fun _ => ?_⟩, fun z => absurd rfl z⟩, fun z => absurd rfl z⟩
          rw [e28g hb (by decide) (by decide)]
          exact h K k
        · obtain ⟨A', h, q⟩ := te37x (X := X) hb n4 n22 (c := A.2.1 1 7) (v := -1)
          refine ⟨A', fun K k => q35 hb ⟨fun z => absurd k1 z, fun _ => ?_⟩, q⟩
          rw [e18, if_pos k1, v, te36 hb n4 n22, if_pos t]
          exact ⟨fun _ => ⟨fun _ => ⟨fun _ => h K k, fun z => absurd z s2⟩, fun z => absurd rfl z⟩, fun z => absurd rfl z⟩
      · refine ⟨A, fun K k => q35 hb ⟨fun z => absurd k1 z, fun _ => ?_⟩, te_Xq.refl⟩
        rw [e18, if_pos k1, v, te36 hb n4 n22, if_neg t, te26x f]
        exact ⟨fun _ => ⟨fun z => absurd z (by decide), fun _ => k⟩, fun z => absurd rfl z⟩
    · refine ⟨A, fun K k => q35 hb ⟨fun z => absurd k1 z, fun _ => ?_⟩, te_Xq.refl⟩
      rw [e18, if_pos k1, te26x f]
      exact ⟨fun z => absurd z v, fun _ => k⟩
  · refine ⟨A, fun K k => q35 hb ⟨fun _ => ?_, fun z => absurd z k1⟩, te_Xq.refl⟩
    rw [te26x f]
    exact k
theorem te38x (hb : tb_isB b) (f : A.1 1 10 ≠ 0) (n4 : A.1 b 4 = N) (n22 : 0 ≤ N ∧ N ≤ 22) {c : Nat} (hc : A.1 (b + 1) 8 = c) (c8 : c ≤ 8) : ∃ A', (∀ K : tb_H → Prop, K A' → tb_Cv X 38 [tb_r 1, tb_r b] A K) ∧ te_Xq b A A' := by
  obtain ⟨w, hw⟩ : ∃ w, (if te_find (A.2.1 (b + 3)) (A.2.1 1 7) N.toNat 0 = -1 then -1 else A.1 (b + 4) (te_find (A.2.1 (b + 3)) (A.2.1 1 7) N.toNat 0)) = w := ⟨_, rfl⟩
  by_cases k1 : A.1 1 5 = 1
  · by_cases v : te_fst te_L (A.2.1 1 7) = -1
    · by_cases w1 : w = -1
      · refine ⟨A, fun K k => q38 hb ?_, te_Xq.refl⟩
        rw [te39 hb n4 n22, hw]
        refine ⟨fun z => absurd k1 z, fun _ => ?_⟩
        rw [e18, if_pos k1, v, te26x f, te26x f]
        exact ⟨fun _ => ⟨fun z => absurd w1 z, fun _ => k⟩, fun _ => k⟩
      · by_cases s8 : A.1 1 8 = 8
        · by_cases t : te_fs (fun j => A.1 (b + 2) ((8 * 8 + j) * 6 + 0)) c 0 w = 0
          · obtain ⟨A', h, q⟩ := te34x (X := X) (A := A) (b := b) (v := w)
            refine ⟨A', fun K k => q38 hb ?_, q⟩
            rw [te39 hb n4 n22, hw]
            refine ⟨fun z => absurd k1 z, fun _ => ?_⟩
            rw [e18, if_pos k1, v]
            refine ⟨fun _ => ⟨fun _ => ⟨fun z => absurd s8 z, fun _ => ?_⟩, fun z => absurd z w1⟩, fun z => absurd rfl z⟩
            rw [te40 hb hc c8 (fun j _ _ => rfl), t]
            exact ⟨fun _ => h K k, fun z => absurd rfl z⟩
          · refine ⟨A, fun K k => q38 hb ?_, te_Xq.refl⟩
            rw [te39 hb n4 n22, hw]
            refine ⟨fun z => absurd k1 z, fun _ => ?_⟩
            rw [e18, if_pos k1, v]
            refine ⟨fun _ => ⟨fun _ => ⟨fun z => absurd s8 z, fun _ => ?_⟩, fun z => absurd z w1⟩, fun z => absurd rfl z⟩
            rw [te40 hb hc c8 (fun j _ _ => rfl), te26x f]
            exact ⟨fun z => absurd z t, fun _ => k⟩
        · obtain ⟨A', h, q⟩ := te34x (X := X) (A := A) (b := b) (v := w)
          refine ⟨A', fun K k => q38 hb ?_, q⟩
          rw [te39 hb n4 n22, hw]
          refine ⟨fun z => absurd k1 z, fun _ => ?_⟩
          rw [e18, if_pos k1, v]
          exact ⟨fun _ => ⟨fun _ => ⟨fun _ => h K k, fun z => absurd z s8⟩, fun z => absurd z w1⟩, fun z => absurd rfl z⟩
    · refine ⟨A, fun K k => q38 hb ?_, te_Xq.refl⟩
      rw [te39 hb n4 n22, hw]
      refine ⟨fun z => absurd k1 z, fun _ => ?_⟩
      rw [e18, if_pos k1]
      refine ⟨fun z => absurd z v, fun _ => ?_⟩
      rw [te26x f]
      exact k
  · refine ⟨A, fun K k => q38 hb ?_, te_Xq.refl⟩
    rw [te39 hb n4 n22, hw]
    refine ⟨fun _ => ?_, fun z => absurd z k1⟩
    rw [te26x f]
    exact k
theorem te30n (hb : tb_isB b) (f : A.1 1 10 ≠ 0) (n4 : A.1 b 4 = N) (n22 : 0 ≤ N ∧ N ≤ 22) {w kb nw : Nat} (hs : te_str w kb nw) (n1 : 1 ≤ nw) (h0 : tb_cI kb 0 = 64) : ∃ A', (∀ K : tb_H → Prop, K A' → tb_Cv X 30 [tb_r 1, tb_r b, tb_r w] A K) ∧ te_Xq b A A' := by
  obtain ⟨A', h, q⟩ := te35x (X := X) hb f n4 n22
  refine ⟨A', fun K k => q30 hb hs.1 hs.2.1 (q30_5 hb hs.1 hs.2.1 ?_), q⟩
  rw [te19 hs]
  refine ⟨fun z => absurd z (by omega), fun _ => ⟨fun _ => ?_, fun z => absurd z (by decide)⟩⟩
  rw [te21 hs (by decide) (by omega), h0]
  exact ⟨fun _ => ⟨fun z => absurd rfl z, fun _ => h _ ⟨fun z => absurd (q.2.1 ▸ z) f, fun _ => k⟩⟩, fun z => absurd z (by decide)⟩
theorem te30s (hb : tb_isB b) (f : A.1 1 10 ≠ 0) (n4 : A.1 b 4 = N) (n22 : 0 ≤ N ∧ N ≤ 22) {c : Nat} (hc : A.1 (b + 1) 8 = c) (c8 : c ≤ 8) {w kb nw : Nat} (hs : te_str w kb nw) (n1 : 1 ≤ nw) (h0 : tb_cI kb 0 = 36) : ∃ A', (∀ K : tb_H → Prop, K A' → tb_Cv X 30 [tb_r 1, tb_r b, tb_r w] A K) ∧ te_Xq b A A' := by
  obtain ⟨A', h, q⟩ := te38x (X := X) hb f n4 n22 hc c8
  refine ⟨A', fun K k => q30 hb hs.1 hs.2.1 (q30_5 hb hs.1 hs.2.1 ?_), q⟩
  rw [te19 hs]
  refine ⟨fun z => absurd z (by omega), fun _ => ⟨fun _ => ?_, fun z => absurd z (by decide)⟩⟩
  rw [te21 hs (by decide) (by omega), h0]
  exact ⟨fun _ => ⟨fun _ => ⟨fun z => absurd rfl z, fun _ => h _ ⟨fun z => absurd (q.2.1 ▸ z) f, fun _ => k⟩⟩, fun z => absurd z (by decide)⟩, fun z => absurd z (by decide)⟩
theorem te30w (hb : tb_isB b) (f : A.1 1 10 ≠ 0) {w kb nw : Nat} (hs : te_str w kb nw) {e : Int} (e0 : 0 ≤ e) (e1 : e ≤ nw) (e8 : e ≤ 8) (n1 : 1 ≤ nw) (h0 : 97 ≤ tb_cI kb 0) (hl : ∀ k, 0 ≤ k → k < e → 97 ≤ tb_cI kb k ∧ tb_cI kb k ≤ 122) (he : e < nw → ¬ (97 ≤ tb_cI kb e ∧ tb_cI kb e ≤ 122)) : tb_Cv X 30 [tb_r 1, tb_r b, tb_r w] A Kv = Kv A := by
  refine tb_dev (q30 hb hs.1 hs.2.1 (q30_5 hb hs.1 hs.2.1 ?_))
  rw [te19 hs]
  refine ⟨fun z => absurd z (by omega), fun _ => ⟨fun _ => ?_, fun z => absurd z (by decide)⟩⟩
  rw [te21 hs (by decide) (by omega)]
  refine ⟨fun _ => ⟨fun _ => ⟨fun _ => ⟨fun _ => ?_, fun z => absurd z (by omega)⟩, fun z => absurd z (by omega)⟩, fun z => absurd z (by omega)⟩, fun z => absurd z (by omega)⟩
  rw [e44 hs (by decide) e0 e1 hl he, e45 hs (by decide) e0 e1 (by omega) hl, te26x f]
  split
  · exact ⟨fun z => absurd z f, fun _ => rfl⟩
  · exact ⟨fun z => absurd z f, fun _ => rfl⟩
theorem te_fstr (c : Int) : te_fst te_L c = -1 ∨ te_fst te_L c = 0 ∨ te_fst te_L c = 1 ∨ te_fst te_L c = 2 ∨ te_fst te_L c = 3 ∨ te_fst te_L c = 4 ∨ te_fst te_L c = 5 ∨ te_fst te_L c = 6 ∨ te_fst te_L c = 7 ∨ te_fst te_L c = 8 ∨ te_fst te_L c = 9 := by
  rw [te_fst_eq]
  (repeat' split) <;> simp
theorem te17r (hb : tb_isB b) (f : A.1 1 10 ≠ 0) {v s : Int} (hv : (if A.1 1 5 = 1 then te_fst te_L (A.2.1 1 7) else -1) = v) (v0 : 0 ≤ v) (hs : (if 8 < v then 8 else v) = s) (s0 : 0 ≤ s) (s1 : s < 9) {A2 : tb_H} (c2 : ∀ K : tb_H → Prop, K A2 → tb_Cv X 10 [tb_r 1] (tb_upI (tb_upI A 1 8 s) 1 9 0) K) (q2 : te_Xq b A A2) {w : Nat} (h29 : ∀ K : tb_V → tb_H → Prop, K (tb_r w) A2 → tb_Cr X 29 [tb_i v] A2 K) {A3 : tb_H} (h30 : ∀ K : tb_H → Prop, K A3 → tb_Cv X 30 [tb_r 1, tb_r b, tb_r w] A2 K) (q3 : te_Xq b A2 A3) : ∃ A', (∀ K : tb_H → Prop, K A' → tb_Cv X 17 [tb_r 1, tb_r b] A K) ∧ te_Xq b A A' := by
  have b5 := te_b5 hb
  by_cases room : A.1 (b + 1) s < te_room s
  · refine ⟨A3, fun K k => te17y hb hv v0 hs s0 s1 room rfl c2 h29 (h30 _ ⟨fun z => absurd ((q3.2.1.trans q2.2.1) ▸ z) f, fun _ => k⟩), q2.trans q3⟩
  · refine ⟨tb_upI A 1 8 s, fun K k => q17 hb ?_, te_fc.upI te_fc.refl rfl, by rw [tb_uI_k (by decide)], by rw [tb_uI_k (by decide)]⟩
    rw [e18, hv]
    refine ⟨fun _ => ?_, fun q => absurd q (by omega)⟩
    rw [hs, te27 hb s0 s1 (c := A.1 (b + 1) s) (by rw [td_upo (by omega)]), if_neg room]
    refine ⟨fun q => absurd q (by decide), fun _ => ?_⟩
    rw [te26x (by rw [tb_uI_k (by decide)]; exact f)]
    exact k
theorem te17x (hb : tb_isB b) (f : A.1 1 10 ≠ 0) (n4 : A.1 b 4 = N) (n22 : 0 ≤ N ∧ N ≤ 22) {c : Nat} (hc : A.1 (b + 1) 8 = c) (c8 : c ≤ 8) (T : te_tp n A B) (h4 : A.1 1 5 = 1 → A.1 1 4 = B.1 77 5 ∧ 0 ≤ A.1 1 4 ∧ A.1 1 4 ≤ n) : ∃ A', (∀ K : tb_H → Prop, K A' → tb_Cv X 17 [tb_r 1, tb_r b] A K) ∧ te_Xq b A A' := by
  have b5 := te_b5 hb
  by_cases k1 : A.1 1 5 = 1
  · have h4 := h4 k1
    have nx : ∀ s : Int, ∃ A2, (∀ K : tb_H → Prop, K A2 → tb_Cv X 10 [tb_r 1] (tb_upI (tb_upI A 1 8 s) 1 9 0) K) ∧ te_Xq b A A2 ∧ A2.1 b 4 = N ∧ A2.1 (b + 1) 8 = c := by
      intro s
      have o1 : ∀ k, k ≠ 8 → k ≠ 9 → (tb_upI (tb_upI A 1 8 s) 1 9 0).1 1 k = A.1 1 k := fun k h8 h9 => by rw [tb_uI_k h9, tb_uI_k h8]
      have oo : ∀ o, o ≠ 1 → (tb_upI (tb_upI A 1 8 s) 1 9 0).1 o = A.1 o := fun o h1 => by rw [td_upo h1, td_upo h1]
      have T' : te_tp n (tb_upI (tb_upI A 1 8 s) 1 9 0) B := by
        unfold te_tp at T ⊢
        rw [o1 3 (by decide) (by decide), oo 2 (by decide)]
        exact T
      obtain ⟨A2, B2, h, _, g1, _⟩ := te_next (X := X) T' (by rw [o1 4 (by decide) (by decide)]; exact h4.1) (by rw [o1 4 (by decide) (by decide)]; exact h4.2.1) (by rw [o1 4 (by decide) (by decide)]; exact h4.2.2)
      refine ⟨A2, h, ⟨(te_fc.upI (te_fc.upI te_fc.refl rfl) rfl).trans g1.c, ?_, ?_⟩, ?_, ?_⟩
      · rw [g1.2.1 10 (by decide) (by decide) (by decide), o1 10 (by decide) (by decide)]
      · rw [g1.2.1 11 (by decide) (by decide) (by decide), o1 11 (by decide) (by decide)]
      · rw [g1.1 b 4 (by omega), oo b (by omega), n4]
      · rw [g1.1 (b + 1) 8 (by omega), oo (b + 1) (by omega), hc]
    rcases te_fstr (A.2.1 1 7) with v | v | v | v | v | v | v | v | v | v | v
    · refine ⟨A, fun K k => q17 hb ?_, te_Xq.refl⟩
      rw [e18, if_pos k1, v, te26x f]
      exact ⟨fun z => absurd rfl z, fun _ => k⟩
    · obtain ⟨A2, c2, q2, m2, k2⟩ := nx 0
      obtain ⟨A3, h3, q3⟩ := (⟨A2, fun K k => by rw [te30w hb (by rw [q2.2.1]; exact f) te_g109 (e := 4) (by decide) (by decide) (by decide) (by decide) (by decide +kernel) (te_rgp (P := fun k => 97 ≤ tb_cI 110 k ∧ tb_cI 110 k ≤ 122) (by decide +kernel)) (fun _ => by decide +kernel)]; exact k, te_Xq.refl⟩ : ∃ A3, (∀ K : tb_H → Prop, K A3 → tb_Cv X 30 [tb_r 1, tb_r b, tb_r 109] A2 K) ∧ te_Xq b A2 A3)
      exact te17r hb f (v := 0) (s := 0) (by rw [if_pos k1, v]) (by decide) (by decide) (by decide) (by decide) c2 q2 (fun K k => q29 ⟨fun _ => k, fun q => absurd q (by decide), fun q => absurd q (by decide), fun q => absurd q (by decide), fun q => absurd q (by decide), fun q => absurd q (by decide), fun q => absurd q (by decide), fun q => absurd q (by decide), fun q => absurd q (by decide)⟩) h3 q3
    · obtain ⟨A2, c2, q2, m2, k2⟩ := nx 1
      obtain ⟨A3, h3, q3⟩ := (⟨A2, fun K k => by rw [te30w hb (by rw [q2.2.1]; exact f) te_g111 (e := 2) (by decide) (by decide) (by decide) (by decide) (by decide +kernel) (te_rgp (P := fun k => 97 ≤ tb_cI 112 k ∧ tb_cI 112 k ≤ 122) (by decide +kernel)) (fun _ => by decide +kernel)]; exact k, te_Xq.refl⟩ : ∃ A3, (∀ K : tb_H → Prop, K A3 → tb_Cv X 30 [tb_r 1, tb_r b, tb_r 111] A2 K) ∧ te_Xq b A2 A3)
      exact te17r hb f (v := 1) (s := 1) (by rw [if_pos k1, v]) (by decide) (by decide) (by decide) (by decide) c2 q2 (fun K k => q29 ⟨fun q => absurd q (by decide), fun _ => k, fun q => absurd q (by decide), fun q => absurd q (by decide), fun q => absurd q (by decide), fun q => absurd q (by decide), fun q => absurd q (by decide), fun q => absurd q (by decide), fun q => absurd q (by decide)⟩) h3 q3
    · obtain ⟨A2, c2, q2, m2, k2⟩ := nx 2
      obtain ⟨A3, h3, q3⟩ := te30n (X := X) hb (by rw [q2.2.1]; exact f) m2 n22 te_g113 (by decide) (by decide +kernel)
      exact te17r hb f (v := 2) (s := 2) (by rw [if_pos k1, v]) (by decide) (by decide) (by decide) (by decide) c2 q2 (fun K k => q29 ⟨fun q => absurd q (by decide), fun q => absurd q (by decide), fun _ => k, fun q => absurd q (by decide), fun q => absurd q (by decide), fun q => absurd q (by decide), fun q => absurd q (by decide), fun q => absurd q (by decide), fun q => absurd q (by decide)⟩) h3 q3
    · obtain ⟨A2, c2, q2, m2, k2⟩ := nx 3
      obtain ⟨A3, h3, q3⟩ := te30n (X := X) hb (by rw [q2.2.1]; exact f) m2 n22 te_g115 (by decide) (by decide +kernel)
      exact te17r hb f (v := 3) (s := 3) (by rw [if_pos k1, v]) (by decide) (by decide) (by decide) (by decide) c2 q2 (fun K k => q29 ⟨fun q => absurd q (by decide), fun q => absurd q (by decide), fun q => absurd q (by decide), fun _ => k, fun q => absurd q (by decide), fun q => absurd q (by decide), fun q => absurd q (by decide), fun q => absurd q (by decide), fun q => absurd q (by decide)⟩) h3 q3
    · obtain ⟨A2, c2, q2, m2, k2⟩ := nx 4
      obtain ⟨A3, h3, q3⟩ := te30n (X := X) hb (by rw [q2.2.1]; exact f) m2 n22 te_g117 (by decide) (by decide +kernel)
      exact te17r hb f (v := 4) (s := 4) (by rw [if_pos k1, v]) (by decide) (by decide) (by decide) (by decide) c2 q2 (fun K k => q29 ⟨fun q => absurd q (by decide), fun q => absurd q (by decide), fun q => absurd q (by decide), fun q => absurd q (by decide), fun _ => k, fun q => absurd q (by decide), fun q => absurd q (by decide), fun q => absurd q (by decide), fun q => absurd q (by decide)⟩) h3 q3
    · obtain ⟨A2, c2, q2, m2, k2⟩ := nx 5
      obtain ⟨A3, h3, q3⟩ := (⟨A2, fun K k => by rw [te30w hb (by rw [q2.2.1]; exact f) te_g119 (e := 2) (by decide) (by decide) (by decide) (by decide) (by decide +kernel) (te_rgp (P := fun k => 97 ≤ tb_cI 120 k ∧ tb_cI 120 k ≤ 122) (by decide +kernel)) (fun _ => by decide +kernel)]; exact k, te_Xq.refl⟩ : ∃ A3, (∀ K : tb_H → Prop, K A3 → tb_Cv X 30 [tb_r 1, tb_r b, tb_r 119] A2 K) ∧ te_Xq b A2 A3)
      exact te17r hb f (v := 5) (s := 5) (by rw [if_pos k1, v]) (by decide) (by decide) (by decide) (by decide) c2 q2 (fun K k => q29 ⟨fun q => absurd q (by decide), fun q => absurd q (by decide), fun q => absurd q (by decide), fun q => absurd q (by decide), fun q => absurd q (by decide), fun _ => k, fun q => absurd q (by decide), fun q => absurd q (by decide), fun q => absurd q (by decide)⟩) h3 q3
    · obtain ⟨A2, c2, q2, m2, k2⟩ := nx 6
      obtain ⟨A3, h3, q3⟩ := (⟨A2, fun K k => by rw [te30w hb (by rw [q2.2.1]; exact f) te_g121 (e := 2) (by decide) (by decide) (by decide) (by decide) (by decide +kernel) (te_rgp (P := fun k => 97 ≤ tb_cI 122 k ∧ tb_cI 122 k ≤ 122) (by decide +kernel)) (fun _ => by decide +kernel)]; exact k, te_Xq.refl⟩ : ∃ A3, (∀ K : tb_H → Prop, K A3 → tb_Cv X 30 [tb_r 1, tb_r b, tb_r 121] A2 K) ∧ te_Xq b A2 A3)
      exact te17r hb f (v := 6) (s := 6) (by rw [if_pos k1, v]) (by decide) (by decide) (by decide) (by decide) c2 q2 (fun K k => q29 ⟨fun q => absurd q (by decide), fun q => absurd q (by decide), fun q => absurd q (by decide), fun q => absurd q (by decide), fun q => absurd q (by decide), fun q => absurd q (by decide), fun _ => k, fun q => absurd q (by decide), fun q => absurd q (by decide)⟩) h3 q3
    · obtain ⟨A2, c2, q2, m2, k2⟩ := nx 7
      obtain ⟨A3, h3, q3⟩ := te30n (X := X) hb (by rw [q2.2.1]; exact f) m2 n22 te_g123 (by decide) (by decide +kernel)
      exact te17r hb f (v := 7) (s := 7) (by rw [if_pos k1, v]) (by decide) (by decide) (by decide) (by decide) c2 q2 (fun K k => q29 ⟨fun q => absurd q (by decide), fun q => absurd q (by decide), fun q => absurd q (by decide), fun q => absurd q (by decide), fun q => absurd q (by decide), fun q => absurd q (by decide), fun q => absurd q (by decide), fun _ => k, fun q => absurd q (by decide)⟩) h3 q3
    · obtain ⟨A2, c2, q2, m2, k2⟩ := nx 8
      obtain ⟨A3, h3, q3⟩ := te30s (X := X) hb (by rw [q2.2.1]; exact f) m2 n22 k2 c8 te_g125 (by decide) (by decide +kernel)
      exact te17r hb f (v := 8) (s := 8) (by rw [if_pos k1, v]) (by decide) (by decide) (by decide) (by decide) c2 q2 (fun K k => q29 ⟨fun q => absurd q (by decide), fun q => absurd q (by decide), fun q => absurd q (by decide), fun q => absurd q (by decide), fun q => absurd q (by decide), fun q => absurd q (by decide), fun q => absurd q (by decide), fun q => absurd q (by decide), fun _ => k⟩) h3 q3
    · obtain ⟨A2, c2, q2, m2, k2⟩ := nx 8
      obtain ⟨A3, h3, q3⟩ := te30s (X := X) hb (by rw [q2.2.1]; exact f) m2 n22 k2 c8 te_g125 (by decide) (by decide +kernel)
      exact te17r hb f (v := 9) (s := 8) (by rw [if_pos k1, v]) (by decide) (by decide) (by decide) (by decide) c2 q2 (fun K k => q29 ⟨fun q => absurd q (by decide), fun q => absurd q (by decide), fun q => absurd q (by decide), fun q => absurd q (by decide), fun q => absurd q (by decide), fun q => absurd q (by decide), fun q => absurd q (by decide), fun q => absurd q (by decide), fun _ => k⟩) h3 q3
  · refine ⟨A, fun K k => q17 hb ?_, te_Xq.refl⟩
    rw [e18, if_neg k1, te26x f]
    exact ⟨fun z => absurd rfl z, fun _ => k⟩
end TEFAIL
