/-! READER 13: a line -/
section TELINE
variable {X : tb_X} {A B A0 B0 : tb_H} {K : Int → tb_H → Prop} {Kv : tb_H → Prop}
variable {n : Int} {b : Nat} {a0 sort N cs m : Int} {vs rho : Int → Int}
/-- a line is read by both -/
def te_QL (X : tb_X) (n : Int) (b : Nat) (A B : tb_H) : Prop := ∃ A' B', (∀ K : tb_H → Prop, K A' → tb_Cv X 17 [tb_r 1, tb_r b] A K) ∧ (∀ K : tb_H → Prop, K B' → tb_Cv X 208 [tb_r 77] B K) ∧ te_fc b A A' ∧ te_fm B B' ∧ (te_Fl A' B' ∨ ((∃ N', te_L0 n b N' A' B') ∧ (A'.1 1 5 = 4 ∨ A'.1 1 5 = 0 ∨ A.1 1 4 ≤ A'.1 1 4)))
theorem te209n {w kb nw : Nat} (h : te_ws w kb nw) (f : B.1 77 13 = 0) (t : B.1 77 6 = 2) {c : Int} (wd : te_wd (B.1 79) (B.1 77 8) c) (ne : te_code (tb_cI kb) nw ≠ c) {x2 x3 x4 : Int} (k : K 0 B) : tb_Ci X 209 [tb_r 77, tb_r w, tb_i x2, tb_i x3, tb_i x4] B K := by
  refine q209 h.1.1 h.1.2.1 ?_
  rw [te210 h f t wd, if_neg (fun q => ne q.symm)]
  exact ⟨fun q => absurd rfl q, fun _ => k⟩
theorem te209t {w kb nw : Nat} (h : te_ws w kb nw) (t : B.1 77 6 ≠ 2) {x2 x3 x4 : Int} (k : K 0 B) : tb_Ci X 209 [tb_r 77, tb_r w, tb_i x2, tb_i x3, tb_i x4] B K := by
  refine q209 h.1.1 h.1.2.1 ?_
  rw [te210f h.1 (Or.inr t)]
  exact ⟨fun q => absurd rfl q, fun _ => k⟩
theorem te209y {w kb nw : Nat} (h : te_ws w kb nw) (f : B.1 77 13 = 0) (t : B.1 77 6 = 2) {c : Int} (wd : te_wd (B.1 79) (B.1 77 8) c) (e : te_code (tb_cI kb) nw = c) {x2 x3 x4 : Int} (ne : x2 ≠ x3) (k : tb_Cv X 204 [tb_r 77] B (fun B' => K 1 B')) : tb_Ci X 209 [tb_r 77, tb_r w, tb_i x2, tb_i x3, tb_i x4] B K := by
  refine q209 h.1.1 h.1.2.1 ?_
  rw [te210 h f t wd, if_pos e.symm]
  exact ⟨fun _ => ⟨fun _ => ⟨fun q => absurd f q, fun _ => k⟩, fun q => absurd q ne⟩, fun q => absurd q (by decide)⟩
theorem te209e {w kb nw : Nat} (h : te_ws w kb nw) (f : B.1 77 13 = 0) (t : B.1 77 6 = 2) {c : Int} (wd : te_wd (B.1 79) (B.1 77 8) c) (e : te_code (tb_cI kb) nw = c) {x2 x3 x4 : Int} (eq : x2 = x3) (k : K 1 (te_F2 B x4 (B.1 77 4))) : tb_Ci X 209 [tb_r 77, tb_r w, tb_i x2, tb_i x3, tb_i x4] B K := by
  refine q209 h.1.1 h.1.2.1 ?_
  rw [te210 h f t wd, if_pos e.symm]
  refine ⟨fun _ => ⟨fun q => absurd eq q, fun _ => ?_⟩, fun q => absurd q (by decide)⟩
  rw [te211 f]
  refine ⟨fun _ => k, fun q => absurd q ?_⟩
  rw [tb_uI_k (by decide), tb_uI_k (by decide), tb_uI_s]
  decide
theorem te_start (hb : tb_isB b) (L0 : te_L0 n b N A B) (h4 : A.1 1 4 = B.1 77 5 ∧ 0 ≤ A.1 1 4 ∧ A.1 1 4 ≤ n) (s : Int) :
    ∃ A2 B2, (∀ K : tb_H → Prop, K A2 → tb_Cv X 10 [tb_r 1] (tb_upI (tb_upI A 1 8 s) 1 9 0) K) ∧ (∀ K : tb_H → Prop, K B2 → tb_Cv X 204 [tb_r 77] B K) ∧ te_Sl n b (A.1 1 4) s N (B.1 81 112) 0 (fun _ => 0) (B.1 81) A B A2 B2 ∧ (A2.1 1 10 = 0 ∧ B2.1 77 13 = 0) ∧ ∀ k, k < 119 → B2.1 81 k = B.1 81 k := by
  have b5 := te_b5 hb
  obtain ⟨f0, T, tk, nm, hN, rb, bb⟩ := L0
  have o1 : ∀ k, k ≠ 8 → k ≠ 9 → (tb_upI (tb_upI A 1 8 s) 1 9 0).1 1 k = A.1 1 k := fun k h8 h9 => by rw [tb_uI_k h9, tb_uI_k h8]
  have oo : ∀ o, o ≠ 1 → (tb_upI (tb_upI A 1 8 s) 1 9 0).1 o = A.1 o := fun o h1 => by rw [td_upo h1, td_upo h1]
  have oL : (tb_upI (tb_upI A 1 8 s) 1 9 0).2.1 = A.2.1 := rfl
  have T' : te_tp n (tb_upI (tb_upI A 1 8 s) 1 9 0) B := by
    unfold te_tp at T ⊢
    rw [o1 3 (by decide) (by decide), oo 2 (by decide)]
    exact T
  have nm' : te_Nm b N (B.1 81 112) (tb_upI (tb_upI A 1 8 s) 1 9 0) B := by
    unfold te_Nm at nm ⊢
    rw [oo b (by omega), oo (b + 4) (by omega), oL]
    exact nm
  obtain ⟨A2, B2, c2, r2, s2, z1, z2⟩ := te_adv1 (X := X) (n := n) (N := N) (cs := B.1 81 112) (sort := s) (m := 0) (vs := fun _ => 0) (rho := B.1 81) (a0 := A.1 1 4) hb (A0 := A) (B0 := B) (te_fc.upI (te_fc.upI te_fc.refl rfl) rfl) (tb_fr.refl) T' ⟨by rw [o1 10 (by decide) (by decide)]; exact f0.1, f0.2⟩ (by rw [o1 4 (by decide) (by decide)]; exact h4) ⟨by rw [tb_uI_k (by decide), tb_uI_s], by rw [tb_uI_s], fun k k0 k1 => by omega⟩ nm' (fun _ _ => rfl) ⟨oo (b + 1) (by omega), oo (b + 2) (by omega)⟩ (by rw [o1 4 (by decide) (by decide)]; exact Int.le_refl _) b5.1
  refine ⟨A2, B2, c2, r2, s2, ⟨z1, z2⟩, ?_⟩
  obtain ⟨_, _, fl | LN⟩ := s2
  · exact absurd z1 fl.1
  · exact LN.2.2.2.2.2.1
theorem te17n (hb : tb_isB b) (f : A.1 1 10 = 0) (h : (if A.1 1 5 = 1 then te_fst te_L (A.2.1 1 7) else -1) = -1) (k : Kv (te_F1 A 1)) : tb_Cv X 17 [tb_r 1, tb_r b] A Kv := by
  refine q17 hb ?_
  rw [e18, h]
  refine ⟨fun q => absurd rfl q, fun _ => ?_⟩
  rw [te26 f]
  exact k
theorem te17f (hb : tb_isB b) (f : A.1 1 10 = 0) {v s x : Int} (hv : (if A.1 1 5 = 1 then te_fst te_L (A.2.1 1 7) else -1) = v) (v0 : 0 ≤ v) (hs : (if 8 < v then 8 else v) = s) (s0 : 0 ≤ s) (s1 : s < 9) (full : ¬ A.1 (b + 1) s < te_room s) (hx : x = if 1 < s then 5 else 3) (k : Kv (te_F1 (tb_upI A 1 8 s) x)) : tb_Cv X 17 [tb_r 1, tb_r b] A Kv := by
  have b5 := te_b5 hb
  refine q17 hb ?_
  rw [e18, hv]
  refine ⟨fun _ => ?_, fun q => absurd q (by omega)⟩
  rw [hs, te27 hb s0 s1 (c := A.1 (b + 1) s) (by rw [td_upo (by omega)]), if_neg full]
  refine ⟨fun q => absurd q (by decide), fun _ => ?_⟩
  rw [tb_uI_s, ← hx, te26 (by rw [tb_uI_k (by decide)]; exact f)]
  exact k
theorem te17y (hb : tb_isB b) {v s y : Int} {w : Nat} (hv : (if A.1 1 5 = 1 then te_fst te_L (A.2.1 1 7) else -1) = v) (v0 : 0 ≤ v) (hs : (if 8 < v then 8 else v) = s) (s0 : 0 ≤ s) (s1 : s < 9) (room : A.1 (b + 1) s < te_room s) (hy : (if v ≠ 9 then 0 else 1) = y) {A2 : tb_H} (c2 : ∀ K : tb_H → Prop, K A2 → tb_Cv X 10 [tb_r 1] (tb_upI (tb_upI A 1 8 s) 1 9 0) K) (h29 : ∀ K : tb_V → tb_H → Prop, K (tb_r w) A2 → tb_Cr X 29 [tb_i v] A2 K) (k : tb_Cv X 30 [tb_r 1, tb_r b, tb_r w] A2 (fun A640 => te_aft X b y A640 Kv)) : tb_Cv X 17 [tb_r 1, tb_r b] A Kv := by
  have b5 := te_b5 hb
  refine q17 hb ?_
  rw [e18, hv]
  refine ⟨fun _ => ?_, fun q => absurd q (by omega)⟩
  rw [hs, te27 hb s0 s1 (c := A.1 (b + 1) s) (by rw [td_upo (by omega)]), if_pos room]
  refine ⟨fun _ => ?_, fun q => absurd rfl q⟩
  refine c2 _ (h29 _ ⟨w, rfl, ?_⟩)
  rw [hy]
  exact k
theorem te_FlL (f0 : A.1 1 10 = 0 ∧ B.1 77 13 = 0) (h6 : A.1 1 6 = B.1 77 4) {s x : Int} (hx : x ≠ 0) : te_fc b A (te_F1 (tb_upI A 1 8 s) x) ∧ te_fm B (te_F2 B x (B.1 77 4)) ∧ te_Fl (te_F1 (tb_upI A 1 8 s) x) (te_F2 B x (B.1 77 4)) := ⟨te_fc.upI (te_fc.upI (te_fc.upI te_fc.refl rfl) rfl) rfl, tb_fr.upI (tb_fr.upI (tb_fr.upI tb_fr.refl rfl) rfl) rfl, te_Fl.mk hx (by rw [tb_uI_k (by decide)]; exact h6)⟩
theorem te_lv0 (hb : tb_isB b) (L0 : te_L0 n b N A B) (k1 : A.1 1 5 = 1) (wk : B.1 77 6 = 2 ∧ te_wd (B.1 79) (B.1 77 8) (A.2.1 1 7)) (h4 : A.1 1 4 = B.1 77 5 ∧ 0 ≤ A.1 1 4 ∧ A.1 1 4 ≤ n)  (nv : te_code (tb_cI 128) 3 = A.2.1 1 7) : te_QL X n b A B := by
  have b5 := te_b5 hb
  have f0 := L0.1
  have h6 := L0.2.2.1.1
  have hv : (if A.1 1 5 = 1 then te_fst te_L (A.2.1 1 7) else -1) = 0 := by rw [if_pos k1, te_fst_eq, if_pos nv]
  have cc : 0 ≤ B.1 81 110 ∧ B.1 81 110 ≤ 1 := by have h := te_bbc L0.2.2.2.2.2.2 (z := 0) (by decide) (by decide); rw [te_r0] at h; exact h
  have cA : A.1 (b + 1) 0 = B.1 81 110 := L0.2.2.2.2.2.1.1 0 (by decide) (by decide)
  by_cases hf : B.1 81 110 = 1
  · have e := te_FlL (b := b) f0 h6 (s := 0) (x := 3) (by decide)
    exact ⟨_, _, fun K k => te17f hb f0.1 hv (by decide) (by decide) (by decide) (by decide) (by rw [cA, te_r0]; omega) (by decide) k, fun K k => q208 (te209e te_w127 f0.2 wk.1 wk.2 nv hf ⟨fun q => absurd q (by decide), fun _ => q212 ⟨fun q => absurd q (by rw [tb_uI_k (by decide), tb_uI_k (by decide), tb_uI_s]; decide), fun _ => k⟩⟩), e.1, e.2.1, Or.inl e.2.2⟩
  · obtain ⟨A2, B2, c2, r2, s2, f2, h81⟩ := te_start (X := X) hb L0 h4 0
    obtain ⟨A3, B3, lc, lr, q1, q2, q3⟩ := te_ln0 (X := X) hb (y := 0) L0 (by omega) s2 f2 h81
    exact ⟨A3, B3, fun K k => te17y hb hv (by decide) (by decide) (by decide) (by decide) (by rw [cA, te_r0]; omega) (by decide) c2 (fun K k => q29 ⟨fun _ => k, fun q => absurd q (by decide), fun q => absurd q (by decide), fun q => absurd q (by decide), fun q => absurd q (by decide), fun q => absurd q (by decide), fun q => absurd q (by decide), fun q => absurd q (by decide), fun q => absurd q (by decide)⟩) (lc K k), fun K k => q208 (te209y te_w127 f0.2 wk.1 wk.2 nv hf (r2 _ ⟨fun q => absurd q (by decide), fun _ => lr _ k⟩)), q1, q2, q3⟩
theorem te_lv1 (hb : tb_isB b) (L0 : te_L0 n b N A B) (k1 : A.1 1 5 = 1) (wk : B.1 77 6 = 2 ∧ te_wd (B.1 79) (B.1 77 8) (A.2.1 1 7)) (h4 : A.1 1 4 = B.1 77 5 ∧ 0 ≤ A.1 1 4 ∧ A.1 1 4 ≤ n) (n0 : te_code (tb_cI 128) 3 ≠ A.2.1 1 7) (nv : te_code (tb_cI 142) 6 = A.2.1 1 7) : te_QL X n b A B := by
  have b5 := te_b5 hb
  have f0 := L0.1
  have h6 := L0.2.2.1.1
  have hv : (if A.1 1 5 = 1 then te_fst te_L (A.2.1 1 7) else -1) = 1 := by rw [if_pos k1, te_fst_eq, if_neg n0, if_pos nv]
  have cc : 0 ≤ B.1 81 111 ∧ B.1 81 111 ≤ 1 := by have h := te_bbc L0.2.2.2.2.2.2 (z := 1) (by decide) (by decide); rw [te_r1] at h; exact h
  have cA : A.1 (b + 1) 1 = B.1 81 111 := L0.2.2.2.2.2.1.1 1 (by decide) (by decide)
  by_cases hf : B.1 81 111 = 1
  · have e := te_FlL (b := b) f0 h6 (s := 1) (x := 3) (by decide)
    exact ⟨_, _, fun K k => te17f hb f0.1 hv (by decide) (by decide) (by decide) (by decide) (by rw [cA, te_r1]; omega) (by decide) k, fun K k => q208 (te209n te_w127 f0.2 wk.1 wk.2 n0 ⟨fun _ => te209e te_w141 f0.2 wk.1 wk.2 nv hf ⟨fun q => absurd q (by decide), fun _ => q216 ⟨fun q => absurd q (by rw [tb_uI_k (by decide), tb_uI_k (by decide), tb_uI_s]; decide), fun _ => k⟩⟩, fun q => absurd rfl q⟩), e.1, e.2.1, Or.inl e.2.2⟩
  · obtain ⟨A2, B2, c2, r2, s2, f2, h81⟩ := te_start (X := X) hb L0 h4 1
    obtain ⟨A3, B3, lc, lr, q1, q2, q3⟩ := te_ln1 (X := X) hb (y := 0) L0 (by omega) s2 f2 h81
    exact ⟨A3, B3, fun K k => te17y hb hv (by decide) (by decide) (by decide) (by decide) (by rw [cA, te_r1]; omega) (by decide) c2 (fun K k => q29 ⟨fun q => absurd q (by decide), fun _ => k, fun q => absurd q (by decide), fun q => absurd q (by decide), fun q => absurd q (by decide), fun q => absurd q (by decide), fun q => absurd q (by decide), fun q => absurd q (by decide), fun q => absurd q (by decide)⟩) (lc K k), fun K k => q208 (te209n te_w127 f0.2 wk.1 wk.2 n0 ⟨fun _ => te209y te_w141 f0.2 wk.1 wk.2 nv hf (r2 _ ⟨fun q => absurd q (by decide), fun _ => lr _ k⟩), fun q => absurd rfl q⟩), q1, q2, q3⟩
theorem te_lv2 (hb : tb_isB b) (L0 : te_L0 n b N A B) (k1 : A.1 1 5 = 1) (wk : B.1 77 6 = 2 ∧ te_wd (B.1 79) (B.1 77 8) (A.2.1 1 7)) (h4 : A.1 1 4 = B.1 77 5 ∧ 0 ≤ A.1 1 4 ∧ A.1 1 4 ≤ n) (n0 : te_code (tb_cI 128) 3 ≠ A.2.1 1 7) (n1 : te_code (tb_cI 142) 6 ≠ A.2.1 1 7) (nv : te_code (tb_cI 148) 5 = A.2.1 1 7) : te_QL X n b A B := by
  have b5 := te_b5 hb
  have f0 := L0.1
  have h6 := L0.2.2.1.1
  have hv : (if A.1 1 5 = 1 then te_fst te_L (A.2.1 1 7) else -1) = 2 := by rw [if_pos k1, te_fst_eq, if_neg n0, if_neg n1, if_pos nv]
  have cc : 0 ≤ B.1 81 112 ∧ B.1 81 112 ≤ 8 := by have h := te_bbc L0.2.2.2.2.2.2 (z := 2) (by decide) (by decide); rw [te_r2] at h; exact h
  have cA : A.1 (b + 1) 2 = B.1 81 112 := L0.2.2.2.2.2.1.1 2 (by decide) (by decide)
  by_cases hf : B.1 81 112 = 8
  · have e := te_FlL (b := b) f0 h6 (s := 2) (x := 5) (by decide)
    exact ⟨_, _, fun K k => te17f hb f0.1 hv (by decide) (by decide) (by decide) (by decide) (by rw [cA, te_r2]; omega) (by decide) k, fun K k => q208 (te209n te_w127 f0.2 wk.1 wk.2 n0 ⟨fun _ => te209n te_w141 f0.2 wk.1 wk.2 n1 ⟨fun _ => te209e te_w147 f0.2 wk.1 wk.2 nv hf ⟨fun q => absurd q (by decide), fun _ => q218 ⟨fun q => absurd q (by rw [tb_uI_k (by decide), tb_uI_k (by decide), tb_uI_s]; decide), fun _ => k⟩⟩, fun q => absurd rfl q⟩, fun q => absurd rfl q⟩), e.1, e.2.1, Or.inl e.2.2⟩
  · obtain ⟨A2, B2, c2, r2, s2, f2, h81⟩ := te_start (X := X) hb L0 h4 2
    obtain ⟨A3, B3, lc, lr, q1, q2, q3⟩ := te_ln2 (X := X) hb (y := 0) L0 (by omega) s2 f2 h81
    exact ⟨A3, B3, fun K k => te17y hb hv (by decide) (by decide) (by decide) (by decide) (by rw [cA, te_r2]; omega) (by decide) c2 (fun K k => q29 ⟨fun q => absurd q (by decide), fun q => absurd q (by decide), fun _ => k, fun q => absurd q (by decide), fun q => absurd q (by decide), fun q => absurd q (by decide), fun q => absurd q (by decide), fun q => absurd q (by decide), fun q => absurd q (by decide)⟩) (lc K k), fun K k => q208 (te209n te_w127 f0.2 wk.1 wk.2 n0 ⟨fun _ => te209n te_w141 f0.2 wk.1 wk.2 n1 ⟨fun _ => te209y te_w147 f0.2 wk.1 wk.2 nv hf (r2 _ ⟨fun q => absurd q (by decide), fun _ => lr _ k⟩), fun q => absurd rfl q⟩, fun q => absurd rfl q⟩), q1, q2, q3⟩
theorem te_lv3 (hb : tb_isB b) (L0 : te_L0 n b N A B) (k1 : A.1 1 5 = 1) (wk : B.1 77 6 = 2 ∧ te_wd (B.1 79) (B.1 77 8) (A.2.1 1 7)) (h4 : A.1 1 4 = B.1 77 5 ∧ 0 ≤ A.1 1 4 ∧ A.1 1 4 ≤ n) (n0 : te_code (tb_cI 128) 3 ≠ A.2.1 1 7) (n1 : te_code (tb_cI 142) 6 ≠ A.2.1 1 7) (n2 : te_code (tb_cI 148) 5 ≠ A.2.1 1 7) (nv : te_code (tb_cI 150) 5 = A.2.1 1 7) : te_QL X n b A B := by
  have b5 := te_b5 hb
  have f0 := L0.1
  have h6 := L0.2.2.1.1
  have hv : (if A.1 1 5 = 1 then te_fst te_L (A.2.1 1 7) else -1) = 3 := by rw [if_pos k1, te_fst_eq, if_neg n0, if_neg n1, if_neg n2, if_pos nv]
  have cc : 0 ≤ B.1 81 113 ∧ B.1 81 113 ≤ 6 := by have h := te_bbc L0.2.2.2.2.2.2 (z := 3) (by decide) (by decide); rw [te_r3] at h; exact h
  have cA : A.1 (b + 1) 3 = B.1 81 113 := L0.2.2.2.2.2.1.1 3 (by decide) (by decide)
  by_cases hf : B.1 81 113 = 6
  · have e := te_FlL (b := b) f0 h6 (s := 3) (x := 5) (by decide)
    exact ⟨_, _, fun K k => te17f hb f0.1 hv (by decide) (by decide) (by decide) (by decide) (by rw [cA, te_r3]; omega) (by decide) k, fun K k => q208 (te209n te_w127 f0.2 wk.1 wk.2 n0 ⟨fun _ => te209n te_w141 f0.2 wk.1 wk.2 n1 ⟨fun _ => te209n te_w147 f0.2 wk.1 wk.2 n2 ⟨fun _ => te209e te_w149 f0.2 wk.1 wk.2 nv hf ⟨fun q => absurd q (by decide), fun _ => q222 ⟨fun q => absurd q (by rw [tb_uI_k (by decide), tb_uI_k (by decide), tb_uI_s]; decide), fun _ => k⟩⟩, fun q => absurd rfl q⟩, fun q => absurd rfl q⟩, fun q => absurd rfl q⟩), e.1, e.2.1, Or.inl e.2.2⟩
  · obtain ⟨A2, B2, c2, r2, s2, f2, h81⟩ := te_start (X := X) hb L0 h4 3
    obtain ⟨A3, B3, lc, lr, q1, q2, q3⟩ := te_ln3 (X := X) hb (y := 0) L0 (by omega) s2 f2 h81
    exact ⟨A3, B3, fun K k => te17y hb hv (by decide) (by decide) (by decide) (by decide) (by rw [cA, te_r3]; omega) (by decide) c2 (fun K k => q29 ⟨fun q => absurd q (by decide), fun q => absurd q (by decide), fun q => absurd q (by decide), fun _ => k, fun q => absurd q (by decide), fun q => absurd q (by decide), fun q => absurd q (by decide), fun q => absurd q (by decide), fun q => absurd q (by decide)⟩) (lc K k), fun K k => q208 (te209n te_w127 f0.2 wk.1 wk.2 n0 ⟨fun _ => te209n te_w141 f0.2 wk.1 wk.2 n1 ⟨fun _ => te209n te_w147 f0.2 wk.1 wk.2 n2 ⟨fun _ => te209y te_w149 f0.2 wk.1 wk.2 nv hf (r2 _ ⟨fun q => absurd q (by decide), fun _ => lr _ k⟩), fun q => absurd rfl q⟩, fun q => absurd rfl q⟩, fun q => absurd rfl q⟩), q1, q2, q3⟩
theorem te_lv4 (hb : tb_isB b) (L0 : te_L0 n b N A B) (k1 : A.1 1 5 = 1) (wk : B.1 77 6 = 2 ∧ te_wd (B.1 79) (B.1 77 8) (A.2.1 1 7)) (h4 : A.1 1 4 = B.1 77 5 ∧ 0 ≤ A.1 1 4 ∧ A.1 1 4 ≤ n) (n0 : te_code (tb_cI 128) 3 ≠ A.2.1 1 7) (n1 : te_code (tb_cI 142) 6 ≠ A.2.1 1 7) (n2 : te_code (tb_cI 148) 5 ≠ A.2.1 1 7) (n3 : te_code (tb_cI 150) 5 ≠ A.2.1 1 7) (nv : te_code (tb_cI 152) 6 = A.2.1 1 7) : te_QL X n b A B := by
  have b5 := te_b5 hb
  have f0 := L0.1
  have h6 := L0.2.2.1.1
  have hv : (if A.1 1 5 = 1 then te_fst te_L (A.2.1 1 7) else -1) = 4 := by rw [if_pos k1, te_fst_eq, if_neg n0, if_neg n1, if_neg n2, if_neg n3, if_pos nv]
  have cc : 0 ≤ B.1 81 114 ∧ B.1 81 114 ≤ 4 := by have h := te_bbc L0.2.2.2.2.2.2 (z := 4) (by decide) (by decide); rw [te_r4] at h; exact h
  have cA : A.1 (b + 1) 4 = B.1 81 114 := L0.2.2.2.2.2.1.1 4 (by decide) (by decide)
  by_cases hf : B.1 81 114 = 4
  · have e := te_FlL (b := b) f0 h6 (s := 4) (x := 5) (by decide)
    exact ⟨_, _, fun K k => te17f hb f0.1 hv (by decide) (by decide) (by decide) (by decide) (by rw [cA, te_r4]; omega) (by decide) k, fun K k => q208 (te209n te_w127 f0.2 wk.1 wk.2 n0 ⟨fun _ => te209n te_w141 f0.2 wk.1 wk.2 n1 ⟨fun _ => te209n te_w147 f0.2 wk.1 wk.2 n2 ⟨fun _ => te209n te_w149 f0.2 wk.1 wk.2 n3 ⟨fun _ => te209e te_w151 f0.2 wk.1 wk.2 nv hf ⟨fun q => absurd q (by decide), fun _ => q225 ⟨fun q => absurd q (by rw [tb_uI_k (by decide), tb_uI_k (by decide), tb_uI_s]; decide), fun _ => k⟩⟩, fun q => absurd rfl q⟩, fun q => absurd rfl q⟩, fun q => absurd rfl q⟩, fun q => absurd rfl q⟩), e.1, e.2.1, Or.inl e.2.2⟩
  · obtain ⟨A2, B2, c2, r2, s2, f2, h81⟩ := te_start (X := X) hb L0 h4 4
    obtain ⟨A3, B3, lc, lr, q1, q2, q3⟩ := te_ln4 (X := X) hb (y := 0) L0 (by omega) s2 f2 h81
    exact ⟨A3, B3, fun K k => te17y hb hv (by decide) (by decide) (by decide) (by decide) (by rw [cA, te_r4]; omega) (by decide) c2 (fun K k => q29 ⟨fun q => absurd q (by decide), fun q => absurd q (by decide), fun q => absurd q (by decide), fun q => absurd q (by decide), fun _ => k, fun q => absurd q (by decide), fun q => absurd q (by decide), fun q => absurd q (by decide), fun q => absurd q (by decide)⟩) (lc K k), fun K k => q208 (te209n te_w127 f0.2 wk.1 wk.2 n0 ⟨fun _ => te209n te_w141 f0.2 wk.1 wk.2 n1 ⟨fun _ => te209n te_w147 f0.2 wk.1 wk.2 n2 ⟨fun _ => te209n te_w149 f0.2 wk.1 wk.2 n3 ⟨fun _ => te209y te_w151 f0.2 wk.1 wk.2 nv hf (r2 _ ⟨fun q => absurd q (by decide), fun _ => lr _ k⟩), fun q => absurd rfl q⟩, fun q => absurd rfl q⟩, fun q => absurd rfl q⟩, fun q => absurd rfl q⟩), q1, q2, q3⟩
theorem te_lv5 (hb : tb_isB b) (L0 : te_L0 n b N A B) (k1 : A.1 1 5 = 1) (wk : B.1 77 6 = 2 ∧ te_wd (B.1 79) (B.1 77 8) (A.2.1 1 7)) (h4 : A.1 1 4 = B.1 77 5 ∧ 0 ≤ A.1 1 4 ∧ A.1 1 4 ≤ n) (n0 : te_code (tb_cI 128) 3 ≠ A.2.1 1 7) (n1 : te_code (tb_cI 142) 6 ≠ A.2.1 1 7) (n2 : te_code (tb_cI 148) 5 ≠ A.2.1 1 7) (n3 : te_code (tb_cI 150) 5 ≠ A.2.1 1 7) (n4 : te_code (tb_cI 152) 6 ≠ A.2.1 1 7) (nv : te_code (tb_cI 154) 5 = A.2.1 1 7) : te_QL X n b A B := by
  have b5 := te_b5 hb
  have f0 := L0.1
  have h6 := L0.2.2.1.1
  have hv : (if A.1 1 5 = 1 then te_fst te_L (A.2.1 1 7) else -1) = 5 := by rw [if_pos k1, te_fst_eq, if_neg n0, if_neg n1, if_neg n2, if_neg n3, if_neg n4, if_pos nv]
  have cc : 0 ≤ B.1 81 115 ∧ B.1 81 115 ≤ 4 := by have h := te_bbc L0.2.2.2.2.2.2 (z := 5) (by decide) (by decide); rw [te_r5] at h; exact h
  have cA : A.1 (b + 1) 5 = B.1 81 115 := L0.2.2.2.2.2.1.1 5 (by decide) (by decide)
  by_cases hf : B.1 81 115 = 4
  · have e := te_FlL (b := b) f0 h6 (s := 5) (x := 5) (by decide)
    exact ⟨_, _, fun K k => te17f hb f0.1 hv (by decide) (by decide) (by decide) (by decide) (by rw [cA, te_r5]; omega) (by decide) k, fun K k => q208 (te209n te_w127 f0.2 wk.1 wk.2 n0 ⟨fun _ => te209n te_w141 f0.2 wk.1 wk.2 n1 ⟨fun _ => te209n te_w147 f0.2 wk.1 wk.2 n2 ⟨fun _ => te209n te_w149 f0.2 wk.1 wk.2 n3 ⟨fun _ => te209n te_w151 f0.2 wk.1 wk.2 n4 ⟨fun _ => te209e te_w153 f0.2 wk.1 wk.2 nv hf ⟨fun q => absurd q (by decide), fun _ => q226 ⟨fun q => absurd q (by rw [tb_uI_k (by decide), tb_uI_k (by decide), tb_uI_s]; decide), fun _ => k⟩⟩, fun q => absurd rfl q⟩, fun q => absurd rfl q⟩, fun q => absurd rfl q⟩, fun q => absurd rfl q⟩, fun q => absurd rfl q⟩), e.1, e.2.1, Or.inl e.2.2⟩
  · obtain ⟨A2, B2, c2, r2, s2, f2, h81⟩ := te_start (X := X) hb L0 h4 5
    obtain ⟨A3, B3, lc, lr, q1, q2, q3⟩ := te_ln5 (X := X) hb (y := 0) L0 (by omega) s2 f2 h81
    exact ⟨A3, B3, fun K k => te17y hb hv (by decide) (by decide) (by decide) (by decide) (by rw [cA, te_r5]; omega) (by decide) c2 (fun K k => q29 ⟨fun q => absurd q (by decide), fun q => absurd q (by decide), fun q => absurd q (by decide), fun q => absurd q (by decide), fun q => absurd q (by decide), fun _ => k, fun q => absurd q (by decide), fun q => absurd q (by decide), fun q => absurd q (by decide)⟩) (lc K k), fun K k => q208 (te209n te_w127 f0.2 wk.1 wk.2 n0 ⟨fun _ => te209n te_w141 f0.2 wk.1 wk.2 n1 ⟨fun _ => te209n te_w147 f0.2 wk.1 wk.2 n2 ⟨fun _ => te209n te_w149 f0.2 wk.1 wk.2 n3 ⟨fun _ => te209n te_w151 f0.2 wk.1 wk.2 n4 ⟨fun _ => te209y te_w153 f0.2 wk.1 wk.2 nv hf (r2 _ ⟨fun q => absurd q (by decide), fun _ => lr _ k⟩), fun q => absurd rfl q⟩, fun q => absurd rfl q⟩, fun q => absurd rfl q⟩, fun q => absurd rfl q⟩, fun q => absurd rfl q⟩), q1, q2, q3⟩
theorem te_lv6 (hb : tb_isB b) (L0 : te_L0 n b N A B) (k1 : A.1 1 5 = 1) (wk : B.1 77 6 = 2 ∧ te_wd (B.1 79) (B.1 77 8) (A.2.1 1 7)) (h4 : A.1 1 4 = B.1 77 5 ∧ 0 ≤ A.1 1 4 ∧ A.1 1 4 ≤ n) (n0 : te_code (tb_cI 128) 3 ≠ A.2.1 1 7) (n1 : te_code (tb_cI 142) 6 ≠ A.2.1 1 7) (n2 : te_code (tb_cI 148) 5 ≠ A.2.1 1 7) (n3 : te_code (tb_cI 150) 5 ≠ A.2.1 1 7) (n4 : te_code (tb_cI 152) 6 ≠ A.2.1 1 7) (n5 : te_code (tb_cI 154) 5 ≠ A.2.1 1 7) (nv : te_code (tb_cI 156) 4 = A.2.1 1 7) : te_QL X n b A B := by
  have b5 := te_b5 hb
  have f0 := L0.1
  have h6 := L0.2.2.1.1
  have hv : (if A.1 1 5 = 1 then te_fst te_L (A.2.1 1 7) else -1) = 6 := by rw [if_pos k1, te_fst_eq, if_neg n0, if_neg n1, if_neg n2, if_neg n3, if_neg n4, if_neg n5, if_pos nv]
  have cc : 0 ≤ B.1 81 116 ∧ B.1 81 116 ≤ 4 := by have h := te_bbc L0.2.2.2.2.2.2 (z := 6) (by decide) (by decide); rw [te_r6] at h; exact h
  have cA : A.1 (b + 1) 6 = B.1 81 116 := L0.2.2.2.2.2.1.1 6 (by decide) (by decide)
  by_cases hf : B.1 81 116 = 4
  · have e := te_FlL (b := b) f0 h6 (s := 6) (x := 5) (by decide)
    exact ⟨_, _, fun K k => te17f hb f0.1 hv (by decide) (by decide) (by decide) (by decide) (by rw [cA, te_r6]; omega) (by decide) k, fun K k => q208 (te209n te_w127 f0.2 wk.1 wk.2 n0 ⟨fun _ => te209n te_w141 f0.2 wk.1 wk.2 n1 ⟨fun _ => te209n te_w147 f0.2 wk.1 wk.2 n2 ⟨fun _ => te209n te_w149 f0.2 wk.1 wk.2 n3 ⟨fun _ => te209n te_w151 f0.2 wk.1 wk.2 n4 ⟨fun _ => te209n te_w153 f0.2 wk.1 wk.2 n5 ⟨fun _ => te209e te_w155 f0.2 wk.1 wk.2 nv hf ⟨fun q => absurd q (by decide), fun _ => q227 ⟨fun q => absurd q (by rw [tb_uI_k (by decide), tb_uI_k (by decide), tb_uI_s]; decide), fun _ => k⟩⟩, fun q => absurd rfl q⟩, fun q => absurd rfl q⟩, fun q => absurd rfl q⟩, fun q => absurd rfl q⟩, fun q => absurd rfl q⟩, fun q => absurd rfl q⟩), e.1, e.2.1, Or.inl e.2.2⟩
  · obtain ⟨A2, B2, c2, r2, s2, f2, h81⟩ := te_start (X := X) hb L0 h4 6
    obtain ⟨A3, B3, lc, lr, q1, q2, q3⟩ := te_ln6 (X := X) hb (y := 0) L0 (by omega) s2 f2 h81
    exact ⟨A3, B3, fun K k => te17y hb hv (by decide) (by decide) (by decide) (by decide) (by rw [cA, te_r6]; omega) (by decide) c2 (fun K k => q29 ⟨fun q => absurd q (by decide), fun q => absurd q (by decide), fun q => absurd q (by decide), fun q => absurd q (by decide), fun q => absurd q (by decide), fun q => absurd q (by decide), fun _ => k, fun q => absurd q (by decide), fun q => absurd q (by decide)⟩) (lc K k), fun K k => q208 (te209n te_w127 f0.2 wk.1 wk.2 n0 ⟨fun _ => te209n te_w141 f0.2 wk.1 wk.2 n1 ⟨fun _ => te209n te_w147 f0.2 wk.1 wk.2 n2 ⟨fun _ => te209n te_w149 f0.2 wk.1 wk.2 n3 ⟨fun _ => te209n te_w151 f0.2 wk.1 wk.2 n4 ⟨fun _ => te209n te_w153 f0.2 wk.1 wk.2 n5 ⟨fun _ => te209y te_w155 f0.2 wk.1 wk.2 nv hf (r2 _ ⟨fun q => absurd q (by decide), fun _ => lr _ k⟩), fun q => absurd rfl q⟩, fun q => absurd rfl q⟩, fun q => absurd rfl q⟩, fun q => absurd rfl q⟩, fun q => absurd rfl q⟩, fun q => absurd rfl q⟩), q1, q2, q3⟩
theorem te_lv7 (hb : tb_isB b) (L0 : te_L0 n b N A B) (k1 : A.1 1 5 = 1) (wk : B.1 77 6 = 2 ∧ te_wd (B.1 79) (B.1 77 8) (A.2.1 1 7)) (h4 : A.1 1 4 = B.1 77 5 ∧ 0 ≤ A.1 1 4 ∧ A.1 1 4 ≤ n) (n0 : te_code (tb_cI 128) 3 ≠ A.2.1 1 7) (n1 : te_code (tb_cI 142) 6 ≠ A.2.1 1 7) (n2 : te_code (tb_cI 148) 5 ≠ A.2.1 1 7) (n3 : te_code (tb_cI 150) 5 ≠ A.2.1 1 7) (n4 : te_code (tb_cI 152) 6 ≠ A.2.1 1 7) (n5 : te_code (tb_cI 154) 5 ≠ A.2.1 1 7) (n6 : te_code (tb_cI 156) 4 ≠ A.2.1 1 7) (nv : te_code (tb_cI 158) 4 = A.2.1 1 7) : te_QL X n b A B := by
  have b5 := te_b5 hb
  have f0 := L0.1
  have h6 := L0.2.2.1.1
  have hv : (if A.1 1 5 = 1 then te_fst te_L (A.2.1 1 7) else -1) = 7 := by rw [if_pos k1, te_fst_eq, if_neg n0, if_neg n1, if_neg n2, if_neg n3, if_neg n4, if_neg n5, if_neg n6, if_pos nv]
  have cc : 0 ≤ B.1 81 117 ∧ B.1 81 117 ≤ 4 := by have h := te_bbc L0.2.2.2.2.2.2 (z := 7) (by decide) (by decide); rw [te_r7] at h; exact h
  have cA : A.1 (b + 1) 7 = B.1 81 117 := L0.2.2.2.2.2.1.1 7 (by decide) (by decide)
  by_cases hf : B.1 81 117 = 4
  · have e := te_FlL (b := b) f0 h6 (s := 7) (x := 5) (by decide)
    exact ⟨_, _, fun K k => te17f hb f0.1 hv (by decide) (by decide) (by decide) (by decide) (by rw [cA, te_r7]; omega) (by decide) k, fun K k => q208 (te209n te_w127 f0.2 wk.1 wk.2 n0 ⟨fun _ => te209n te_w141 f0.2 wk.1 wk.2 n1 ⟨fun _ => te209n te_w147 f0.2 wk.1 wk.2 n2 ⟨fun _ => te209n te_w149 f0.2 wk.1 wk.2 n3 ⟨fun _ => te209n te_w151 f0.2 wk.1 wk.2 n4 ⟨fun _ => te209n te_w153 f0.2 wk.1 wk.2 n5 ⟨fun _ => te209n te_w155 f0.2 wk.1 wk.2 n6 ⟨fun _ => te209e te_w157 f0.2 wk.1 wk.2 nv hf ⟨fun q => absurd q (by decide), fun _ => q228 ⟨fun q => absurd q (by rw [tb_uI_k (by decide), tb_uI_k (by decide), tb_uI_s]; decide), fun _ => k⟩⟩, fun q => absurd rfl q⟩, fun q => absurd rfl q⟩, fun q => absurd rfl q⟩, fun q => absurd rfl q⟩, fun q => absurd rfl q⟩, fun q => absurd rfl q⟩, fun q => absurd rfl q⟩), e.1, e.2.1, Or.inl e.2.2⟩
  · obtain ⟨A2, B2, c2, r2, s2, f2, h81⟩ := te_start (X := X) hb L0 h4 7
    obtain ⟨A3, B3, lc, lr, q1, q2, q3⟩ := te_ln7 (X := X) hb (y := 0) L0 (by omega) s2 f2 h81
    exact ⟨A3, B3, fun K k => te17y hb hv (by decide) (by decide) (by decide) (by decide) (by rw [cA, te_r7]; omega) (by decide) c2 (fun K k => q29 ⟨fun q => absurd q (by decide), fun q => absurd q (by decide), fun q => absurd q (by decide), fun q => absurd q (by decide), fun q => absurd q (by decide), fun q => absurd q (by decide), fun q => absurd q (by decide), fun _ => k, fun q => absurd q (by decide)⟩) (lc K k), fun K k => q208 (te209n te_w127 f0.2 wk.1 wk.2 n0 ⟨fun _ => te209n te_w141 f0.2 wk.1 wk.2 n1 ⟨fun _ => te209n te_w147 f0.2 wk.1 wk.2 n2 ⟨fun _ => te209n te_w149 f0.2 wk.1 wk.2 n3 ⟨fun _ => te209n te_w151 f0.2 wk.1 wk.2 n4 ⟨fun _ => te209n te_w153 f0.2 wk.1 wk.2 n5 ⟨fun _ => te209n te_w155 f0.2 wk.1 wk.2 n6 ⟨fun _ => te209y te_w157 f0.2 wk.1 wk.2 nv hf (r2 _ ⟨fun q => absurd q (by decide), fun _ => lr _ k⟩), fun q => absurd rfl q⟩, fun q => absurd rfl q⟩, fun q => absurd rfl q⟩, fun q => absurd rfl q⟩, fun q => absurd rfl q⟩, fun q => absurd rfl q⟩, fun q => absurd rfl q⟩), q1, q2, q3⟩
theorem te_lv8 (hb : tb_isB b) (L0 : te_L0 n b N A B) (k1 : A.1 1 5 = 1) (wk : B.1 77 6 = 2 ∧ te_wd (B.1 79) (B.1 77 8) (A.2.1 1 7)) (h4 : A.1 1 4 = B.1 77 5 ∧ 0 ≤ A.1 1 4 ∧ A.1 1 4 ≤ n) (n0 : te_code (tb_cI 128) 3 ≠ A.2.1 1 7) (n1 : te_code (tb_cI 142) 6 ≠ A.2.1 1 7) (n2 : te_code (tb_cI 148) 5 ≠ A.2.1 1 7) (n3 : te_code (tb_cI 150) 5 ≠ A.2.1 1 7) (n4 : te_code (tb_cI 152) 6 ≠ A.2.1 1 7) (n5 : te_code (tb_cI 154) 5 ≠ A.2.1 1 7) (n6 : te_code (tb_cI 156) 4 ≠ A.2.1 1 7) (n7 : te_code (tb_cI 158) 4 ≠ A.2.1 1 7) (nv : te_code (tb_cI 160) 5 = A.2.1 1 7) : te_QL X n b A B := by
  have b5 := te_b5 hb
  have f0 := L0.1
  have h6 := L0.2.2.1.1
  have hv : (if A.1 1 5 = 1 then te_fst te_L (A.2.1 1 7) else -1) = 8 := by rw [if_pos k1, te_fst_eq, if_neg n0, if_neg n1, if_neg n2, if_neg n3, if_neg n4, if_neg n5, if_neg n6, if_neg n7, if_pos nv]
  have cc : 0 ≤ B.1 81 118 ∧ B.1 81 118 ≤ 3 := by have h := te_bbc L0.2.2.2.2.2.2 (z := 8) (by decide) (by decide); rw [te_r8] at h; exact h
  have cA : A.1 (b + 1) 8 = B.1 81 118 := L0.2.2.2.2.2.1.1 8 (by decide) (by decide)
  by_cases hf : B.1 81 118 = 3
  · have e := te_FlL (b := b) f0 h6 (s := 8) (x := 5) (by decide)
    exact ⟨_, _, fun K k => te17f hb f0.1 hv (by decide) (by decide) (by decide) (by decide) (by rw [cA, te_r8]; omega) (by decide) k, fun K k => q208 (te209n te_w127 f0.2 wk.1 wk.2 n0 ⟨fun _ => te209n te_w141 f0.2 wk.1 wk.2 n1 ⟨fun _ => te209n te_w147 f0.2 wk.1 wk.2 n2 ⟨fun _ => te209n te_w149 f0.2 wk.1 wk.2 n3 ⟨fun _ => te209n te_w151 f0.2 wk.1 wk.2 n4 ⟨fun _ => te209n te_w153 f0.2 wk.1 wk.2 n5 ⟨fun _ => te209n te_w155 f0.2 wk.1 wk.2 n6 ⟨fun _ => te209n te_w157 f0.2 wk.1 wk.2 n7 ⟨fun _ => te209e te_w159 f0.2 wk.1 wk.2 nv hf ⟨fun q => absurd q (by decide), fun _ => q229 ⟨fun q => absurd q (by rw [tb_uI_k (by decide), tb_uI_k (by decide), tb_uI_s]; decide), fun _ => k⟩⟩, fun q => absurd rfl q⟩, fun q => absurd rfl q⟩, fun q => absurd rfl q⟩, fun q => absurd rfl q⟩, fun q => absurd rfl q⟩, fun q => absurd rfl q⟩, fun q => absurd rfl q⟩, fun q => absurd rfl q⟩), e.1, e.2.1, Or.inl e.2.2⟩
  · obtain ⟨A2, B2, c2, r2, s2, f2, h81⟩ := te_start (X := X) hb L0 h4 8
    obtain ⟨A3, B3, lc, lr, q1, q2, q3⟩ := te_ln8 (X := X) hb (y := 0) (by decide) (by decide) L0 (by omega) s2 f2 h81
    exact ⟨A3, B3, fun K k => te17y hb hv (by decide) (by decide) (by decide) (by decide) (by rw [cA, te_r8]; omega) (by decide) c2 (fun K k => q29 ⟨fun q => absurd q (by decide), fun q => absurd q (by decide), fun q => absurd q (by decide), fun q => absurd q (by decide), fun q => absurd q (by decide), fun q => absurd q (by decide), fun q => absurd q (by decide), fun q => absurd q (by decide), fun _ => k⟩) (lc K k), fun K k => q208 (te209n te_w127 f0.2 wk.1 wk.2 n0 ⟨fun _ => te209n te_w141 f0.2 wk.1 wk.2 n1 ⟨fun _ => te209n te_w147 f0.2 wk.1 wk.2 n2 ⟨fun _ => te209n te_w149 f0.2 wk.1 wk.2 n3 ⟨fun _ => te209n te_w151 f0.2 wk.1 wk.2 n4 ⟨fun _ => te209n te_w153 f0.2 wk.1 wk.2 n5 ⟨fun _ => te209n te_w155 f0.2 wk.1 wk.2 n6 ⟨fun _ => te209n te_w157 f0.2 wk.1 wk.2 n7 ⟨fun _ => te209y te_w159 f0.2 wk.1 wk.2 nv hf (r2 _ ⟨fun q => absurd q (by decide), fun _ => lr _ k⟩), fun q => absurd rfl q⟩, fun q => absurd rfl q⟩, fun q => absurd rfl q⟩, fun q => absurd rfl q⟩, fun q => absurd rfl q⟩, fun q => absurd rfl q⟩, fun q => absurd rfl q⟩, fun q => absurd rfl q⟩), q1, q2, q3⟩
theorem te_lv9 (hb : tb_isB b) (L0 : te_L0 n b N A B) (k1 : A.1 1 5 = 1) (wk : B.1 77 6 = 2 ∧ te_wd (B.1 79) (B.1 77 8) (A.2.1 1 7)) (h4 : A.1 1 4 = B.1 77 5 ∧ 0 ≤ A.1 1 4 ∧ A.1 1 4 ≤ n) (n0 : te_code (tb_cI 128) 3 ≠ A.2.1 1 7) (n1 : te_code (tb_cI 142) 6 ≠ A.2.1 1 7) (n2 : te_code (tb_cI 148) 5 ≠ A.2.1 1 7) (n3 : te_code (tb_cI 150) 5 ≠ A.2.1 1 7) (n4 : te_code (tb_cI 152) 6 ≠ A.2.1 1 7) (n5 : te_code (tb_cI 154) 5 ≠ A.2.1 1 7) (n6 : te_code (tb_cI 156) 4 ≠ A.2.1 1 7) (n7 : te_code (tb_cI 158) 4 ≠ A.2.1 1 7) (n8 : te_code (tb_cI 160) 5 ≠ A.2.1 1 7) (nv : te_code (tb_cI 162) 5 = A.2.1 1 7) : te_QL X n b A B := by
  have b5 := te_b5 hb
  have f0 := L0.1
  have h6 := L0.2.2.1.1
  have hv : (if A.1 1 5 = 1 then te_fst te_L (A.2.1 1 7) else -1) = 9 := by rw [if_pos k1, te_fst_eq, if_neg n0, if_neg n1, if_neg n2, if_neg n3, if_neg n4, if_neg n5, if_neg n6, if_neg n7, if_neg n8, if_pos nv]
  have cc : 0 ≤ B.1 81 118 ∧ B.1 81 118 ≤ 3 := by have h := te_bbc L0.2.2.2.2.2.2 (z := 8) (by decide) (by decide); rw [te_r8] at h; exact h
  have cA : A.1 (b + 1) 8 = B.1 81 118 := L0.2.2.2.2.2.1.1 8 (by decide) (by decide)
  by_cases hf : B.1 81 118 = 3
  · have e := te_FlL (b := b) f0 h6 (s := 8) (x := 5) (by decide)
    exact ⟨_, _, fun K k => te17f hb f0.1 hv (by decide) (by decide) (by decide) (by decide) (by rw [cA, te_r8]; omega) (by decide) k, fun K k => q208 (te209n te_w127 f0.2 wk.1 wk.2 n0 ⟨fun _ => te209n te_w141 f0.2 wk.1 wk.2 n1 ⟨fun _ => te209n te_w147 f0.2 wk.1 wk.2 n2 ⟨fun _ => te209n te_w149 f0.2 wk.1 wk.2 n3 ⟨fun _ => te209n te_w151 f0.2 wk.1 wk.2 n4 ⟨fun _ => te209n te_w153 f0.2 wk.1 wk.2 n5 ⟨fun _ => te209n te_w155 f0.2 wk.1 wk.2 n6 ⟨fun _ => te209n te_w157 f0.2 wk.1 wk.2 n7 ⟨fun _ => te209n te_w159 f0.2 wk.1 wk.2 n8 ⟨fun _ => te209e te_w161 f0.2 wk.1 wk.2 nv hf ⟨fun q => absurd q (by decide), fun _ => q229 ⟨fun q => absurd q (by rw [tb_uI_k (by decide), tb_uI_k (by decide), tb_uI_s]; decide), fun _ => k⟩⟩, fun q => absurd rfl q⟩, fun q => absurd rfl q⟩, fun q => absurd rfl q⟩, fun q => absurd rfl q⟩, fun q => absurd rfl q⟩, fun q => absurd rfl q⟩, fun q => absurd rfl q⟩, fun q => absurd rfl q⟩, fun q => absurd rfl q⟩), e.1, e.2.1, Or.inl e.2.2⟩
  · obtain ⟨A2, B2, c2, r2, s2, f2, h81⟩ := te_start (X := X) hb L0 h4 8
    obtain ⟨A3, B3, lc, lr, q1, q2, q3⟩ := te_ln8 (X := X) hb (y := 1) (by decide) (by decide) L0 (by omega) s2 f2 h81
    exact ⟨A3, B3, fun K k => te17y hb hv (by decide) (by decide) (by decide) (by decide) (by rw [cA, te_r8]; omega) (by decide) c2 (fun K k => q29 ⟨fun q => absurd q (by decide), fun q => absurd q (by decide), fun q => absurd q (by decide), fun q => absurd q (by decide), fun q => absurd q (by decide), fun q => absurd q (by decide), fun q => absurd q (by decide), fun q => absurd q (by decide), fun _ => k⟩) (lc K k), fun K k => q208 (te209n te_w127 f0.2 wk.1 wk.2 n0 ⟨fun _ => te209n te_w141 f0.2 wk.1 wk.2 n1 ⟨fun _ => te209n te_w147 f0.2 wk.1 wk.2 n2 ⟨fun _ => te209n te_w149 f0.2 wk.1 wk.2 n3 ⟨fun _ => te209n te_w151 f0.2 wk.1 wk.2 n4 ⟨fun _ => te209n te_w153 f0.2 wk.1 wk.2 n5 ⟨fun _ => te209n te_w155 f0.2 wk.1 wk.2 n6 ⟨fun _ => te209n te_w157 f0.2 wk.1 wk.2 n7 ⟨fun _ => te209n te_w159 f0.2 wk.1 wk.2 n8 ⟨fun _ => te209y te_w161 f0.2 wk.1 wk.2 nv hf (r2 _ ⟨fun q => absurd q (by decide), fun _ => lr _ k⟩), fun q => absurd rfl q⟩, fun q => absurd rfl q⟩, fun q => absurd rfl q⟩, fun q => absurd rfl q⟩, fun q => absurd rfl q⟩, fun q => absurd rfl q⟩, fun q => absurd rfl q⟩, fun q => absurd rfl q⟩, fun q => absurd rfl q⟩), q1, q2, q3⟩
theorem te_FlN (f0 : A.1 1 10 = 0 ∧ B.1 77 13 = 0) (h6 : A.1 1 6 = B.1 77 4) : te_fc b A (te_F1 A 1) ∧ te_fm B (te_F2 B 1 (B.1 77 4)) ∧ te_Fl (te_F1 A 1) (te_F2 B 1 (B.1 77 4)) := ⟨te_fc.upI (te_fc.upI te_fc.refl rfl) rfl, tb_fr.upI (tb_fr.upI (tb_fr.upI tb_fr.refl rfl) rfl) rfl, te_Fl.mk (by decide) h6⟩
theorem te_line (hb : tb_isB b) (L0 : te_L0 n b N A B) : te_QL X n b A B := by
  have f0 := L0.1
  have tk := L0.2.2.1
  have h6 := tk.1
  have e := te_FlN (b := b) f0 h6
  have no : A.1 1 5 ≠ 1 → B.1 77 6 ≠ 2 → te_QL X n b A B := fun k1 nt => ⟨_, _, fun K k => te17n hb f0.1 (by rw [if_neg k1]) k, fun K k => q208 (te209t te_w127 nt ⟨fun _ => te209t te_w141 nt ⟨fun _ => te209t te_w147 nt ⟨fun _ => te209t te_w149 nt ⟨fun _ => te209t te_w151 nt ⟨fun _ => te209t te_w153 nt ⟨fun _ => te209t te_w155 nt ⟨fun _ => te209t te_w157 nt ⟨fun _ => te209t te_w159 nt ⟨fun _ => te209t te_w161 nt ⟨fun _ => by rw [te211 f0.2]; exact k, fun q => absurd rfl q⟩, fun q => absurd rfl q⟩, fun q => absurd rfl q⟩, fun q => absurd rfl q⟩, fun q => absurd rfl q⟩, fun q => absurd rfl q⟩, fun q => absurd rfl q⟩, fun q => absurd rfl q⟩, fun q => absurd rfl q⟩, fun q => absurd rfl q⟩), e.1, e.2.1, Or.inl e.2.2⟩
  rcases tk.2 with t | t | ⟨h4, t | t | t⟩
  · exact no (by rw [t.1]; decide) (by rw [t.2]; decide)
  · exact no (by rw [t.1]; decide) (by rw [t.2]; decide)
  · have k1 := t.1
    have wk := t.2
    by_cases n0 : te_code (tb_cI 128) 3 = A.2.1 1 7
    · exact te_lv0 hb L0 k1 wk h4 n0
    by_cases n1 : te_code (tb_cI 142) 6 = A.2.1 1 7
    · exact te_lv1 hb L0 k1 wk h4 n0 n1
    by_cases n2 : te_code (tb_cI 148) 5 = A.2.1 1 7
    · exact te_lv2 hb L0 k1 wk h4 n0 n1 n2
    by_cases n3 : te_code (tb_cI 150) 5 = A.2.1 1 7
    · exact te_lv3 hb L0 k1 wk h4 n0 n1 n2 n3
    by_cases n4 : te_code (tb_cI 152) 6 = A.2.1 1 7
    · exact te_lv4 hb L0 k1 wk h4 n0 n1 n2 n3 n4
    by_cases n5 : te_code (tb_cI 154) 5 = A.2.1 1 7
    · exact te_lv5 hb L0 k1 wk h4 n0 n1 n2 n3 n4 n5
    by_cases n6 : te_code (tb_cI 156) 4 = A.2.1 1 7
    · exact te_lv6 hb L0 k1 wk h4 n0 n1 n2 n3 n4 n5 n6
    by_cases n7 : te_code (tb_cI 158) 4 = A.2.1 1 7
    · exact te_lv7 hb L0 k1 wk h4 n0 n1 n2 n3 n4 n5 n6 n7
    by_cases n8 : te_code (tb_cI 160) 5 = A.2.1 1 7
    · exact te_lv8 hb L0 k1 wk h4 n0 n1 n2 n3 n4 n5 n6 n7 n8
    by_cases n9 : te_code (tb_cI 162) 5 = A.2.1 1 7
    · exact te_lv9 hb L0 k1 wk h4 n0 n1 n2 n3 n4 n5 n6 n7 n8 n9
    exact ⟨_, _, fun K k => te17n hb f0.1 (by rw [if_pos k1, te_fst_eq, if_neg n0, if_neg n1, if_neg n2, if_neg n3, if_neg n4, if_neg n5, if_neg n6, if_neg n7, if_neg n8, if_neg n9]) k, fun K k => q208 (te209n te_w127 f0.2 wk.1 wk.2 n0 ⟨fun _ => te209n te_w141 f0.2 wk.1 wk.2 n1 ⟨fun _ => te209n te_w147 f0.2 wk.1 wk.2 n2 ⟨fun _ => te209n te_w149 f0.2 wk.1 wk.2 n3 ⟨fun _ => te209n te_w151 f0.2 wk.1 wk.2 n4 ⟨fun _ => te209n te_w153 f0.2 wk.1 wk.2 n5 ⟨fun _ => te209n te_w155 f0.2 wk.1 wk.2 n6 ⟨fun _ => te209n te_w157 f0.2 wk.1 wk.2 n7 ⟨fun _ => te209n te_w159 f0.2 wk.1 wk.2 n8 ⟨fun _ => te209n te_w161 f0.2 wk.1 wk.2 n9 ⟨fun _ => by rw [te211 f0.2]; exact k, fun q => absurd rfl q⟩, fun q => absurd rfl q⟩, fun q => absurd rfl q⟩, fun q => absurd rfl q⟩, fun q => absurd rfl q⟩, fun q => absurd rfl q⟩, fun q => absurd rfl q⟩, fun q => absurd rfl q⟩, fun q => absurd rfl q⟩, fun q => absurd rfl q⟩), e.1, e.2.1, Or.inl e.2.2⟩
  · exact no (by rw [t.1]; decide) (by rw [t.2.1]; decide)
  · exact no (by rw [t.1]; decide) (fun q => by rcases t.2.2 with h | h <;> omega)
end TELINE
