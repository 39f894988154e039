/-! READER 9: cells, bounds, the end of a line -/
section TELEND
variable {X : tb_X} {A B A0 B0 : tb_H} {K : Int → tb_H → Prop} {Kv : tb_H → Prop}
variable {n : Int} {b : Nat} {a0 sort N cs m : Int} {vs rho : Int → Int}
theorem te32 {s z : Int} (h8 : A.1 1 8 = s) (h9 : A.1 1 9 = z) (s0 : 0 ≤ s) (s1 : s < 9) (z0 : 0 ≤ z) (z1 : z < 6) (ne : ¬ (s = 7 ∧ z = 3)) : tb_Ci X 32 [tb_r 1] A K = K (tb_cI 103 (s * 6 + z)) A := by
  refine tb_dei (q32 ?_)
  have e : (if A.1 1 8 ≠ 7 then (0 : Int) else (if A.1 1 9 ≠ 3 then 0 else 1)) = 0 := by
    rw [h8, h9]
    by_cases c : s = 7
    · rw [if_neg (fun q => q c), if_pos (fun q => ne ⟨c, q⟩)]
    · rw [if_pos c]
  rw [if_pos e, h8, h9, tb_w_id (x := s * 6) (by omega) (by omega), tb_w_id (x := s * 6 + z) (by omega) (by omega), if_neg (by omega), if_pos (by omega)]
  exact ⟨rfl, rfl⟩
theorem te32i (h8 : A.1 1 8 = 7) (h9 : A.1 1 9 = 3) (h2 : 1 ≤ A.1 3 2) : tb_Ci X 32 [tb_r 1] A K = K (A.1 3 2) A := by
  refine tb_dei (q32 ?_)
  have e : ¬ ((if A.1 1 8 ≠ 7 then (0 : Int) else (if A.1 1 9 ≠ 3 then 0 else 1)) = 0) := by
    rw [h8, h9]
    decide
  have c : tb_cI 103 45 = 1 := by decide +kernel
  have e2 : (if tb_w (tb_w (A.1 1 8 * 6) + A.1 1 9) < 0 then (0 : Int) else (if tb_w (tb_w (A.1 1 8 * 6) + A.1 1 9) < 54 then tb_cI 103 (tb_w (tb_w (A.1 1 8 * 6) + A.1 1 9)) else 0)) = 1 := by
    rw [h8, h9, show tb_w (tb_w (7 * 6) + 3) = 45 by decide, if_neg (by decide), if_pos (by decide), c]
  rw [if_neg e, e2]
  by_cases q : 1 < A.1 3 2
  · rw [if_pos q]; exact ⟨rfl, rfl⟩
  · rw [if_neg q]; exact ⟨by omega, rfl⟩
theorem te33 {s z : Int} (h8 : A.1 1 8 = s) (h9 : A.1 1 9 = z) (s0 : 0 ≤ s) (s1 : s < 9) (z0 : 0 ≤ z) (z1 : z < 6) : tb_Ci X 33 [tb_r 1] A K = K (tb_cI 104 (s * 6 + z)) A := by
  refine tb_dei (q33 ?_)
  rw [h8, h9, tb_w_id (x := s * 6) (by omega) (by omega), tb_w_id (x := s * 6 + z) (by omega) (by omega), if_neg (by omega), if_pos (by omega)]
  exact ⟨rfl, rfl⟩
theorem te_w143 : te_ws 143 144 2 := ⟨⟨kd_143, kd_144, by decide, by decide +kernel⟩, by decide, by decide +kernel⟩
theorem te_pcell (hb : tb_isB b) {w kb nw : Nat} (hs : te_str w kb nw) {i : Int} (i0 : 0 ≤ i) (i5 : i + 4 < nw) (h0 : tb_cI kb i = 97 ∧ tb_cI kb (i + 1) = 116 ∧ tb_cI kb (i + 2) = 35 ∧ tb_cI kb (i + 3) = 44 ∧ tb_cI kb (i + 4) = 35) (s0 : te_Sl n b a0 sort N cs m vs rho A0 B0 A B) (m0 : 0 ≤ m) (m6 : m < 5) {p q : Int} (p0 : 0 ≤ p) (p1 : p < 119) (q0 : 0 ≤ q) (q1 : q < 119)
    (hlo : ∀ z, z = m ∨ z = m + 1 → ∀ (A : tb_H) (K : Int → tb_H → Prop), A.1 1 8 = sort → A.1 1 9 = z → tb_Ci X 32 [tb_r 1] A K = K 0 A) (hhi : ∀ z, z = m ∨ z = m + 1 → ∀ (A : tb_H) (K : Int → tb_H → Prop), A.1 1 8 = sort → A.1 1 9 = z → tb_Ci X 33 [tb_r 1] A K = K 9 A) :
    ∃ A' v1 v2 B', (∀ K, te_ci X b w (i + 5) A' K → te_ci X b w i A K) ∧ (∀ K : tb_H → Prop, K B' → tb_Cv X 217 [tb_r 77, tb_r 143, tb_i p, tb_i q] B K) ∧ te_Sl n b a0 sort N cs (m + 2) (td_up (td_up vs m v1) (m + 1) v2) (td_up (td_up rho p v1) q v2) A0 B0 A' B' ∧ (0 ≤ v1 ∧ v1 ≤ 9) ∧ (0 ≤ v2 ∧ v2 ≤ 9) := by
  have cod : te_code (fun k => tb_cI kb (i + k)) (i + 2 - i).toNat = te_code (tb_cI 144) 2 := by
    have e2 : (i + 2 - i).toNat = 2 := by omega
    have a : te_code (fun k => tb_cI kb (i + k)) 2 = ((0 * 32 + (tb_cI kb (i + 0) - 96)) * 32 + (tb_cI kb (i + 1) - 96)) := rfl
    rw [e2, a, Int.add_zero, h0.1, h0.2.1]
    decide +kernel
  obtain ⟨A1, v1, B1, c1, r1, s1, b1⟩ := te_ptold (X := X) hb hs (i := i) (e := i + 2) i0 (by omega) (by omega) (by omega) (fun k k0 k1 => by
    have : k = i ∨ k = i + 1 := by omega
    rcases this with rfl | rfl
    · rw [h0.1]; decide
    · rw [h0.2.1]; decide) h0.2.2.1 te_w143 cod s0 m0 (by omega) (lo := 0) (hi := 9) (by decide) (fun A K a c _ => hlo m (Or.inl rfl) A K a c) (fun A K a c => hhi m (Or.inl rfl) A K a c)
  have s1u := s1.up (p := p) (v := v1) p1
  obtain ⟨A2, B2, c2, tri, s2⟩ := te_pcom (X := X) hb hs (i := i + 3) (by omega) (by omega) h0.2.2.2.1 s1u
  obtain ⟨A3, v2, B3, c3, r3, s3, b2⟩ := te_pnum (X := X) hb hs (i := i + 4) (by omega) (by omega) h0.2.2.2.2 (by rw [show i + 3 + 1 = i + 4 by omega] at c2; exact s2) (by omega) (by omega) (lo := 0) (hi := 9) (by decide) (fun A K a c _ => hlo (m + 1) (Or.inr rfl) A K a c) (fun A K a c => hhi (m + 1) (Or.inr rfl) A K a c)
  have s3u := s3.up (p := q) (v := v2) q1
  rw [show m + 1 + 1 = m + 2 by omega] at s3u
  refine ⟨A3, v1, v2, tb_upI B3 81 q v2, fun K k => c1 K ?_, fun K k => q217 te_w143.1.1 te_w143.1.2.1 (r1 _ ⟨⟨p0, by omega⟩, ?_, ?_⟩), s3u, b1, b2⟩
  · rw [show i + 2 + 1 = i + 3 by omega]
    refine c2 K ?_
    rw [show i + 3 + 1 = i + 4 by omega]
    refine c3 K ?_
    rw [show i + 4 + 1 = i + 5 by omega]
    exact k
  · intro f
    rcases tri with ⟨z, e⟩ | ⟨z, _⟩ | ⟨z, _⟩
    · rw [e] at r3
      exact ⟨fun _ => r3 _ ⟨⟨q0, by omega⟩, k⟩, fun y => absurd y f⟩
    · rw [td_upo (by decide)] at z; exact absurd z f
    · rw [td_upo (by decide)] at z; exact absurd z f
  · intro f
    rcases tri with ⟨z, e⟩ | ⟨z, t, r2⟩ | ⟨z, t, e⟩
    · rw [td_upo (by decide)] at z; exact absurd f z
    · rw [td_upo (by decide)] at t
      exact ⟨fun _ => ⟨fun y => absurd f y, fun _ => r2 _ (r3 _ ⟨⟨q0, by omega⟩, k⟩)⟩, fun y => absurd t y⟩
    · have tt := t
      rw [td_upo (by decide)] at t
      refine ⟨fun y => absurd y t, fun _ => ?_⟩
      have e4 : (tb_upI B1 81 p v1).1 77 4 = B1.1 77 4 := by rw [td_upo (by decide)]
      rw [te211 z, ← e4]
      refine ⟨fun _ => ?_, fun y => absurd y te_nz2⟩
      rw [e] at r3
      exact r3 _ ⟨⟨q0, by omega⟩, k⟩
def te_room (s : Int) : Int := tb_cI 102 s
theorem te27 (hb : tb_isB b) {s c : Int} (s0 : 0 ≤ s) (s1 : s < 9) (hc : A.1 (b + 1) s = c) : tb_Ci X 27 [tb_r b, tb_i s] A K = K (if c < te_room s then 0 else 1) A := by
  refine tb_dei (q27 hb ⟨fun q => absurd q (by omega), fun _ => ⟨fun q => absurd q (by omega), fun _ => ?_⟩⟩)
  rw [e28g hb s0 s1, hc]
  exact ⟨rfl, rfl⟩
theorem te46 (hb : tb_isB b) {s c : Int} (s0 : 0 ≤ s) (s1 : s < 9) (hc : A.1 (b + 1) s = c) (c0 : 0 ≤ c) (c8 : c < 8) (cr : c < te_room s) : tb_Cv X 46 [tb_r b, tb_i s, tb_r 3] A Kv = Kv (tb_upI (tb_cpy A 3 0 (b + 2) ((s * 8 + c) * 6) 6) (b + 1) s (c + 1)) := by
  have b5 := te_b5 hb
  refine tb_dev (q46 hb kd_3 ?_)
  rw [te27 hb s0 s1 hc, if_pos cr, hc, tb_w_id (x := s * 8) (by omega) (by omega), tb_w_id (x := s * 8 + c) (by omega) (by omega), tb_w_id (x := (s * 8 + c) * 6) (by omega) (by omega), tb_w_id (x := (s * 8 + c) * 6 + 6) (by omega) (by omega)]
  have e : (tb_cpy A 3 0 (b + 2) ((s * 8 + c) * 6) 6).1 (b + 1) s = c := by
    rw [te_cpy_o (by omega)]; exact hc
  rw [e, tb_w_id (x := c + 1) (by omega) (by omega)]
  refine ⟨fun q => absurd rfl q, fun _ => ⟨fun q => absurd q (by decide), fun _ => ⟨fun _ => ⟨⟨s0, s1⟩, fun q => absurd q (by omega), fun _ => ⟨fun _ => ⟨⟨by omega, by omega, by omega, by decide, by omega⟩, ⟨s0, s1⟩, ⟨s0, s1⟩, rfl⟩, fun q => absurd q (by omega)⟩⟩, fun q => absurd q (by omega)⟩⟩⟩
/-- between lines: what both hold -/
def te_L0 (n : Int) (b : Nat) (N : Int) (A B : tb_H) : Prop := (A.1 1 10 = 0 ∧ B.1 77 13 = 0) ∧ te_tp n A B ∧ te_Tk n A B ∧ te_Nm b N (B.1 81 112) A B ∧ (N = B.1 81 112 + B.1 81 113 + B.1 81 114 + B.1 81 117 ∧ ∀ f, B.1 81 114 ≤ f → f < 4 → B.1 81 (57 + f) = 0) ∧ tb_rb A.1 b (B.1 81) ∧ tb_bb (B.1 81)
theorem te_tab1 : ∀ p ∈ tb_tab, 110 ≤ p.2.1 ∧ p.2.1 ≤ 118 ∧ 48 * (p.2.1 - 110) ≤ p.1 ∧ p.1 < 48 * (p.2.1 - 110) + 6 ∧ 0 ≤ p.2.2 ∧ p.2.2 + te_room (p.2.1 - 110) ≤ 110 := by decide +kernel
theorem te_bnd1 : (tb_bnd.all fun p => tb_tab.any fun q => decide (q.2.1 = p.1) && decide (q.2.2 = p.2.1)) = true := by decide +kernel
theorem te_scr1 : (tb_scr.all fun p => tb_tab.any fun q => decide (q.2.1 = p.1) && decide (q.2.2 = p.2)) = true := by decide +kernel
theorem te_rooms : ∀ s : Fin 9, te_room s.val ≤ 8 := by decide +kernel
theorem te_r0 : te_room 0 = 1 := by decide +kernel
theorem te_r1 : te_room 1 = 1 := by decide +kernel
theorem te_r2 : te_room 2 = 8 := by decide +kernel
theorem te_r3 : te_room 3 = 6 := by decide +kernel
theorem te_r4 : te_room 4 = 4 := by decide +kernel
theorem te_r5 : te_room 5 = 4 := by decide +kernel
theorem te_r6 : te_room 6 = 4 := by decide +kernel
theorem te_r7 : te_room 7 = 4 := by decide +kernel
theorem te_r8 : te_room 8 = 3 := by decide +kernel
theorem te_9 {z : Int} (z0 : 0 ≤ z) (z1 : z < 9) : z = 0 ∨ z = 1 ∨ z = 2 ∨ z = 3 ∨ z = 4 ∨ z = 5 ∨ z = 6 ∨ z = 7 ∨ z = 8 := by omega
theorem te_bbc {r : Int → Int} (h : tb_bb r) {z : Int} (z0 : 0 ≤ z) (z1 : z < 9) : 0 ≤ r (110 + z) ∧ r (110 + z) ≤ te_room z := by
  obtain ⟨b110, b111, b112, b113, b114, b115, b116, b117, b118, _, _⟩ := h
  rcases te_9 z0 z1 with rfl | rfl | rfl | rfl | rfl | rfl | rfl | rfl | rfl
  · rw [te_r0]; exact b110
  · rw [te_r1]; exact b111
  · rw [te_r2]; exact b112
  · rw [te_r3]; exact b113
  · rw [te_r4]; exact b114
  · rw [te_r5]; exact b115
  · rw [te_r6]; exact b116
  · rw [te_r7]; exact b117
  · rw [te_r8]; exact b118
theorem te_bbm {r : Int → Int} (h : ∀ z, 0 ≤ z → z < 9 → 0 ≤ r (110 + z) ∧ r (110 + z) ≤ te_room z) (hb : ∀ p ∈ tb_bnd, ∀ l, 0 ≤ l → l < r p.1 → p.2.2.1 ≤ r (p.2.1 + l) ∧ r (p.2.1 + l) ≤ p.2.2.2) (hs : ∀ p ∈ tb_scr, ∀ l, 0 ≤ l → l < r p.1 → 0 ≤ r (p.2 + l) ∧ r (p.2 + l) < r 112) : tb_bb r := by
  have h0 := h 0 (by decide) (by decide)
  have h1 := h 1 (by decide) (by decide)
  have h2 := h 2 (by decide) (by decide)
  have h3 := h 3 (by decide) (by decide)
  have h4 := h 4 (by decide) (by decide)
  have h5 := h 5 (by decide) (by decide)
  have h6 := h 6 (by decide) (by decide)
  have h7 := h 7 (by decide) (by decide)
  have h8 := h 8 (by decide) (by decide)
  rw [te_r0] at h0
  rw [te_r1] at h1
  rw [te_r2] at h2
  rw [te_r3] at h3
  rw [te_r4] at h4
  rw [te_r5] at h5
  rw [te_r6] at h6
  rw [te_r7] at h7
  rw [te_r8] at h8
  exact ⟨h0, h1, h2, h3, h4, h5, h6, h7, h8, hb, hs⟩
/-- a line's end: the row is kept by both -/
theorem te_lend (hb : tb_isB b) {B' : tb_H} {rho' : Int → Int} {c s N' : Int} (s0 : 0 ≤ s) (s1 : s < 9) (L0 : te_L0 n b N A0 B0) (hc : c = B0.1 81 (110 + s)) (cr : c < te_room s) (hA : A.1 1 10 = 0 ∧ B'.1 77 13 = 0) (T : te_tp n A B') (tk : te_Tk n A B') (h3 : ∀ p ∈ tb_tab, p.2.1 = 110 + s → A.1 3 (p.1 - 48 * s) = rho' (p.2.2 + c)) (nm : te_Nm b N' (td_up rho' (110 + s) (c + 1) 112) A B') (ho : A.1 (b + 1) = A0.1 (b + 1) ∧ A.1 (b + 2) = A0.1 (b + 2)) (hr : ∀ k, k < 119 → B'.1 81 k = rho' k)
    (hk : ∀ k, 110 ≤ k → k < 119 → rho' k = B0.1 81 k) (hold : ∀ p ∈ tb_tab, ∀ l, 0 ≤ l → l < B0.1 81 p.2.1 → rho' (p.2.2 + l) = B0.1 81 (p.2.2 + l)) (hbn : ∀ p ∈ tb_bnd, p.1 = 110 + s → p.2.2.1 ≤ rho' (p.2.1 + c) ∧ rho' (p.2.1 + c) ≤ p.2.2.2) (hsc : ∀ p ∈ tb_scr, p.1 = 110 + s → 0 ≤ rho' (p.2 + c) ∧ rho' (p.2 + c) < B0.1 81 112) (hN : N' = N + (if s = 2 ∨ s = 3 ∨ s = 4 ∨ s = 7 then 1 else 0)) (hz : ∀ q, (if (114 : Int) = 110 + s then c + 1 else B0.1 81 114) ≤ q → q < 4 → rho' (57 + q) = 0) :
    te_L0 n b N' (tb_upI (tb_cpy A 3 0 (b + 2) ((s * 8 + c) * 6) 6) (b + 1) s (c + 1)) (tb_upI B' 81 (110 + s) (c + 1)) := by
  have b5 := te_b5 hb
  obtain ⟨f0, T0, tk0, nm0, ⟨hN0, _⟩, rb, bb⟩ := L0
  have e77 : (tb_upI B' 81 (110 + s) (c + 1)).1 77 = B'.1 77 := td_upo (by decide)
  have e78 : (tb_upI B' 81 (110 + s) (c + 1)).1 78 = B'.1 78 := td_upo (by decide)
  have e79 : (tb_upI B' 81 (110 + s) (c + 1)).1 79 = B'.1 79 := td_upo (by decide)
  have oA : ∀ o, o ≠ b + 1 → o ≠ b + 2 → (tb_upI (tb_cpy A 3 0 (b + 2) ((s * 8 + c) * 6) 6) (b + 1) s (c + 1)).1 o = A.1 o := by
    intro o h1 h2
    rw [td_upo h1, te_cpy_o h2]
  have oL : (tb_upI (tb_cpy A 3 0 (b + 2) ((s * 8 + c) * 6) 6) (b + 1) s (c + 1)).2.1 = A.2.1 := rfl
  have cnt : ∀ k, 110 ≤ k → k < 119 → (tb_upI B' 81 (110 + s) (c + 1)).1 81 k = if k = 110 + s then c + 1 else B0.1 81 k := by
    intro k k0 k1
    rw [tb_uI1]
    by_cases e : k = 110 + s
    · rw [if_pos e, if_pos ⟨rfl, e⟩]
    · rw [if_neg e, if_neg (fun q => e q.2), hr k k1, hk k k0 k1]
  have low : ∀ k, k < 110 → (tb_upI B' 81 (110 + s) (c + 1)).1 81 k = rho' k := by
    intro k k1
    rw [tb_uI_k (by omega), hr k (by omega)]
  have cc := te_bbc bb s0 s1
  rw [← hc] at cc
  have rm8 : ∀ z, 0 ≤ z → z < 9 → te_room z ≤ 8 := by
    intro z z0 z1
    obtain ⟨y, rfl⟩ := Int.eq_ofNat_of_zero_le z0
    exact te_rooms ⟨y, by omega⟩
  have s8 := rm8 s s0 s1
  have c112 : (tb_upI B' 81 (110 + s) (c + 1)).1 81 112 = td_up rho' (110 + s) (c + 1) 112 := by
    rw [cnt 112 (by decide) (by decide)]
    show _ = if 112 = 110 + s then c + 1 else rho' 112
    by_cases e : (112 : Int) = 110 + s
    · rw [if_pos e, if_pos e]
    · rw [if_neg e, if_neg e, hk 112 (by decide) (by decide)]
  have inb : ∀ p ∈ tb_tab, ∀ l, 0 ≤ l → l < (if p.2.1 = 110 + s then c + 1 else B0.1 81 p.2.1) → p.2.2 + l < 110 ∧ l < 8 := by
    intro p hp l l0 l1
    have tp := te_tab1 p hp
    have rq := rm8 (p.2.1 - 110) (by omega) (by omega)
    by_cases e : p.2.1 = 110 + s
    · rw [if_pos e] at l1
      rw [e, show 110 + s - 110 = s by omega] at tp
      omega
    · rw [if_neg e] at l1
      have k := te_bbc bb (z := p.2.1 - 110) (by omega) (by omega)
      rw [show 110 + (p.2.1 - 110) = p.2.1 by omega] at k
      omega
  refine ⟨⟨by rw [oA 1 (by omega) (by omega)]; exact hA.1, by rw [e77]; exact hA.2⟩, ?_, ?_, ?_, ⟨?_, fun q q0 q1 => ?_⟩, ⟨fun z z0 z1 => ?_, fun p hp l l0 l1 => ?_⟩, te_bbm (fun z z0 z1 => ?_) (fun p hp l l0 l1 => ?_) (fun p hp l l0 l1 => ?_)⟩
  · unfold te_tp at T ⊢
    rw [oA 1 (by omega) (by omega), oA 2 (by omega) (by omega), e77, e78]
    exact T
  · unfold te_Tk at tk ⊢
    rw [oA 1 (by omega) (by omega), oL, e77, e79]
    exact tk
  · rw [c112]
    have h81 : ∀ k, 119 ≤ k → (tb_upI B' 81 (110 + s) (c + 1)).1 81 k = B'.1 81 k := fun k hk => tb_uI_k (by omega)
    refine ⟨⟨by rw [oA b (by omega) (by omega)]; exact nm.1.1, by rw [h81 119 (by decide)]; exact nm.1.2⟩, nm.2.1, fun i i0 i1 => ?_⟩
    have w := nm.2.2 i i0 i1
    rw [h81 (164 + i) (by omega), h81 (120 + i) (by omega), h81 (142 + i) (by omega), oL, oA (b + 4) (by omega) (by omega)]
    exact ⟨te_wd_c w.1 (fun k k0 k1 => h81 _ (by omega)), w.2⟩
  · rw [cnt 112 (by decide) (by decide), cnt 113 (by decide) (by decide), cnt 114 (by decide) (by decide), cnt 117 (by decide) (by decide), hN, hN0]
    have k2 : s = 2 → c = B0.1 81 112 := fun e => by rw [hc, e]; rfl
    have k3 : s = 3 → c = B0.1 81 113 := fun e => by rw [hc, e]; rfl
    have k4 : s = 4 → c = B0.1 81 114 := fun e => by rw [hc, e]; rfl
    have k7 : s = 7 → c = B0.1 81 117 := fun e => by rw [hc, e]; rfl
    ((repeat' split) <;> omega)
  · rw [cnt 114 (by decide) (by decide)] at q0
    rw [low (57 + q) (by omega)]
    exact hz q q0 q1
  · rw [cnt (110 + z) (by omega) (by omega)]
    by_cases e : z = s
    · rw [e, tb_uI_s, if_pos rfl]
    · rw [tb_uI_k e, te_cpy_o (by omega), ho.1, if_neg (by omega)]
      exact rb.1 z z0 z1
  · have tp := te_tab1 p hp
    rw [cnt p.2.1 tp.1 (by omega)] at l1
    have ib := inb p hp l l0 l1
    rw [low (p.2.2 + l) ib.1, td_upo (by omega)]
    show (if b + 2 = b + 2 ∧ (s * 8 + c) * 6 ≤ p.1 + 6 * l ∧ p.1 + 6 * l < (s * 8 + c) * 6 + 6 then A.1 3 (p.1 + 6 * l - (s * 8 + c) * 6 + 0) else A.1 (b + 2) (p.1 + 6 * l)) = _
    by_cases e : p.2.1 = 110 + s
    · rw [if_pos e] at l1
      by_cases lc : l = c
      · rw [if_pos ⟨rfl, by omega, by omega⟩, lc, show p.1 + 6 * c - (s * 8 + c) * 6 + 0 = p.1 - 48 * s by omega]
        exact h3 p hp e
      · rw [if_neg (fun q => by omega), ho.2, hold p hp l l0 (by rw [e, ← hc]; omega)]
        exact rb.2 p hp l l0 (by rw [e, ← hc]; omega)
    · rw [if_neg e] at l1
      rw [if_neg (fun q => by omega), ho.2, hold p hp l l0 l1]
      exact rb.2 p hp l l0 l1
  · rw [cnt (110 + z) (by omega) (by omega)]
    by_cases e : z = s
    · rw [if_pos (by omega), e]
      omega
    · rw [if_neg (by omega)]
      exact te_bbc bb z0 z1
  · have q := List.any_eq_true.mp (List.all_eq_true.mp te_bnd1 p hp)
    obtain ⟨t, ht, hq⟩ := q
    simp only [Bool.and_eq_true, decide_eq_true_eq] at hq
    have tp := te_tab1 t ht
    rw [cnt p.1 (by omega) (by omega)] at l1
    have ib := inb t ht l l0 (by rw [hq.1]; exact l1)
    rw [low (p.2.1 + l) (by omega)]
    by_cases e : p.1 = 110 + s
    · rw [if_pos e] at l1
      by_cases lc : l = c
      · rw [lc]; exact hbn p hp e
      · have h := hold t ht l l0 (by rw [hq.1, e, ← hc]; omega)
        rw [hq.2] at h
        rw [h]
        exact bb.2.2.2.2.2.2.2.2.2.1 p hp l l0 (by rw [e, ← hc]; omega)
    · rw [if_neg e] at l1
      have h := hold t ht l l0 (by rw [hq.1]; exact l1)
      rw [hq.2] at h
      rw [h]
      exact bb.2.2.2.2.2.2.2.2.2.1 p hp l l0 l1
  · have q := List.any_eq_true.mp (List.all_eq_true.mp te_scr1 p hp)
    obtain ⟨t, ht, hq⟩ := q
    simp only [Bool.and_eq_true, decide_eq_true_eq] at hq
    have tp := te_tab1 t ht
    rw [cnt p.1 (by omega) (by omega)] at l1
    have ib := inb t ht l l0 (by rw [hq.1]; exact l1)
    rw [low (p.2 + l) (by omega), cnt 112 (by decide) (by decide)]
    have k2 : s = 2 → c = B0.1 81 112 := fun e => by rw [hc, e]; rfl
    have up : B0.1 81 112 ≤ if (112 : Int) = 110 + s then c + 1 else B0.1 81 112 := by
      split <;> omega
    have old : 0 ≤ rho' (p.2 + l) ∧ rho' (p.2 + l) < B0.1 81 112 := by
      by_cases e : p.1 = 110 + s
      · rw [if_pos e] at l1
        by_cases lc : l = c
        · rw [lc]; exact hsc p hp e
        · have h := hold t ht l l0 (by rw [hq.1, e, ← hc]; omega)
          rw [hq.2] at h
          rw [h]
          exact bb.2.2.2.2.2.2.2.2.2.2 p hp l l0 (by rw [e, ← hc]; omega)
      · rw [if_neg e] at l1
        have h := hold t ht l l0 (by rw [hq.1]; exact l1)
        rw [hq.2] at h
        rw [h]
        exact bb.2.2.2.2.2.2.2.2.2.2 p hp l l0 l1
    omega
end TELEND
