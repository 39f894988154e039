/-! READER 11: the sorts of lines -/
section TELINES
variable {X : tb_X} {A B A0 B0 : tb_H} {K : Int → tb_H → Prop} {Kv : tb_H → Prop}
variable {n : Int} {b : Nat} {a0 sort N cs m : Int} {vs rho : Int → Int}
theorem te_us {a : Int → Int} {z v i : Int} (h : i = z) : td_up a z v i = v := if_pos h
theorem te_uk {a : Int → Int} {z v i : Int} (h : i ≠ z) : td_up a z v i = a i := if_neg h
theorem te_bd {x v lo hi : Int} (h : x = v) (q : lo ≤ v ∧ v ≤ hi) : lo ≤ x ∧ x ≤ hi := by rw [h]; exact q
theorem te_bd2 {x v lo hi : Int} (h : x = v) (q : lo ≤ v ∧ v < hi) : lo ≤ x ∧ x < hi := by rw [h]; exact q
theorem te_cin (hb : tb_isB b) {w kb nw : Nat} (hs : te_str w kb nw) (k : Kv A) : te_ci X b w nw A Kv := ⟨fun _ => k, fun _ j => q30_5 hb hs.1 hs.2.1 (by rw [te19 hs]; exact ⟨fun _ => k, fun q => absurd q (by omega)⟩)⟩
theorem te_ci0 (hb : tb_isB b) {w kb nw : Nat} (hs : te_str w kb nw) (f : A.1 1 10 = 0) (h : te_ci X b w 0 A Kv) : tb_Cv X 30 [tb_r 1, tb_r b, tb_r w] A Kv := q30 hb hs.1 hs.2.1 (h.2 f _)
theorem te_ptolds (hb : tb_isB b) {w kb nw : Nat} (hs : te_str w kb nw) {i e : Int} (i0 : 0 ≤ i) (i1 : i < e) (e1 : e < nw) (e8 : e - i ≤ 8) (hl : ∀ k, i ≤ k → k < e → 97 ≤ tb_cI kb k ∧ tb_cI kb k ≤ 122) (he : tb_cI kb e = 35) {w' kb' nw' : Nat} (hs' : te_ws w' kb' nw') (hcode : te_code (fun k => tb_cI kb (i + k)) (e - i).toNat = te_code (tb_cI kb') nw') (s0 : te_Sl n b a0 sort N cs m vs rho A0 B0 A B) (m0 : 0 ≤ m) (m6 : m < 6) {lo hi : Int} (lh : lo ≤ hi)
    (hlo : ∀ (A : tb_H) (K : Int → tb_H → Prop), A.1 1 8 = sort → A.1 1 9 = m → (∀ k, 0 ≤ k → k < m → A.1 3 k = vs k) → tb_Ci X 32 [tb_r 1] A K = K lo A) (hhi : ∀ (A : tb_H) (K : Int → tb_H → Prop), A.1 1 8 = sort → A.1 1 9 = m → tb_Ci X 33 [tb_r 1] A K = K hi A) :
    ∃ A' v B', (∀ K, te_ci X b w (e + 1) A' K → te_ci X b w i A K) ∧ (∀ K : Int → tb_H → Prop, K v B' → tb_Ci X 213 [tb_r 77, tb_r w', tb_i lo, tb_i hi] B K) ∧ te_Sl n b a0 sort N cs (m + 1) (td_up vs m v) rho A0 B0 A' B' ∧ (lo ≤ v ∧ v ≤ hi) ∧ (A'.1 1 10 = 0 → A.1 1 10 = 0) := by
  by_cases f : A.1 1 10 = 0
  · obtain ⟨A', v, B', h1, h2, h3, h4⟩ := te_ptold (X := X) hb hs i0 i1 e1 e8 hl he hs' hcode s0 m0 m6 lh hlo hhi
    exact ⟨A', v, B', h1, h2, h3, h4, fun _ => f⟩
  · obtain ⟨fA, fB, fl | LN⟩ := s0
    · exact ⟨A, lo, B, fun K k => ⟨fun q => k.1 q, fun q => absurd q f⟩, fun K k => q213 hs'.1.1 hs'.1.2.1 (q214 hs'.1.1 hs'.1.2.1 ⟨fun q => absurd q fl.2.1, fun _ => q215 ⟨fun q => absurd q fl.2.1, fun _ => k⟩⟩), te_Sl.old fA fB fl, ⟨by omega, by omega⟩, fun q => q⟩
    · exact absurd LN.1.1 f
theorem te_bt00 {v : Int} (v0 : 0 ≤ v) (v1 : v < 8) : tb_bt 0 v = 0 := (td_255 v0 v1).2
theorem te_ln0 (hb : tb_isB b) {y : Int} (L0 : te_L0 n b N A0 B0) (cr : B0.1 81 110 < 1) (S : te_Sl n b a0 0 N (B0.1 81 112) 0 vs (B0.1 81) A0 B0 A B) (f : A.1 1 10 = 0 ∧ B.1 77 13 = 0) (h81 : ∀ k, k < 119 → B.1 81 k = B0.1 81 k) : te_LR X n b a0 A0 B0 109 y 212 [tb_r 77] A B := by
  have bb := L0.2.2.2.2.2.2
  have hN := L0.2.2.2.2.1
  have z2 : 0 ≤ B0.1 81 112 ∧ B0.1 81 112 ≤ 8 := by have h := te_bbc bb (z := 2) (by decide) (by decide); rw [te_r2] at h; exact h
  have z3 : 0 ≤ B0.1 81 113 ∧ B0.1 81 113 ≤ 6 := by have h := te_bbc bb (z := 3) (by decide) (by decide); rw [te_r3] at h; exact h
  have z4 : 0 ≤ B0.1 81 114 ∧ B0.1 81 114 ≤ 4 := by have h := te_bbc bb (z := 4) (by decide) (by decide); rw [te_r4] at h; exact h
  have z7 : 0 ≤ B0.1 81 117 ∧ B0.1 81 117 ≤ 4 := by have h := te_bbc bb (z := 7) (by decide) (by decide); rw [te_r7] at h; exact h
  have cc : 0 ≤ B0.1 81 110 ∧ B0.1 81 110 ≤ 1 := by have h := te_bbc bb (z := 0) (by decide) (by decide); rw [te_r0] at h; exact h
  have hcn : B.1 81 110 = B0.1 81 110 := h81 110 (by decide)
  have c2 : A0.1 (b + 1) 2 = B0.1 81 112 := L0.2.2.2.2.2.1.1 2 (by decide) (by decide)
  obtain ⟨c, hc⟩ : ∃ c, B0.1 81 110 = c := ⟨_, rfl⟩
  have cr' : c < te_room 0 := by rw [te_r0, ← hc]; exact cr
  obtain ⟨A1, x0, B1, c1, r1, s1, b0, t1⟩ := te_ptolds (X := X) hb te_g109 (i := 0) (e := 4) (by decide) (by decide) (by decide) (by decide) (te_rgp (P := fun k => 97 ≤ tb_cI 110 k ∧ tb_cI 110 k ≤ 122) (by decide +kernel)) (by decide +kernel) te_w129 (by decide +kernel) S (by decide) (by decide) (lo := 0) (hi := 9) (by decide) (fun A K a d _ => by rw [te32 a d (by decide) (by decide) (by decide) (by decide) (by decide)]; exact congrArg (fun x => K x A) (by decide +kernel)) (fun A K a d => by rw [te33 a d (by decide) (by decide) (by decide) (by decide)]; exact congrArg (fun x => K x A) (by decide +kernel))
  have u1 := s1.up (p := 0) (v := x0) (by omega)
  obtain ⟨A2, x1, B2, c2, r2, s2, b1, t2⟩ := te_ptolds (X := X) hb te_g109 (i := 5) (e := 8) (by decide) (by decide) (by decide) (by decide) (te_rgp (P := fun k => 97 ≤ tb_cI 110 k ∧ tb_cI 110 k ≤ 122) (by decide +kernel)) (by decide +kernel) te_w131 (by decide +kernel) u1 (by decide) (by decide) (lo := 0) (hi := 9) (by decide) (fun A K a d _ => by rw [te32 a d (by decide) (by decide) (by decide) (by decide) (by decide)]; exact congrArg (fun x => K x A) (by decide +kernel)) (fun A K a d => by rw [te33 a d (by decide) (by decide) (by decide) (by decide)]; exact congrArg (fun x => K x A) (by decide +kernel))
  have u2 := s2.up (p := 1) (v := x1) (by omega)
  obtain ⟨A3, x2, B3, c3, r3, s3, b2, t3⟩ := te_ptolds (X := X) hb te_g109 (i := 9) (e := 14) (by decide) (by decide) (by decide) (by decide) (te_rgp (P := fun k => 97 ≤ tb_cI 110 k ∧ tb_cI 110 k ≤ 122) (by decide +kernel)) (by decide +kernel) te_w133 (by decide +kernel) u2 (by decide) (by decide) (lo := 1) (hi := 99) (by decide) (fun A K a d _ => by rw [te32 a d (by decide) (by decide) (by decide) (by decide) (by decide)]; exact congrArg (fun x => K x A) (by decide +kernel)) (fun A K a d => by rw [te33 a d (by decide) (by decide) (by decide) (by decide)]; exact congrArg (fun x => K x A) (by decide +kernel))
  have u3 := s3.up (p := 2) (v := x2) (by omega)
  obtain ⟨A4, x3, B4, c4, r4, s4, b3, t4⟩ := te_ptolds (X := X) hb te_g109 (i := 15) (e := 20) (by decide) (by decide) (by decide) (by decide) (te_rgp (P := fun k => 97 ≤ tb_cI 110 k ∧ tb_cI 110 k ≤ 122) (by decide +kernel)) (by decide +kernel) te_w135 (by decide +kernel) u3 (by decide) (by decide) (lo := 1) (hi := 30) (by decide) (fun A K a d _ => by rw [te32 a d (by decide) (by decide) (by decide) (by decide) (by decide)]; exact congrArg (fun x => K x A) (by decide +kernel)) (fun A K a d => by rw [te33 a d (by decide) (by decide) (by decide) (by decide)]; exact congrArg (fun x => K x A) (by decide +kernel))
  have u4 := s4.up (p := 3) (v := x3) (by omega)
  obtain ⟨A5, x4, B5, c5, r5, s5, b4, t5⟩ := te_ptolds (X := X) hb te_g109 (i := 21) (e := 25) (by decide) (by decide) (by decide) (by decide) (te_rgp (P := fun k => 97 ≤ tb_cI 110 k ∧ tb_cI 110 k ≤ 122) (by decide +kernel)) (by decide +kernel) te_w137 (by decide +kernel) u4 (by decide) (by decide) (lo := 0) (hi := 99) (by decide) (fun A K a d _ => by rw [te32 a d (by decide) (by decide) (by decide) (by decide) (by decide)]; exact congrArg (fun x => K x A) (by decide +kernel)) (fun A K a d => by rw [te33 a d (by decide) (by decide) (by decide) (by decide)]; exact congrArg (fun x => K x A) (by decide +kernel))
  have u5 := s5.up (p := 4) (v := x4) (by omega)
  obtain ⟨A6, x5, B6, c6, r6, s6, b5, t6⟩ := te_ptolds (X := X) hb te_g109 (i := 26) (e := 32) (by decide) (by decide) (by decide) (by decide) (te_rgp (P := fun k => 97 ≤ tb_cI 110 k ∧ tb_cI 110 k ≤ 122) (by decide +kernel)) (by decide +kernel) te_w139 (by decide +kernel) u5 (by decide) (by decide) (lo := 1) (hi := 30) (by decide) (fun A K a d _ => by rw [te32 a d (by decide) (by decide) (by decide) (by decide) (by decide)]; exact congrArg (fun x => K x A) (by decide +kernel)) (fun A K a d => by rw [te33 a d (by decide) (by decide) (by decide) (by decide)]; exact congrArg (fun x => K x A) (by decide +kernel))
  have u6 := s6.up (p := 5) (v := x5) (by omega)
  have pt : ∀ p ∈ tb_tab, p.2.1 = 110 + 0 → p = (0, 110, 0) ∨ p = (1, 110, 1) ∨ p = (2, 110, 2) ∨ p = (3, 110, 3) ∨ p = (4, 110, 4) ∨ p = (5, 110, 5) := by decide +kernel
  have pb1 : ∀ p ∈ tb_bnd, p.1 = 110 + 0 → p = (110, 0, 0, 9) ∨ p = (110, 1, 0, 9) ∨ 1 < p.2.1 := by decide +kernel
  have pb2 : ∀ p ∈ tb_bnd, p.1 = 110 + 0 → 1 < p.2.1 → p = (110, 2, 1, 99) ∨ p = (110, 3, 1, 30) ∨ p = (110, 4, 0, 99) ∨ 4 < p.2.1 := by decide +kernel
  have pb3 : ∀ p ∈ tb_bnd, p.1 = 110 + 0 → 4 < p.2.1 → p = (110, 5, 1, 30) := by decide +kernel
  have pb : ∀ p ∈ tb_bnd, p.1 = 110 + 0 → p = (110, 0, 0, 9) ∨ p = (110, 1, 0, 9) ∨ p = (110, 2, 1, 99) ∨ p = (110, 3, 1, 30) ∨ p = (110, 4, 0, 99) ∨ p = (110, 5, 1, 30) := by
    intro p hp e
    rcases pb1 p hp e with h | h | h
    · exact Or.inl h
    · exact Or.inr (Or.inl h)
    · exact Or.inr (Or.inr ((pb2 p hp e h).imp id (Or.imp id (Or.imp id (pb3 p hp e)))))
  have ps : ∀ p ∈ tb_scr, p.1 = 110 + 0 → False := by decide +kernel
  obtain ⟨Z, zc, zA, zB, zz⟩ := te_finl (X := X) hb (y := y) (s := 0) (c := c) (by decide) (by decide) L0 hc cr' u6 (x := 1) (fun _ _ => by omega)
    (fun p hp e => by
      rcases pt p hp e with rfl | rfl | rfl | rfl | rfl | rfl
      · exact ⟨⟨by decide, by decide⟩, (((te_uk (by decide)).trans ((te_uk (by decide)).trans ((te_uk (by decide)).trans ((te_uk (by decide)).trans ((te_uk (by decide)).trans (te_us (by decide))))))) : (td_up (td_up (td_up (td_up (td_up (td_up vs (0) x0) (0 + 1) x1) (0 + 1 + 1) x2) (0 + 1 + 1 + 1) x3) (0 + 1 + 1 + 1 + 1) x4) (0 + 1 + 1 + 1 + 1 + 1) x5) 0 = x0).trans (((te_uk (by omega)).trans ((te_uk (by omega)).trans ((te_uk (by omega)).trans ((te_uk (by omega)).trans ((te_uk (by omega)).trans (te_us (by omega))))))) : (td_up (td_up (td_up (td_up (td_up (td_up (B0.1 81) 0 x0) 1 x1) 2 x2) 3 x3) 4 x4) 5 x5) (0 + c) = x0).symm⟩
      · exact ⟨⟨by decide, by decide⟩, (((te_uk (by decide)).trans ((te_uk (by decide)).trans ((te_uk (by decide)).trans ((te_uk (by decide)).trans (te_us (by decide)))))) : (td_up (td_up (td_up (td_up (td_up (td_up vs (0) x0) (0 + 1) x1) (0 + 1 + 1) x2) (0 + 1 + 1 + 1) x3) (0 + 1 + 1 + 1 + 1) x4) (0 + 1 + 1 + 1 + 1 + 1) x5) 1 = x1).trans (((te_uk (by omega)).trans ((te_uk (by omega)).trans ((te_uk (by omega)).trans ((te_uk (by omega)).trans (te_us (by omega)))))) : (td_up (td_up (td_up (td_up (td_up (td_up (B0.1 81) 0 x0) 1 x1) 2 x2) 3 x3) 4 x4) 5 x5) (1 + c) = x1).symm⟩
      · exact ⟨⟨by decide, by decide⟩, (((te_uk (by decide)).trans ((te_uk (by decide)).trans ((te_uk (by decide)).trans (te_us (by decide))))) : (td_up (td_up (td_up (td_up (td_up (td_up vs (0) x0) (0 + 1) x1) (0 + 1 + 1) x2) (0 + 1 + 1 + 1) x3) (0 + 1 + 1 + 1 + 1) x4) (0 + 1 + 1 + 1 + 1 + 1) x5) 2 = x2).trans (((te_uk (by omega)).trans ((te_uk (by omega)).trans ((te_uk (by omega)).trans (te_us (by omega))))) : (td_up (td_up (td_up (td_up (td_up (td_up (B0.1 81) 0 x0) 1 x1) 2 x2) 3 x3) 4 x4) 5 x5) (2 + c) = x2).symm⟩
      · exact ⟨⟨by decide, by decide⟩, (((te_uk (by decide)).trans ((te_uk (by decide)).trans (te_us (by decide)))) : (td_up (td_up (td_up (td_up (td_up (td_up vs (0) x0) (0 + 1) x1) (0 + 1 + 1) x2) (0 + 1 + 1 + 1) x3) (0 + 1 + 1 + 1 + 1) x4) (0 + 1 + 1 + 1 + 1 + 1) x5) 3 = x3).trans (((te_uk (by omega)).trans ((te_uk (by omega)).trans (te_us (by omega)))) : (td_up (td_up (td_up (td_up (td_up (td_up (B0.1 81) 0 x0) 1 x1) 2 x2) 3 x3) 4 x4) 5 x5) (3 + c) = x3).symm⟩
      · exact ⟨⟨by decide, by decide⟩, (((te_uk (by decide)).trans (te_us (by decide))) : (td_up (td_up (td_up (td_up (td_up (td_up vs (0) x0) (0 + 1) x1) (0 + 1 + 1) x2) (0 + 1 + 1 + 1) x3) (0 + 1 + 1 + 1 + 1) x4) (0 + 1 + 1 + 1 + 1 + 1) x5) 4 = x4).trans (((te_uk (by omega)).trans (te_us (by omega))) : (td_up (td_up (td_up (td_up (td_up (td_up (B0.1 81) 0 x0) 1 x1) 2 x2) 3 x3) 4 x4) 5 x5) (4 + c) = x4).symm⟩
      · exact ⟨⟨by decide, by decide⟩, ((te_us (by decide)) : (td_up (td_up (td_up (td_up (td_up (td_up vs (0) x0) (0 + 1) x1) (0 + 1 + 1) x2) (0 + 1 + 1 + 1) x3) (0 + 1 + 1 + 1 + 1) x4) (0 + 1 + 1 + 1 + 1 + 1) x5) 5 = x5).trans ((te_us (by omega)) : (td_up (td_up (td_up (td_up (td_up (td_up (B0.1 81) 0 x0) 1 x1) 2 x2) 3 x3) 4 x4) 5 x5) (5 + c) = x5).symm⟩
      )
    (fun k k1 hq => ((te_uk (fun e => hq (5, 110, 5) (by decide) (by decide) (by show k = 5 + c; omega))).trans ((te_uk (fun e => hq (4, 110, 4) (by decide) (by decide) (by show k = 4 + c; omega))).trans ((te_uk (fun e => hq (3, 110, 3) (by decide) (by decide) (by show k = 3 + c; omega))).trans ((te_uk (fun e => hq (2, 110, 2) (by decide) (by decide) (by show k = 2 + c; omega))).trans ((te_uk (fun e => hq (1, 110, 1) (by decide) (by decide) (by show k = 1 + c; omega))).trans ((te_uk (fun e => hq (0, 110, 0) (by decide) (by decide) (by show k = 0 + c; omega))).trans (rfl))))))))
    (fun p hp e => by
      rcases pb p hp e with rfl | rfl | rfl | rfl | rfl | rfl
      · exact te_bd (lo := 0) (hi := 9) (((te_uk (by omega)).trans ((te_uk (by omega)).trans ((te_uk (by omega)).trans ((te_uk (by omega)).trans ((te_uk (by omega)).trans (te_us (by omega))))))) : (td_up (td_up (td_up (td_up (td_up (td_up (B0.1 81) 0 x0) 1 x1) 2 x2) 3 x3) 4 x4) 5 x5) (0 + c) = x0) b0
      · exact te_bd (lo := 0) (hi := 9) (((te_uk (by omega)).trans ((te_uk (by omega)).trans ((te_uk (by omega)).trans ((te_uk (by omega)).trans (te_us (by omega)))))) : (td_up (td_up (td_up (td_up (td_up (td_up (B0.1 81) 0 x0) 1 x1) 2 x2) 3 x3) 4 x4) 5 x5) (1 + c) = x1) b1
      · exact te_bd (lo := 1) (hi := 99) (((te_uk (by omega)).trans ((te_uk (by omega)).trans ((te_uk (by omega)).trans (te_us (by omega))))) : (td_up (td_up (td_up (td_up (td_up (td_up (B0.1 81) 0 x0) 1 x1) 2 x2) 3 x3) 4 x4) 5 x5) (2 + c) = x2) b2
      · exact te_bd (lo := 1) (hi := 30) (((te_uk (by omega)).trans ((te_uk (by omega)).trans (te_us (by omega)))) : (td_up (td_up (td_up (td_up (td_up (td_up (B0.1 81) 0 x0) 1 x1) 2 x2) 3 x3) 4 x4) 5 x5) (3 + c) = x3) b3
      · exact te_bd (lo := 0) (hi := 99) (((te_uk (by omega)).trans (te_us (by omega))) : (td_up (td_up (td_up (td_up (td_up (td_up (B0.1 81) 0 x0) 1 x1) 2 x2) 3 x3) 4 x4) 5 x5) (4 + c) = x4) b4
      · exact te_bd (lo := 1) (hi := 30) ((te_us (by omega)) : (td_up (td_up (td_up (td_up (td_up (td_up (B0.1 81) 0 x0) 1 x1) 2 x2) 3 x3) 4 x4) 5 x5) (5 + c) = x5) b5
      )
    (fun _ p hp e => absurd (ps p hp e) id)
    (by rw [if_neg (by decide)]; omega) (by rw [if_neg (by decide)])
  exact ⟨Z, _, fun K k => te_ci0 hb te_g109 f.1 (c1 _ (c2 _ (c3 _ (c4 _ (c5 _ (c6 _ (te_cin hb te_g109 (zc K k)))))))), fun K k => q212 ⟨fun _ => by exact r1 _ (r2 _ (r3 _ (r4 _ (r5 _ (r6 _ (k)))))), fun q => absurd f.2 q⟩, zA, zB, zz⟩
theorem te_ln1 (hb : tb_isB b) {y : Int} (L0 : te_L0 n b N A0 B0) (cr : B0.1 81 111 < 1) (S : te_Sl n b a0 1 N (B0.1 81 112) 0 vs (B0.1 81) A0 B0 A B) (f : A.1 1 10 = 0 ∧ B.1 77 13 = 0) (h81 : ∀ k, k < 119 → B.1 81 k = B0.1 81 k) : te_LR X n b a0 A0 B0 111 y 216 [tb_r 77] A B := by
  have bb := L0.2.2.2.2.2.2
  have hN := L0.2.2.2.2.1
  have z2 : 0 ≤ B0.1 81 112 ∧ B0.1 81 112 ≤ 8 := by have h := te_bbc bb (z := 2) (by decide) (by decide); rw [te_r2] at h; exact h
  have z3 : 0 ≤ B0.1 81 113 ∧ B0.1 81 113 ≤ 6 := by have h := te_bbc bb (z := 3) (by decide) (by decide); rw [te_r3] at h; exact h
  have z4 : 0 ≤ B0.1 81 114 ∧ B0.1 81 114 ≤ 4 := by have h := te_bbc bb (z := 4) (by decide) (by decide); rw [te_r4] at h; exact h
  have z7 : 0 ≤ B0.1 81 117 ∧ B0.1 81 117 ≤ 4 := by have h := te_bbc bb (z := 7) (by decide) (by decide); rw [te_r7] at h; exact h
  have cc : 0 ≤ B0.1 81 111 ∧ B0.1 81 111 ≤ 1 := by have h := te_bbc bb (z := 1) (by decide) (by decide); rw [te_r1] at h; exact h
  have hcn : B.1 81 111 = B0.1 81 111 := h81 111 (by decide)
  have c2 : A0.1 (b + 1) 2 = B0.1 81 112 := L0.2.2.2.2.2.1.1 2 (by decide) (by decide)
  obtain ⟨c, hc⟩ : ∃ c, B0.1 81 111 = c := ⟨_, rfl⟩
  have cr' : c < te_room 1 := by rw [te_r1, ← hc]; exact cr
  obtain ⟨A1, x0, x1, B1, c1, r1, s1, b0, b1⟩ := te_pcell (X := X) hb te_g111 (i := 0) (by decide) (by decide) (by decide +kernel) S (by decide) (by decide) (p := 6) (q := 7) (by omega) (by omega) (by omega) (by omega) (fun z hz A K a d => by rcases hz with rfl | rfl <;> (rw [te32 a d (by decide) (by decide) (by decide) (by decide) (by decide)]; exact congrArg (fun x => K x A) (by decide +kernel))) (fun z hz A K a d => by rcases hz with rfl | rfl <;> (rw [te33 a d (by decide) (by decide) (by decide) (by decide)]; exact congrArg (fun x => K x A) (by decide +kernel)))
  obtain ⟨A2, x2, B2, c2, r2, s2, b2, t2⟩ := te_ptolds (X := X) hb te_g111 (i := 5) (e := 10) (by decide) (by decide) (by decide) (by decide) (te_rgp (P := fun k => 97 ≤ tb_cI 112 k ∧ tb_cI 112 k ≤ 122) (by decide +kernel)) (by decide +kernel) te_w145 (by decide +kernel) s1 (by decide) (by decide) (lo := 0) (hi := 7) (by decide) (fun A K a d _ => by rw [te32 a d (by decide) (by decide) (by decide) (by decide) (by decide)]; exact congrArg (fun x => K x A) (by decide +kernel)) (fun A K a d => by rw [te33 a d (by decide) (by decide) (by decide) (by decide)]; exact congrArg (fun x => K x A) (by decide +kernel))
  have u2 := s2.up (p := 8) (v := x2) (by omega)
  have pt : ∀ p ∈ tb_tab, p.2.1 = 110 + 1 → p = (48, 111, 6) ∨ p = (49, 111, 7) ∨ p = (50, 111, 8) := by decide +kernel
  have pb : ∀ p ∈ tb_bnd, p.1 = 110 + 1 → p = (111, 6, 0, 9) ∨ p = (111, 7, 0, 9) ∨ p = (111, 8, 0, 7) := by decide +kernel
  have ps : ∀ p ∈ tb_scr, p.1 = 110 + 1 → False := by decide +kernel
  obtain ⟨Z, zc, zA, zB, zz⟩ := te_finl (X := X) hb (y := y) (s := 1) (c := c) (by decide) (by decide) L0 hc cr' u2 (x := 1) (fun _ _ => by omega)
    (fun p hp e => by
      rcases pt p hp e with rfl | rfl | rfl
      · exact ⟨⟨by decide, by decide⟩, (((te_uk (by decide)).trans ((te_uk (by decide)).trans (te_us (by decide)))) : (td_up (td_up (td_up vs (0) x0) (0 + 1) x1) (0 + 2) x2) 0 = x0).trans (((te_uk (by omega)).trans ((te_uk (by omega)).trans (te_us (by omega)))) : (td_up (td_up (td_up (B0.1 81) 6 x0) 7 x1) 8 x2) (6 + c) = x0).symm⟩
      · exact ⟨⟨by decide, by decide⟩, (((te_uk (by decide)).trans (te_us (by decide))) : (td_up (td_up (td_up vs (0) x0) (0 + 1) x1) (0 + 2) x2) 1 = x1).trans (((te_uk (by omega)).trans (te_us (by omega))) : (td_up (td_up (td_up (B0.1 81) 6 x0) 7 x1) 8 x2) (7 + c) = x1).symm⟩
      · exact ⟨⟨by decide, by decide⟩, ((te_us (by decide)) : (td_up (td_up (td_up vs (0) x0) (0 + 1) x1) (0 + 2) x2) 2 = x2).trans ((te_us (by omega)) : (td_up (td_up (td_up (B0.1 81) 6 x0) 7 x1) 8 x2) (8 + c) = x2).symm⟩
      )
    (fun k k1 hq => ((te_uk (fun e => hq (50, 111, 8) (by decide) (by decide) (by show k = 8 + c; omega))).trans ((te_uk (fun e => hq (49, 111, 7) (by decide) (by decide) (by show k = 7 + c; omega))).trans ((te_uk (fun e => hq (48, 111, 6) (by decide) (by decide) (by show k = 6 + c; omega))).trans (rfl)))))
    (fun p hp e => by
      rcases pb p hp e with rfl | rfl | rfl
      · exact te_bd (lo := 0) (hi := 9) (((te_uk (by omega)).trans ((te_uk (by omega)).trans (te_us (by omega)))) : (td_up (td_up (td_up (B0.1 81) 6 x0) 7 x1) 8 x2) (6 + c) = x0) b0
      · exact te_bd (lo := 0) (hi := 9) (((te_uk (by omega)).trans (te_us (by omega))) : (td_up (td_up (td_up (B0.1 81) 6 x0) 7 x1) 8 x2) (7 + c) = x1) b1
      · exact te_bd (lo := 0) (hi := 7) ((te_us (by omega)) : (td_up (td_up (td_up (B0.1 81) 6 x0) 7 x1) 8 x2) (8 + c) = x2) b2
      )
    (fun _ p hp e => absurd (ps p hp e) id)
    (by rw [if_neg (by decide)]; omega) (by rw [if_neg (by decide)])
  exact ⟨Z, _, fun K k => te_ci0 hb te_g111 f.1 (c1 _ (c2 _ (te_cin hb te_g111 (zc K k)))), fun K k => q216 ⟨fun _ => by exact r1 _ (r2 _ (k)), fun q => absurd f.2 q⟩, zA, zB, zz⟩
theorem te_ln2 (hb : tb_isB b) {y : Int} (L0 : te_L0 n b N A0 B0) (cr : B0.1 81 112 < 8) (S : te_Sl n b a0 2 N (B0.1 81 112) 0 vs (B0.1 81) A0 B0 A B) (f : A.1 1 10 = 0 ∧ B.1 77 13 = 0) (h81 : ∀ k, k < 119 → B.1 81 k = B0.1 81 k) : te_LR X n b a0 A0 B0 113 y 218 [tb_r 77] A B := by
  have bb := L0.2.2.2.2.2.2
  have hN := L0.2.2.2.2.1
  have z2 : 0 ≤ B0.1 81 112 ∧ B0.1 81 112 ≤ 8 := by have h := te_bbc bb (z := 2) (by decide) (by decide); rw [te_r2] at h; exact h
  have z3 : 0 ≤ B0.1 81 113 ∧ B0.1 81 113 ≤ 6 := by have h := te_bbc bb (z := 3) (by decide) (by decide); rw [te_r3] at h; exact h
  have z4 : 0 ≤ B0.1 81 114 ∧ B0.1 81 114 ≤ 4 := by have h := te_bbc bb (z := 4) (by decide) (by decide); rw [te_r4] at h; exact h
  have z7 : 0 ≤ B0.1 81 117 ∧ B0.1 81 117 ≤ 4 := by have h := te_bbc bb (z := 7) (by decide) (by decide); rw [te_r7] at h; exact h
  have cc : 0 ≤ B0.1 81 112 ∧ B0.1 81 112 ≤ 8 := by have h := te_bbc bb (z := 2) (by decide) (by decide); rw [te_r2] at h; exact h
  have hcn : B.1 81 112 = B0.1 81 112 := h81 112 (by decide)
  have c2 : A0.1 (b + 1) 2 = B0.1 81 112 := L0.2.2.2.2.2.1.1 2 (by decide) (by decide)
  obtain ⟨c, hc⟩ : ∃ c, B0.1 81 112 = c := ⟨_, rfl⟩
  have cr' : c < te_room 2 := by rw [te_r2, ← hc]; exact cr
  obtain ⟨A1, B1, c1, r1, s1⟩ := te_pname (X := X) hb te_g113 (i := 0) (by decide) (by decide) (by decide +kernel) S (by omega) (so := 0) (nu := c) (by decide) (fun q => hc.symm) c2 z2.1
  obtain ⟨A2, x0, x1, B2, c2, r2, s2, b0, b1⟩ := te_pcell (X := X) hb te_g113 (i := 1) (by decide) (by decide) (by decide +kernel) s1 (by decide) (by decide) (p := (9 + c)) (q := (17 + c)) (by omega) (by omega) (by omega) (by omega) (fun z hz A K a d => by rcases hz with rfl | rfl <;> (rw [te32 a d (by decide) (by decide) (by decide) (by decide) (by decide)]; exact congrArg (fun x => K x A) (by decide +kernel))) (fun z hz A K a d => by rcases hz with rfl | rfl <;> (rw [te33 a d (by decide) (by decide) (by decide) (by decide)]; exact congrArg (fun x => K x A) (by decide +kernel)))
  obtain ⟨A3, x2, B3, c3, r3, s3, b2, t3⟩ := te_ptolds (X := X) hb te_g113 (i := 6) (e := 11) (by decide) (by decide) (by decide) (by decide) (te_rgp (P := fun k => 97 ≤ tb_cI 114 k ∧ tb_cI 114 k ≤ 122) (by decide +kernel)) (by decide +kernel) te_w163 (by decide +kernel) s2 (by decide) (by decide) (lo := 1) (hi := 99) (by decide) (fun A K a d _ => by rw [te32 a d (by decide) (by decide) (by decide) (by decide) (by decide)]; exact congrArg (fun x => K x A) (by decide +kernel)) (fun A K a d => by rw [te33 a d (by decide) (by decide) (by decide) (by decide)]; exact congrArg (fun x => K x A) (by decide +kernel))
  have u3 := s3.up (p := (25 + c)) (v := x2) (by omega)
  have pt : ∀ p ∈ tb_tab, p.2.1 = 110 + 2 → p = (96, 112, 9) ∨ p = (97, 112, 17) ∨ p = (98, 112, 25) := by decide +kernel
  have pb : ∀ p ∈ tb_bnd, p.1 = 110 + 2 → p = (112, 9, 0, 9) ∨ p = (112, 17, 0, 9) ∨ p = (112, 25, 1, 99) := by decide +kernel
  have ps : ∀ p ∈ tb_scr, p.1 = 110 + 2 → False := by decide +kernel
  obtain ⟨Z, zc, zA, zB, zz⟩ := te_finl (X := X) hb (y := y) (s := 2) (c := c) (by decide) (by decide) L0 hc cr' u3 (x := (tb_w ((tb_upI B3 81 (25 + c) x2).1 81 112 + 1))) (fun _ h => by rw [show (tb_upI B3 81 (25 + c) x2).1 81 112 = c from h.trans (((te_uk (by omega)).trans ((te_uk (by omega)).trans ((te_uk (by omega)).trans (hc)))) : (td_up (td_up (td_up (B0.1 81) (9 + c) x0) (17 + c) x1) (25 + c) x2) 112 = c), tb_w_id (by omega) (by omega)])
    (fun p hp e => by
      rcases pt p hp e with rfl | rfl | rfl
      · exact ⟨⟨by decide, by decide⟩, (((te_uk (by decide)).trans ((te_uk (by decide)).trans (te_us (by decide)))) : (td_up (td_up (td_up vs (0) x0) (0 + 1) x1) (0 + 2) x2) 0 = x0).trans (((te_uk (by omega)).trans ((te_uk (by omega)).trans (te_us (by omega)))) : (td_up (td_up (td_up (B0.1 81) (9 + c) x0) (17 + c) x1) (25 + c) x2) (9 + c) = x0).symm⟩
      · exact ⟨⟨by decide, by decide⟩, (((te_uk (by decide)).trans (te_us (by decide))) : (td_up (td_up (td_up vs (0) x0) (0 + 1) x1) (0 + 2) x2) 1 = x1).trans (((te_uk (by omega)).trans (te_us (by omega))) : (td_up (td_up (td_up (B0.1 81) (9 + c) x0) (17 + c) x1) (25 + c) x2) (17 + c) = x1).symm⟩
      · exact ⟨⟨by decide, by decide⟩, ((te_us (by decide)) : (td_up (td_up (td_up vs (0) x0) (0 + 1) x1) (0 + 2) x2) 2 = x2).trans ((te_us (by omega)) : (td_up (td_up (td_up (B0.1 81) (9 + c) x0) (17 + c) x1) (25 + c) x2) (25 + c) = x2).symm⟩
      )
    (fun k k1 hq => ((te_uk (fun e => hq (98, 112, 25) (by decide) (by decide) e)).trans ((te_uk (fun e => hq (97, 112, 17) (by decide) (by decide) e)).trans ((te_uk (fun e => hq (96, 112, 9) (by decide) (by decide) e)).trans (rfl)))))
    (fun p hp e => by
      rcases pb p hp e with rfl | rfl | rfl
      · exact te_bd (lo := 0) (hi := 9) (((te_uk (by omega)).trans ((te_uk (by omega)).trans (te_us (by omega)))) : (td_up (td_up (td_up (B0.1 81) (9 + c) x0) (17 + c) x1) (25 + c) x2) (9 + c) = x0) b0
      · exact te_bd (lo := 0) (hi := 9) (((te_uk (by omega)).trans (te_us (by omega))) : (td_up (td_up (td_up (B0.1 81) (9 + c) x0) (17 + c) x1) (25 + c) x2) (17 + c) = x1) b1
      · exact te_bd (lo := 1) (hi := 99) ((te_us (by omega)) : (td_up (td_up (td_up (B0.1 81) (9 + c) x0) (17 + c) x1) (25 + c) x2) (25 + c) = x2) b2
      )
    (fun _ p hp e => absurd (ps p hp e) id)
    (by rw [if_pos (by decide)]) (by rw [if_pos (by decide), if_pos (by decide)]; exact congrArg (· + 1) hc)
  exact ⟨Z, _, fun K k => te_ci0 hb te_g113 f.1 (c1 _ (c2 _ (c3 _ (te_cin hb te_g113 (zc K k))))), fun K k => q218 ⟨fun _ => by rw [hcn, hc, tb_w_id (x := 9 + c) (by omega) (by omega), tb_w_id (x := 17 + c) (by omega) (by omega), tb_w_id (x := 25 + c) (by omega) (by omega)]; exact r1 _ (r2 _ (r3 _ (⟨⟨by omega, by omega⟩, k⟩))), fun q => absurd f.2 q⟩, zA, zB, zz⟩
theorem te_ln3 (hb : tb_isB b) {y : Int} (L0 : te_L0 n b N A0 B0) (cr : B0.1 81 113 < 6) (S : te_Sl n b a0 3 N (B0.1 81 112) 0 vs (B0.1 81) A0 B0 A B) (f : A.1 1 10 = 0 ∧ B.1 77 13 = 0) (h81 : ∀ k, k < 119 → B.1 81 k = B0.1 81 k) : te_LR X n b a0 A0 B0 115 y 222 [tb_r 77] A B := by
  have bb := L0.2.2.2.2.2.2
  have hN := L0.2.2.2.2.1
  have z2 : 0 ≤ B0.1 81 112 ∧ B0.1 81 112 ≤ 8 := by have h := te_bbc bb (z := 2) (by decide) (by decide); rw [te_r2] at h; exact h
  have z3 : 0 ≤ B0.1 81 113 ∧ B0.1 81 113 ≤ 6 := by have h := te_bbc bb (z := 3) (by decide) (by decide); rw [te_r3] at h; exact h
  have z4 : 0 ≤ B0.1 81 114 ∧ B0.1 81 114 ≤ 4 := by have h := te_bbc bb (z := 4) (by decide) (by decide); rw [te_r4] at h; exact h
  have z7 : 0 ≤ B0.1 81 117 ∧ B0.1 81 117 ≤ 4 := by have h := te_bbc bb (z := 7) (by decide) (by decide); rw [te_r7] at h; exact h
  have cc : 0 ≤ B0.1 81 113 ∧ B0.1 81 113 ≤ 6 := by have h := te_bbc bb (z := 3) (by decide) (by decide); rw [te_r3] at h; exact h
  have hcn : B.1 81 113 = B0.1 81 113 := h81 113 (by decide)
  have c2 : A0.1 (b + 1) 2 = B0.1 81 112 := L0.2.2.2.2.2.1.1 2 (by decide) (by decide)
  obtain ⟨c, hc⟩ : ∃ c, B0.1 81 113 = c := ⟨_, rfl⟩
  have cr' : c < te_room 3 := by rw [te_r3, ← hc]; exact cr
  obtain ⟨A1, B1, c1, r1, s1⟩ := te_pname (X := X) hb te_g115 (i := 0) (by decide) (by decide) (by decide +kernel) S (by omega) (so := 1) (nu := c) (by decide) (fun q => absurd q (by decide)) c2 z2.1
  obtain ⟨A2, B2, c2, r2, s2⟩ := te_pword (X := X) hb te_g115 (i := 1) (e := 3) (by decide) (by decide) (by decide) (by decide) (te_rgp (P := fun k => 97 ≤ tb_cI 116 k ∧ tb_cI 116 k ≤ 122) (by decide +kernel)) (fun _ => by decide +kernel) te_w165 (by decide +kernel) s1
  obtain ⟨A3, x0, B3, c3, r3, s3, b0⟩ := te_pscu (X := X) hb te_g115 (i := 3) (by decide) (by decide) (by decide +kernel) s2 (by decide) (by decide) (mask := 0) (f := fun _ => 0) (by omega) (fun q => absurd q (by decide)) (fun v v0 v1 => by rw [if_neg (by decide)]; exact te_bt00 v0 (by omega))
  have u3 := s3.up (p := (33 + c)) (v := x0) (by omega)
  obtain ⟨A4, x1, B4, c4, r4, s4, b1, t4⟩ := te_ptolds (X := X) hb te_g115 (i := 4) (e := 10) (by decide) (by decide) (by decide) (by decide) (te_rgp (P := fun k => 97 ≤ tb_cI 116 k ∧ tb_cI 116 k ≤ 122) (by decide +kernel)) (by decide +kernel) te_w167 (by decide +kernel) u3 (by decide) (by decide) (lo := 1) (hi := 30) (by decide) (fun A K a d _ => by rw [te32 a d (by decide) (by decide) (by decide) (by decide) (by decide)]; exact congrArg (fun x => K x A) (by decide +kernel)) (fun A K a d => by rw [te33 a d (by decide) (by decide) (by decide) (by decide)]; exact congrArg (fun x => K x A) (by decide +kernel))
  have u4 := s4.up (p := (39 + c)) (v := x1) (by omega)
  obtain ⟨A5, x2, B5, c5, r5, s5, b2, t5⟩ := te_ptolds (X := X) hb te_g115 (i := 11) (e := 15) (by decide) (by decide) (by decide) (by decide) (te_rgp (P := fun k => 97 ≤ tb_cI 116 k ∧ tb_cI 116 k ≤ 122) (by decide +kernel)) (by decide +kernel) te_w169 (by decide +kernel) u4 (by decide) (by decide) (lo := 1) (hi := 60) (by decide) (fun A K a d _ => by rw [te32 a d (by decide) (by decide) (by decide) (by decide) (by decide)]; exact congrArg (fun x => K x A) (by decide +kernel)) (fun A K a d => by rw [te33 a d (by decide) (by decide) (by decide) (by decide)]; exact congrArg (fun x => K x A) (by decide +kernel))
  have u5 := s5.up (p := (45 + c)) (v := x2) (by omega)
  obtain ⟨A6, x3, B6, c6, r6, s6, b3, t6⟩ := te_ptolds (X := X) hb te_g115 (i := 16) (e := 21) (by decide) (by decide) (by decide) (by decide) (te_rgp (P := fun k => 97 ≤ tb_cI 116 k ∧ tb_cI 116 k ≤ 122) (by decide +kernel)) (by decide +kernel) te_w171 (by decide +kernel) u5 (by decide) (by decide) (lo := 1) (hi := 99) (by decide) (fun A K a d _ => by rw [te32 a d (by decide) (by decide) (by decide) (by decide) (by decide)]; exact congrArg (fun x => K x A) (by decide +kernel)) (fun A K a d => by rw [te33 a d (by decide) (by decide) (by decide) (by decide)]; exact congrArg (fun x => K x A) (by decide +kernel))
  have u6 := s6.up (p := (51 + c)) (v := x3) (by omega)
  have pt : ∀ p ∈ tb_tab, p.2.1 = 110 + 3 → p = (144, 113, 33) ∨ p = (145, 113, 39) ∨ p = (146, 113, 45) ∨ p = (147, 113, 51) := by decide +kernel
  have pb : ∀ p ∈ tb_bnd, p.1 = 110 + 3 → p = (113, 39, 1, 30) ∨ p = (113, 45, 1, 60) ∨ p = (113, 51, 1, 99) := by decide +kernel
  have ps : ∀ p ∈ tb_scr, p.1 = 110 + 3 → p = (113, 33) := by decide +kernel
  obtain ⟨Z, zc, zA, zB, zz⟩ := te_finl (X := X) hb (y := y) (s := 3) (c := c) (by decide) (by decide) L0 hc cr' u6 (x := (tb_w ((tb_upI B6 81 (51 + c) x3).1 81 113 + 1))) (fun _ h => by rw [show (tb_upI B6 81 (51 + c) x3).1 81 113 = c from h.trans (((te_uk (by omega)).trans ((te_uk (by omega)).trans ((te_uk (by omega)).trans ((te_uk (by omega)).trans (hc))))) : (td_up (td_up (td_up (td_up (B0.1 81) (33 + c) x0) (39 + c) x1) (45 + c) x2) (51 + c) x3) 113 = c), tb_w_id (by omega) (by omega)])
    (fun p hp e => by
      rcases pt p hp e with rfl | rfl | rfl | rfl
      · exact ⟨⟨by decide, by decide⟩, (((te_uk (by decide)).trans ((te_uk (by decide)).trans ((te_uk (by decide)).trans (te_us (by decide))))) : (td_up (td_up (td_up (td_up vs (0) x0) (0 + 1) x1) (0 + 1 + 1) x2) (0 + 1 + 1 + 1) x3) 0 = x0).trans (((te_uk (by omega)).trans ((te_uk (by omega)).trans ((te_uk (by omega)).trans (te_us (by omega))))) : (td_up (td_up (td_up (td_up (B0.1 81) (33 + c) x0) (39 + c) x1) (45 + c) x2) (51 + c) x3) (33 + c) = x0).symm⟩
      · exact ⟨⟨by decide, by decide⟩, (((te_uk (by decide)).trans ((te_uk (by decide)).trans (te_us (by decide)))) : (td_up (td_up (td_up (td_up vs (0) x0) (0 + 1) x1) (0 + 1 + 1) x2) (0 + 1 + 1 + 1) x3) 1 = x1).trans (((te_uk (by omega)).trans ((te_uk (by omega)).trans (te_us (by omega)))) : (td_up (td_up (td_up (td_up (B0.1 81) (33 + c) x0) (39 + c) x1) (45 + c) x2) (51 + c) x3) (39 + c) = x1).symm⟩
      · exact ⟨⟨by decide, by decide⟩, (((te_uk (by decide)).trans (te_us (by decide))) : (td_up (td_up (td_up (td_up vs (0) x0) (0 + 1) x1) (0 + 1 + 1) x2) (0 + 1 + 1 + 1) x3) 2 = x2).trans (((te_uk (by omega)).trans (te_us (by omega))) : (td_up (td_up (td_up (td_up (B0.1 81) (33 + c) x0) (39 + c) x1) (45 + c) x2) (51 + c) x3) (45 + c) = x2).symm⟩
      · exact ⟨⟨by decide, by decide⟩, ((te_us (by decide)) : (td_up (td_up (td_up (td_up vs (0) x0) (0 + 1) x1) (0 + 1 + 1) x2) (0 + 1 + 1 + 1) x3) 3 = x3).trans ((te_us (by omega)) : (td_up (td_up (td_up (td_up (B0.1 81) (33 + c) x0) (39 + c) x1) (45 + c) x2) (51 + c) x3) (51 + c) = x3).symm⟩
      )
    (fun k k1 hq => ((te_uk (fun e => hq (147, 113, 51) (by decide) (by decide) e)).trans ((te_uk (fun e => hq (146, 113, 45) (by decide) (by decide) e)).trans ((te_uk (fun e => hq (145, 113, 39) (by decide) (by decide) e)).trans ((te_uk (fun e => hq (144, 113, 33) (by decide) (by decide) e)).trans (rfl))))))
    (fun p hp e => by
      rcases pb p hp e with rfl | rfl | rfl
      · exact te_bd (lo := 1) (hi := 30) (((te_uk (by omega)).trans ((te_uk (by omega)).trans (te_us (by omega)))) : (td_up (td_up (td_up (td_up (B0.1 81) (33 + c) x0) (39 + c) x1) (45 + c) x2) (51 + c) x3) (39 + c) = x1) b1
      · exact te_bd (lo := 1) (hi := 60) (((te_uk (by omega)).trans (te_us (by omega))) : (td_up (td_up (td_up (td_up (B0.1 81) (33 + c) x0) (39 + c) x1) (45 + c) x2) (51 + c) x3) (45 + c) = x2) b2
      · exact te_bd (lo := 1) (hi := 99) ((te_us (by omega)) : (td_up (td_up (td_up (td_up (B0.1 81) (33 + c) x0) (39 + c) x1) (45 + c) x2) (51 + c) x3) (51 + c) = x3) b3
      )
    (fun fz p hp e => by
      rcases ps p hp e with rfl
      exact te_bd2 (lo := 0) (((te_uk (by omega)).trans ((te_uk (by omega)).trans ((te_uk (by omega)).trans (te_us (by omega))))) : (td_up (td_up (td_up (td_up (B0.1 81) (33 + c) x0) (39 + c) x1) (45 + c) x2) (51 + c) x3) (33 + c) = x0) ⟨(b0 (t4 (t5 (t6 fz)))).1, (b0 (t4 (t5 (t6 fz)))).2.1⟩)
    (by rw [if_pos (by decide)]) (by rw [if_neg (by decide), if_neg (by decide)])
  exact ⟨Z, _, fun K k => te_ci0 hb te_g115 f.1 (c1 _ (c2 _ (c3 _ (c4 _ (c5 _ (c6 _ (te_cin hb te_g115 (zc K k)))))))), fun K k => q222 ⟨fun _ => by rw [hcn, hc, tb_w_id (x := 33 + c) (by omega) (by omega), tb_w_id (x := 39 + c) (by omega) (by omega), tb_w_id (x := 45 + c) (by omega) (by omega), tb_w_id (x := 51 + c) (by omega) (by omega)]; exact r1 _ (r2 _ (r3 _ (⟨⟨by omega, by omega⟩, r4 _ (⟨⟨by omega, by omega⟩, r5 _ (⟨⟨by omega, by omega⟩, r6 _ (⟨⟨by omega, by omega⟩, k⟩)⟩)⟩)⟩))), fun q => absurd f.2 q⟩, zA, zB, zz⟩
theorem te_ln4 (hb : tb_isB b) {y : Int} (L0 : te_L0 n b N A0 B0) (cr : B0.1 81 114 < 4) (S : te_Sl n b a0 4 N (B0.1 81 112) 0 vs (B0.1 81) A0 B0 A B) (f : A.1 1 10 = 0 ∧ B.1 77 13 = 0) (h81 : ∀ k, k < 119 → B.1 81 k = B0.1 81 k) : te_LR X n b a0 A0 B0 117 y 225 [tb_r 77] A B := by
  have bb := L0.2.2.2.2.2.2
  have hN := L0.2.2.2.2.1
  have z2 : 0 ≤ B0.1 81 112 ∧ B0.1 81 112 ≤ 8 := by have h := te_bbc bb (z := 2) (by decide) (by decide); rw [te_r2] at h; exact h
  have z3 : 0 ≤ B0.1 81 113 ∧ B0.1 81 113 ≤ 6 := by have h := te_bbc bb (z := 3) (by decide) (by decide); rw [te_r3] at h; exact h
  have z4 : 0 ≤ B0.1 81 114 ∧ B0.1 81 114 ≤ 4 := by have h := te_bbc bb (z := 4) (by decide) (by decide); rw [te_r4] at h; exact h
  have z7 : 0 ≤ B0.1 81 117 ∧ B0.1 81 117 ≤ 4 := by have h := te_bbc bb (z := 7) (by decide) (by decide); rw [te_r7] at h; exact h
  have cc : 0 ≤ B0.1 81 114 ∧ B0.1 81 114 ≤ 4 := by have h := te_bbc bb (z := 4) (by decide) (by decide); rw [te_r4] at h; exact h
  have hcn : B.1 81 114 = B0.1 81 114 := h81 114 (by decide)
  have c2 : A0.1 (b + 1) 2 = B0.1 81 112 := L0.2.2.2.2.2.1.1 2 (by decide) (by decide)
  obtain ⟨c, hc⟩ : ∃ c, B0.1 81 114 = c := ⟨_, rfl⟩
  have cr' : c < te_room 4 := by rw [te_r4, ← hc]; exact cr
  obtain ⟨A1, B1, c1, r1, s1⟩ := te_pname (X := X) hb te_g117 (i := 0) (by decide) (by decide) (by decide +kernel) S (by omega) (so := 2) (nu := c) (by decide) (fun q => absurd q (by decide)) c2 z2.1
  obtain ⟨A2, B2, c2, r2, s2⟩ := te_pword (X := X) hb te_g117 (i := 1) (e := 3) (by decide) (by decide) (by decide) (by decide) (te_rgp (P := fun k => 97 ≤ tb_cI 118 k ∧ tb_cI 118 k ≤ 122) (by decide +kernel)) (fun _ => by decide +kernel) te_w165 (by decide +kernel) s1
  obtain ⟨A3, x0, B3, c3, r3, s3, b0⟩ := te_pscu (X := X) hb te_g117 (i := 3) (by decide) (by decide) (by decide +kernel) s2 (by decide) (by decide) (mask := 0) (f := fun _ => 0) (by omega) (fun q => absurd q (by decide)) (fun v v0 v1 => by rw [if_neg (by decide)]; exact te_bt00 v0 (by omega))
  have u3 := s3.up (p := (57 + c)) (v := x0) (by omega)
  obtain ⟨A4, x1, B4, c4, r4, s4, b1, t4⟩ := te_ptolds (X := X) hb te_g117 (i := 4) (e := 10) (by decide) (by decide) (by decide) (by decide) (te_rgp (P := fun k => 97 ≤ tb_cI 118 k ∧ tb_cI 118 k ≤ 122) (by decide +kernel)) (by decide +kernel) te_w167 (by decide +kernel) u3 (by decide) (by decide) (lo := 1) (hi := 30) (by decide) (fun A K a d _ => by rw [te32 a d (by decide) (by decide) (by decide) (by decide) (by decide)]; exact congrArg (fun x => K x A) (by decide +kernel)) (fun A K a d => by rw [te33 a d (by decide) (by decide) (by decide) (by decide)]; exact congrArg (fun x => K x A) (by decide +kernel))
  have u4 := s4.up (p := (61 + c)) (v := x1) (by omega)
  have pt : ∀ p ∈ tb_tab, p.2.1 = 110 + 4 → p = (192, 114, 57) ∨ p = (193, 114, 61) := by decide +kernel
  have pb : ∀ p ∈ tb_bnd, p.1 = 110 + 4 → p = (114, 61, 1, 30) := by decide +kernel
  have ps : ∀ p ∈ tb_scr, p.1 = 110 + 4 → p = (114, 57) := by decide +kernel
  obtain ⟨Z, zc, zA, zB, zz⟩ := te_finl (X := X) hb (y := y) (s := 4) (c := c) (by decide) (by decide) L0 hc cr' u4 (x := (tb_w ((tb_upI B4 81 (61 + c) x1).1 81 114 + 1))) (fun _ h => by rw [show (tb_upI B4 81 (61 + c) x1).1 81 114 = c from h.trans (((te_uk (by omega)).trans ((te_uk (by omega)).trans (hc))) : (td_up (td_up (B0.1 81) (57 + c) x0) (61 + c) x1) 114 = c), tb_w_id (by omega) (by omega)])
    (fun p hp e => by
      rcases pt p hp e with rfl | rfl
      · exact ⟨⟨by decide, by decide⟩, (((te_uk (by decide)).trans (te_us (by decide))) : (td_up (td_up vs (0) x0) (0 + 1) x1) 0 = x0).trans (((te_uk (by omega)).trans (te_us (by omega))) : (td_up (td_up (B0.1 81) (57 + c) x0) (61 + c) x1) (57 + c) = x0).symm⟩
      · exact ⟨⟨by decide, by decide⟩, ((te_us (by decide)) : (td_up (td_up vs (0) x0) (0 + 1) x1) 1 = x1).trans ((te_us (by omega)) : (td_up (td_up (B0.1 81) (57 + c) x0) (61 + c) x1) (61 + c) = x1).symm⟩
      )
    (fun k k1 hq => ((te_uk (fun e => hq (193, 114, 61) (by decide) (by decide) e)).trans ((te_uk (fun e => hq (192, 114, 57) (by decide) (by decide) e)).trans (rfl))))
    (fun p hp e => by
      rcases pb p hp e with rfl
      · exact te_bd (lo := 1) (hi := 30) ((te_us (by omega)) : (td_up (td_up (B0.1 81) (57 + c) x0) (61 + c) x1) (61 + c) = x1) b1
      )
    (fun fz p hp e => by
      rcases ps p hp e with rfl
      exact te_bd2 (lo := 0) (((te_uk (by omega)).trans (te_us (by omega))) : (td_up (td_up (B0.1 81) (57 + c) x0) (61 + c) x1) (57 + c) = x0) ⟨(b0 (t4 fz)).1, (b0 (t4 fz)).2.1⟩)
    (by rw [if_pos (by decide)]) (by rw [if_neg (by decide), if_neg (by decide)])
  exact ⟨Z, _, fun K k => te_ci0 hb te_g117 f.1 (c1 _ (c2 _ (c3 _ (c4 _ (te_cin hb te_g117 (zc K k)))))), fun K k => q225 ⟨fun _ => by rw [hcn, hc, tb_w_id (x := 57 + c) (by omega) (by omega), tb_w_id (x := 61 + c) (by omega) (by omega)]; exact r1 _ (r2 _ (r3 _ (⟨⟨by omega, by omega⟩, r4 _ (⟨⟨by omega, by omega⟩, k⟩)⟩))), fun q => absurd f.2 q⟩, zA, zB, zz⟩
theorem te_ln5 (hb : tb_isB b) {y : Int} (L0 : te_L0 n b N A0 B0) (cr : B0.1 81 115 < 4) (S : te_Sl n b a0 5 N (B0.1 81 112) 0 vs (B0.1 81) A0 B0 A B) (f : A.1 1 10 = 0 ∧ B.1 77 13 = 0) (h81 : ∀ k, k < 119 → B.1 81 k = B0.1 81 k) : te_LR X n b a0 A0 B0 119 y 226 [tb_r 77] A B := by
  have bb := L0.2.2.2.2.2.2
  have hN := L0.2.2.2.2.1
  have z2 : 0 ≤ B0.1 81 112 ∧ B0.1 81 112 ≤ 8 := by have h := te_bbc bb (z := 2) (by decide) (by decide); rw [te_r2] at h; exact h
  have z3 : 0 ≤ B0.1 81 113 ∧ B0.1 81 113 ≤ 6 := by have h := te_bbc bb (z := 3) (by decide) (by decide); rw [te_r3] at h; exact h
  have z4 : 0 ≤ B0.1 81 114 ∧ B0.1 81 114 ≤ 4 := by have h := te_bbc bb (z := 4) (by decide) (by decide); rw [te_r4] at h; exact h
  have z7 : 0 ≤ B0.1 81 117 ∧ B0.1 81 117 ≤ 4 := by have h := te_bbc bb (z := 7) (by decide) (by decide); rw [te_r7] at h; exact h
  have cc : 0 ≤ B0.1 81 115 ∧ B0.1 81 115 ≤ 4 := by have h := te_bbc bb (z := 5) (by decide) (by decide); rw [te_r5] at h; exact h
  have hcn : B.1 81 115 = B0.1 81 115 := h81 115 (by decide)
  have c2 : A0.1 (b + 1) 2 = B0.1 81 112 := L0.2.2.2.2.2.1.1 2 (by decide) (by decide)
  obtain ⟨c, hc⟩ : ∃ c, B0.1 81 115 = c := ⟨_, rfl⟩
  have cr' : c < te_room 5 := by rw [te_r5, ← hc]; exact cr
  obtain ⟨A1, B1, c1, r1, s1⟩ := te_pword (X := X) hb te_g119 (i := 0) (e := 2) (by decide) (by decide) (by decide) (by decide) (te_rgp (P := fun k => 97 ≤ tb_cI 120 k ∧ tb_cI 120 k ≤ 122) (by decide +kernel)) (fun _ => by decide +kernel) te_w165 (by decide +kernel) S
  obtain ⟨A2, x0, B2, c2, r2, s2, b0⟩ := te_pscu (X := X) hb te_g119 (i := 2) (by decide) (by decide) (by decide +kernel) s1 (by decide) (by decide) (mask := 0) (f := fun _ => 0) (by omega) (fun q => absurd q (by decide)) (fun v v0 v1 => by rw [if_neg (by decide)]; exact te_bt00 v0 (by omega))
  have u2 := s2.up (p := (65 + c)) (v := x0) (by omega)
  obtain ⟨A3, x1, B3, c3, r3, s3, b1, t3⟩ := te_ptolds (X := X) hb te_g119 (i := 3) (e := 7) (by decide) (by decide) (by decide) (by decide) (te_rgp (P := fun k => 97 ≤ tb_cI 120 k ∧ tb_cI 120 k ≤ 122) (by decide +kernel)) (by decide +kernel) te_w173 (by decide +kernel) u2 (by decide) (by decide) (lo := 1) (hi := 9) (by decide) (fun A K a d _ => by rw [te32 a d (by decide) (by decide) (by decide) (by decide) (by decide)]; exact congrArg (fun x => K x A) (by decide +kernel)) (fun A K a d => by rw [te33 a d (by decide) (by decide) (by decide) (by decide)]; exact congrArg (fun x => K x A) (by decide +kernel))
  have u3 := s3.up (p := (69 + c)) (v := x1) (by omega)
  have pt : ∀ p ∈ tb_tab, p.2.1 = 110 + 5 → p = (240, 115, 65) ∨ p = (241, 115, 69) := by decide +kernel
  have pb : ∀ p ∈ tb_bnd, p.1 = 110 + 5 → p = (115, 69, 1, 9) := by decide +kernel
  have ps : ∀ p ∈ tb_scr, p.1 = 110 + 5 → p = (115, 65) := by decide +kernel
  obtain ⟨Z, zc, zA, zB, zz⟩ := te_finl (X := X) hb (y := y) (s := 5) (c := c) (by decide) (by decide) L0 hc cr' u3 (x := (tb_w ((tb_upI B3 81 (69 + c) x1).1 81 115 + 1))) (fun _ h => by rw [show (tb_upI B3 81 (69 + c) x1).1 81 115 = c from h.trans (((te_uk (by omega)).trans ((te_uk (by omega)).trans (hc))) : (td_up (td_up (B0.1 81) (65 + c) x0) (69 + c) x1) 115 = c), tb_w_id (by omega) (by omega)])
    (fun p hp e => by
      rcases pt p hp e with rfl | rfl
      · exact ⟨⟨by decide, by decide⟩, (((te_uk (by decide)).trans (te_us (by decide))) : (td_up (td_up vs (0) x0) (0 + 1) x1) 0 = x0).trans (((te_uk (by omega)).trans (te_us (by omega))) : (td_up (td_up (B0.1 81) (65 + c) x0) (69 + c) x1) (65 + c) = x0).symm⟩
      · exact ⟨⟨by decide, by decide⟩, ((te_us (by decide)) : (td_up (td_up vs (0) x0) (0 + 1) x1) 1 = x1).trans ((te_us (by omega)) : (td_up (td_up (B0.1 81) (65 + c) x0) (69 + c) x1) (69 + c) = x1).symm⟩
      )
    (fun k k1 hq => ((te_uk (fun e => hq (241, 115, 69) (by decide) (by decide) e)).trans ((te_uk (fun e => hq (240, 115, 65) (by decide) (by decide) e)).trans (rfl))))
    (fun p hp e => by
      rcases pb p hp e with rfl
      · exact te_bd (lo := 1) (hi := 9) ((te_us (by omega)) : (td_up (td_up (B0.1 81) (65 + c) x0) (69 + c) x1) (69 + c) = x1) b1
      )
    (fun fz p hp e => by
      rcases ps p hp e with rfl
      exact te_bd2 (lo := 0) (((te_uk (by omega)).trans (te_us (by omega))) : (td_up (td_up (B0.1 81) (65 + c) x0) (69 + c) x1) (65 + c) = x0) ⟨(b0 (t3 fz)).1, (b0 (t3 fz)).2.1⟩)
    (by rw [if_neg (by decide)]; omega) (by rw [if_neg (by decide)])
  exact ⟨Z, _, fun K k => te_ci0 hb te_g119 f.1 (c1 _ (c2 _ (c3 _ (te_cin hb te_g119 (zc K k))))), fun K k => q226 ⟨fun _ => by rw [hcn, hc, tb_w_id (x := 65 + c) (by omega) (by omega), tb_w_id (x := 69 + c) (by omega) (by omega)]; exact r1 _ (r2 _ (⟨⟨by omega, by omega⟩, r3 _ (⟨⟨by omega, by omega⟩, k⟩)⟩)), fun q => absurd f.2 q⟩, zA, zB, zz⟩
theorem te_ln6 (hb : tb_isB b) {y : Int} (L0 : te_L0 n b N A0 B0) (cr : B0.1 81 116 < 4) (S : te_Sl n b a0 6 N (B0.1 81 112) 0 vs (B0.1 81) A0 B0 A B) (f : A.1 1 10 = 0 ∧ B.1 77 13 = 0) (h81 : ∀ k, k < 119 → B.1 81 k = B0.1 81 k) : te_LR X n b a0 A0 B0 121 y 227 [tb_r 77] A B := by
  have bb := L0.2.2.2.2.2.2
  have hN := L0.2.2.2.2.1
  have z2 : 0 ≤ B0.1 81 112 ∧ B0.1 81 112 ≤ 8 := by have h := te_bbc bb (z := 2) (by decide) (by decide); rw [te_r2] at h; exact h
  have z3 : 0 ≤ B0.1 81 113 ∧ B0.1 81 113 ≤ 6 := by have h := te_bbc bb (z := 3) (by decide) (by decide); rw [te_r3] at h; exact h
  have z4 : 0 ≤ B0.1 81 114 ∧ B0.1 81 114 ≤ 4 := by have h := te_bbc bb (z := 4) (by decide) (by decide); rw [te_r4] at h; exact h
  have z7 : 0 ≤ B0.1 81 117 ∧ B0.1 81 117 ≤ 4 := by have h := te_bbc bb (z := 7) (by decide) (by decide); rw [te_r7] at h; exact h
  have cc : 0 ≤ B0.1 81 116 ∧ B0.1 81 116 ≤ 4 := by have h := te_bbc bb (z := 6) (by decide) (by decide); rw [te_r6] at h; exact h
  have hcn : B.1 81 116 = B0.1 81 116 := h81 116 (by decide)
  have c2 : A0.1 (b + 1) 2 = B0.1 81 112 := L0.2.2.2.2.2.1.1 2 (by decide) (by decide)
  obtain ⟨c, hc⟩ : ∃ c, B0.1 81 116 = c := ⟨_, rfl⟩
  have cr' : c < te_room 6 := by rw [te_r6, ← hc]; exact cr
  obtain ⟨A1, x0, x1, B1, c1, r1, s1, b0, b1⟩ := te_pcell (X := X) hb te_g121 (i := 0) (by decide) (by decide) (by decide +kernel) S (by decide) (by decide) (p := (73 + c)) (q := (77 + c)) (by omega) (by omega) (by omega) (by omega) (fun z hz A K a d => by rcases hz with rfl | rfl <;> (rw [te32 a d (by decide) (by decide) (by decide) (by decide) (by decide)]; exact congrArg (fun x => K x A) (by decide +kernel))) (fun z hz A K a d => by rcases hz with rfl | rfl <;> (rw [te33 a d (by decide) (by decide) (by decide) (by decide)]; exact congrArg (fun x => K x A) (by decide +kernel)))
  have pt : ∀ p ∈ tb_tab, p.2.1 = 110 + 6 → p = (288, 116, 73) ∨ p = (289, 116, 77) := by decide +kernel
  have pb : ∀ p ∈ tb_bnd, p.1 = 110 + 6 → p = (116, 73, 0, 9) ∨ p = (116, 77, 0, 9) := by decide +kernel
  have ps : ∀ p ∈ tb_scr, p.1 = 110 + 6 → False := by decide +kernel
  obtain ⟨Z, zc, zA, zB, zz⟩ := te_finl (X := X) hb (y := y) (s := 6) (c := c) (by decide) (by decide) L0 hc cr' s1 (x := (tb_w (B1.1 81 116 + 1))) (fun _ h => by rw [show B1.1 81 116 = c from h.trans (((te_uk (by omega)).trans ((te_uk (by omega)).trans (hc))) : (td_up (td_up (B0.1 81) (73 + c) x0) (77 + c) x1) 116 = c), tb_w_id (by omega) (by omega)])
    (fun p hp e => by
      rcases pt p hp e with rfl | rfl
      · exact ⟨⟨by decide, by decide⟩, (((te_uk (by decide)).trans (te_us (by decide))) : (td_up (td_up vs (0) x0) (0 + 1) x1) 0 = x0).trans (((te_uk (by omega)).trans (te_us (by omega))) : (td_up (td_up (B0.1 81) (73 + c) x0) (77 + c) x1) (73 + c) = x0).symm⟩
      · exact ⟨⟨by decide, by decide⟩, ((te_us (by decide)) : (td_up (td_up vs (0) x0) (0 + 1) x1) 1 = x1).trans ((te_us (by omega)) : (td_up (td_up (B0.1 81) (73 + c) x0) (77 + c) x1) (77 + c) = x1).symm⟩
      )
    (fun k k1 hq => ((te_uk (fun e => hq (289, 116, 77) (by decide) (by decide) e)).trans ((te_uk (fun e => hq (288, 116, 73) (by decide) (by decide) e)).trans (rfl))))
    (fun p hp e => by
      rcases pb p hp e with rfl | rfl
      · exact te_bd (lo := 0) (hi := 9) (((te_uk (by omega)).trans (te_us (by omega))) : (td_up (td_up (B0.1 81) (73 + c) x0) (77 + c) x1) (73 + c) = x0) b0
      · exact te_bd (lo := 0) (hi := 9) ((te_us (by omega)) : (td_up (td_up (B0.1 81) (73 + c) x0) (77 + c) x1) (77 + c) = x1) b1
      )
    (fun _ p hp e => absurd (ps p hp e) id)
    (by rw [if_neg (by decide)]; omega) (by rw [if_neg (by decide)])
  exact ⟨Z, _, fun K k => te_ci0 hb te_g121 f.1 (c1 _ (te_cin hb te_g121 (zc K k))), fun K k => q227 ⟨fun _ => by rw [hcn, hc, tb_w_id (x := 73 + c) (by omega) (by omega), tb_w_id (x := 77 + c) (by omega) (by omega)]; exact r1 _ (k), fun q => absurd f.2 q⟩, zA, zB, zz⟩
theorem te_ln7 (hb : tb_isB b) {y : Int} (L0 : te_L0 n b N A0 B0) (cr : B0.1 81 117 < 4) (S : te_Sl n b a0 7 N (B0.1 81 112) 0 vs (B0.1 81) A0 B0 A B) (f : A.1 1 10 = 0 ∧ B.1 77 13 = 0) (h81 : ∀ k, k < 119 → B.1 81 k = B0.1 81 k) : te_LR X n b a0 A0 B0 123 y 228 [tb_r 77] A B := by
  have bb := L0.2.2.2.2.2.2
  have hN := L0.2.2.2.2.1
  have z2 : 0 ≤ B0.1 81 112 ∧ B0.1 81 112 ≤ 8 := by have h := te_bbc bb (z := 2) (by decide) (by decide); rw [te_r2] at h; exact h
  have z3 : 0 ≤ B0.1 81 113 ∧ B0.1 81 113 ≤ 6 := by have h := te_bbc bb (z := 3) (by decide) (by decide); rw [te_r3] at h; exact h
  have z4 : 0 ≤ B0.1 81 114 ∧ B0.1 81 114 ≤ 4 := by have h := te_bbc bb (z := 4) (by decide) (by decide); rw [te_r4] at h; exact h
  have z7 : 0 ≤ B0.1 81 117 ∧ B0.1 81 117 ≤ 4 := by have h := te_bbc bb (z := 7) (by decide) (by decide); rw [te_r7] at h; exact h
  have cc : 0 ≤ B0.1 81 117 ∧ B0.1 81 117 ≤ 4 := by have h := te_bbc bb (z := 7) (by decide) (by decide); rw [te_r7] at h; exact h
  have hcn : B.1 81 117 = B0.1 81 117 := h81 117 (by decide)
  have c2 : A0.1 (b + 1) 2 = B0.1 81 112 := L0.2.2.2.2.2.1.1 2 (by decide) (by decide)
  obtain ⟨c, hc⟩ : ∃ c, B0.1 81 117 = c := ⟨_, rfl⟩
  have cr' : c < te_room 7 := by rw [te_r7, ← hc]; exact cr
  obtain ⟨A1, B1, c1, r1, s1⟩ := te_pname (X := X) hb te_g123 (i := 0) (by decide) (by decide) (by decide +kernel) S (by omega) (so := 3) (nu := c) (by decide) (fun q => absurd q (by decide)) c2 z2.1
  obtain ⟨A2, x0, x1, B2, c2, r2, s2, b0, b1⟩ := te_pcell (X := X) hb te_g123 (i := 1) (by decide) (by decide) (by decide +kernel) s1 (by decide) (by decide) (p := (81 + c)) (q := (85 + c)) (by omega) (by omega) (by omega) (by omega) (fun z hz A K a d => by rcases hz with rfl | rfl <;> (rw [te32 a d (by decide) (by decide) (by decide) (by decide) (by decide)]; exact congrArg (fun x => K x A) (by decide +kernel))) (fun z hz A K a d => by rcases hz with rfl | rfl <;> (rw [te33 a d (by decide) (by decide) (by decide) (by decide)]; exact congrArg (fun x => K x A) (by decide +kernel)))
  obtain ⟨A3, x2, B3, c3, r3, s3, b2, t3⟩ := te_ptolds (X := X) hb te_g123 (i := 6) (e := 10) (by decide) (by decide) (by decide) (by decide) (te_rgp (P := fun k => 97 ≤ tb_cI 124 k ∧ tb_cI 124 k ≤ 122) (by decide +kernel)) (by decide +kernel) te_w175 (by decide +kernel) s2 (by decide) (by decide) (lo := 1) (hi := 99) (by decide) (fun A K a d _ => by rw [te32 a d (by decide) (by decide) (by decide) (by decide) (by decide)]; exact congrArg (fun x => K x A) (by decide +kernel)) (fun A K a d => by rw [te33 a d (by decide) (by decide) (by decide) (by decide)]; exact congrArg (fun x => K x A) (by decide +kernel))
  have u3 := s3.up (p := (89 + c)) (v := x2) (by omega)
  obtain ⟨A4, x3, B4, c4, r4, s4, b3, t4⟩ := te_ptolds (X := X) hb te_g123 (i := 11) (e := 13) (by decide) (by decide) (by decide) (by decide) (te_rgp (P := fun k => 97 ≤ tb_cI 124 k ∧ tb_cI 124 k ≤ 122) (by decide +kernel)) (by decide +kernel) te_w177 (by decide +kernel) u3 (by decide) (by decide) (lo := x2) (hi := 99) (b2.2) (fun A K a d e => by rw [te32i a d (by rw [e 2 (by decide) (by decide)]; exact te_bd (v := x2) (te_us (by decide)) (lo := 1) (hi := 99) b2 |>.1), e 2 (by decide) (by decide)]; exact congrArg (fun x => K x A) (te_us (by decide))) (fun A K a d => by rw [te33 a d (by decide) (by decide) (by decide) (by decide)]; exact congrArg (fun x => K x A) (by decide +kernel))
  have u4 := s4.up (p := (93 + c)) (v := x3) (by omega)
  obtain ⟨A5, x4, B5, c5, r5, s5, b4, t5⟩ := te_ptolds (X := X) hb te_g123 (i := 14) (e := 18) (by decide) (by decide) (by decide) (by decide) (te_rgp (P := fun k => 97 ≤ tb_cI 124 k ∧ tb_cI 124 k ≤ 122) (by decide +kernel)) (by decide +kernel) te_w179 (by decide +kernel) u4 (by decide) (by decide) (lo := 1) (hi := 99) (by decide) (fun A K a d _ => by rw [te32 a d (by decide) (by decide) (by decide) (by decide) (by decide)]; exact congrArg (fun x => K x A) (by decide +kernel)) (fun A K a d => by rw [te33 a d (by decide) (by decide) (by decide) (by decide)]; exact congrArg (fun x => K x A) (by decide +kernel))
  have u5 := s5.up (p := (97 + c)) (v := x4) (by omega)
  have pt : ∀ p ∈ tb_tab, p.2.1 = 110 + 7 → p = (336, 117, 81) ∨ p = (337, 117, 85) ∨ p = (338, 117, 89) ∨ p = (339, 117, 93) ∨ p = (340, 117, 97) := by decide +kernel
  have pb1 : ∀ p ∈ tb_bnd, p.1 = 110 + 7 → p = (117, 81, 0, 9) ∨ p = (117, 85, 0, 9) ∨ 85 < p.2.1 := by decide +kernel
  have pb2 : ∀ p ∈ tb_bnd, p.1 = 110 + 7 → 85 < p.2.1 → p = (117, 89, 1, 99) ∨ p = (117, 93, 1, 99) ∨ p = (117, 97, 1, 99) := by decide +kernel
  have pb : ∀ p ∈ tb_bnd, p.1 = 110 + 7 → p = (117, 81, 0, 9) ∨ p = (117, 85, 0, 9) ∨ p = (117, 89, 1, 99) ∨ p = (117, 93, 1, 99) ∨ p = (117, 97, 1, 99) := by
    intro p hp e
    rcases pb1 p hp e with h | h | h
    · exact Or.inl h
    · exact Or.inr (Or.inl h)
    · exact Or.inr (Or.inr (pb2 p hp e h))
  have ps : ∀ p ∈ tb_scr, p.1 = 110 + 7 → False := by decide +kernel
  obtain ⟨Z, zc, zA, zB, zz⟩ := te_finl (X := X) hb (y := y) (s := 7) (c := c) (by decide) (by decide) L0 hc cr' u5 (x := (tb_w ((tb_upI B5 81 (97 + c) x4).1 81 117 + 1))) (fun _ h => by rw [show (tb_upI B5 81 (97 + c) x4).1 81 117 = c from h.trans (((te_uk (by omega)).trans ((te_uk (by omega)).trans ((te_uk (by omega)).trans ((te_uk (by omega)).trans ((te_uk (by omega)).trans (hc)))))) : (td_up (td_up (td_up (td_up (td_up (B0.1 81) (81 + c) x0) (85 + c) x1) (89 + c) x2) (93 + c) x3) (97 + c) x4) 117 = c), tb_w_id (by omega) (by omega)])
    (fun p hp e => by
      rcases pt p hp e with rfl | rfl | rfl | rfl | rfl
      · exact ⟨⟨by decide, by decide⟩, (((te_uk (by decide)).trans ((te_uk (by decide)).trans ((te_uk (by decide)).trans ((te_uk (by decide)).trans (te_us (by decide)))))) : (td_up (td_up (td_up (td_up (td_up vs (0) x0) (0 + 1) x1) (0 + 2) x2) (0 + 2 + 1) x3) (0 + 2 + 1 + 1) x4) 0 = x0).trans (((te_uk (by omega)).trans ((te_uk (by omega)).trans ((te_uk (by omega)).trans ((te_uk (by omega)).trans (te_us (by omega)))))) : (td_up (td_up (td_up (td_up (td_up (B0.1 81) (81 + c) x0) (85 + c) x1) (89 + c) x2) (93 + c) x3) (97 + c) x4) (81 + c) = x0).symm⟩
      · exact ⟨⟨by decide, by decide⟩, (((te_uk (by decide)).trans ((te_uk (by decide)).trans ((te_uk (by decide)).trans (te_us (by decide))))) : (td_up (td_up (td_up (td_up (td_up vs (0) x0) (0 + 1) x1) (0 + 2) x2) (0 + 2 + 1) x3) (0 + 2 + 1 + 1) x4) 1 = x1).trans (((te_uk (by omega)).trans ((te_uk (by omega)).trans ((te_uk (by omega)).trans (te_us (by omega))))) : (td_up (td_up (td_up (td_up (td_up (B0.1 81) (81 + c) x0) (85 + c) x1) (89 + c) x2) (93 + c) x3) (97 + c) x4) (85 + c) = x1).symm⟩
      · exact ⟨⟨by decide, by decide⟩, (((te_uk (by decide)).trans ((te_uk (by decide)).trans (te_us (by decide)))) : (td_up (td_up (td_up (td_up (td_up vs (0) x0) (0 + 1) x1) (0 + 2) x2) (0 + 2 + 1) x3) (0 + 2 + 1 + 1) x4) 2 = x2).trans (((te_uk (by omega)).trans ((te_uk (by omega)).trans (te_us (by omega)))) : (td_up (td_up (td_up (td_up (td_up (B0.1 81) (81 + c) x0) (85 + c) x1) (89 + c) x2) (93 + c) x3) (97 + c) x4) (89 + c) = x2).symm⟩
      · exact ⟨⟨by decide, by decide⟩, (((te_uk (by decide)).trans (te_us (by decide))) : (td_up (td_up (td_up (td_up (td_up vs (0) x0) (0 + 1) x1) (0 + 2) x2) (0 + 2 + 1) x3) (0 + 2 + 1 + 1) x4) 3 = x3).trans (((te_uk (by omega)).trans (te_us (by omega))) : (td_up (td_up (td_up (td_up (td_up (B0.1 81) (81 + c) x0) (85 + c) x1) (89 + c) x2) (93 + c) x3) (97 + c) x4) (93 + c) = x3).symm⟩
      · exact ⟨⟨by decide, by decide⟩, ((te_us (by decide)) : (td_up (td_up (td_up (td_up (td_up vs (0) x0) (0 + 1) x1) (0 + 2) x2) (0 + 2 + 1) x3) (0 + 2 + 1 + 1) x4) 4 = x4).trans ((te_us (by omega)) : (td_up (td_up (td_up (td_up (td_up (B0.1 81) (81 + c) x0) (85 + c) x1) (89 + c) x2) (93 + c) x3) (97 + c) x4) (97 + c) = x4).symm⟩
      )
    (fun k k1 hq => ((te_uk (fun e => hq (340, 117, 97) (by decide) (by decide) e)).trans ((te_uk (fun e => hq (339, 117, 93) (by decide) (by decide) e)).trans ((te_uk (fun e => hq (338, 117, 89) (by decide) (by decide) e)).trans ((te_uk (fun e => hq (337, 117, 85) (by decide) (by decide) e)).trans ((te_uk (fun e => hq (336, 117, 81) (by decide) (by decide) e)).trans (rfl)))))))
    (fun p hp e => by
      rcases pb p hp e with rfl | rfl | rfl | rfl | rfl
      · exact te_bd (lo := 0) (hi := 9) (((te_uk (by omega)).trans ((te_uk (by omega)).trans ((te_uk (by omega)).trans ((te_uk (by omega)).trans (te_us (by omega)))))) : (td_up (td_up (td_up (td_up (td_up (B0.1 81) (81 + c) x0) (85 + c) x1) (89 + c) x2) (93 + c) x3) (97 + c) x4) (81 + c) = x0) b0
      · exact te_bd (lo := 0) (hi := 9) (((te_uk (by omega)).trans ((te_uk (by omega)).trans ((te_uk (by omega)).trans (te_us (by omega))))) : (td_up (td_up (td_up (td_up (td_up (B0.1 81) (81 + c) x0) (85 + c) x1) (89 + c) x2) (93 + c) x3) (97 + c) x4) (85 + c) = x1) b1
      · exact te_bd (lo := 1) (hi := 99) (((te_uk (by omega)).trans ((te_uk (by omega)).trans (te_us (by omega)))) : (td_up (td_up (td_up (td_up (td_up (B0.1 81) (81 + c) x0) (85 + c) x1) (89 + c) x2) (93 + c) x3) (97 + c) x4) (89 + c) = x2) b2
      · exact te_bd (lo := 1) (hi := 99) (((te_uk (by omega)).trans (te_us (by omega))) : (td_up (td_up (td_up (td_up (td_up (B0.1 81) (81 + c) x0) (85 + c) x1) (89 + c) x2) (93 + c) x3) (97 + c) x4) (93 + c) = x3) ⟨by omega, b3.2⟩
      · exact te_bd (lo := 1) (hi := 99) ((te_us (by omega)) : (td_up (td_up (td_up (td_up (td_up (B0.1 81) (81 + c) x0) (85 + c) x1) (89 + c) x2) (93 + c) x3) (97 + c) x4) (97 + c) = x4) b4
      )
    (fun _ p hp e => absurd (ps p hp e) id)
    (by rw [if_pos (by decide)]) (by rw [if_neg (by decide), if_neg (by decide)])
  exact ⟨Z, _, fun K k => te_ci0 hb te_g123 f.1 (c1 _ (c2 _ (c3 _ (c4 _ (c5 _ (te_cin hb te_g123 (zc K k))))))), fun K k => q228 ⟨fun _ => by rw [hcn, hc, tb_w_id (x := 81 + c) (by omega) (by omega), tb_w_id (x := 85 + c) (by omega) (by omega), tb_w_id (x := 89 + c) (by omega) (by omega), tb_w_id (x := 93 + c) (by omega) (by omega), tb_w_id (x := 97 + c) (by omega) (by omega)]; exact r1 _ (r2 _ (r3 _ (⟨⟨by omega, by omega⟩, r4 _ (⟨⟨by omega, by omega⟩, r5 _ (⟨⟨by omega, by omega⟩, k⟩)⟩)⟩))), fun q => absurd f.2 q⟩, zA, zB, zz⟩
end TELINES
