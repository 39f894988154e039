/-! READER 11: the sorts of lines -/
section TELINES
variable {X : tb_X} {A B A0 B0 : tb_H} {K : Int → tb_H → Prop} {Kv : tb_H → Prop}
variable {n : Int} {b : Nat} {a0 sort N cs m : Int} {vs rho : Int → Int}
theorem te_us {a : Int → Int} {z v i : Int} (h : i = z) : td_up a z v i = v := if_pos h
theorem te_uk {a : Int → Int} {z v i : Int} (h : i ≠ z) : td_up a z v i = a i := if_neg h
theorem te_bd {x v lo hi : Int} (h : x = v) (q : lo ≤ v ∧ v ≤ hi) : lo ≤ x ∧ x ≤ hi := by rw [h]; exact q
theorem te_bd2 {x v lo hi : Int} (h : x = v) (q : lo ≤ v ∧ v < hi) : lo ≤ x ∧ x < hi := by rw [h]; exact q
theorem te_cin (hb : tb_isB b) {w kb nw : Nat} (hs : te_str w kb nw) (k : Kv A) : te_ci X b w nw A Kv := ⟨fun _ => k, fun _ j => q30_5 hb hs.1 hs.2.1 (by rw [te19 hs]; exact ⟨fun _ => k, fun q => absurd q (by omega)⟩)⟩
theorem te_ci0 (hb : tb_isB b) {w kb nw : Nat} (hs : te_str w kb nw) (f : A.1 1 10 = 0) (h : te_ci X b w 0 A Kv) : tb_Cv X 30 [tb_r 1, tb_r b, tb_r w] A Kv := q30 hb hs.1 hs.2.1 (h.2 f _)
theorem te_ptolds (hb : tb_isB b) {w kb nw : Nat} (hs : te_str w kb nw) {i e : Int} (i0 : 0 ≤ i) (i1 : i < e) (e1 : e < nw) (e8 : e - i ≤ 8) (hl : ∀ k, i ≤ k → k < e → 97 ≤ tb_cI kb k ∧ tb_cI kb k ≤ 122) (he : tb_cI kb e = 35) {w' kb' nw' : Nat} (hs' : te_ws w' kb' nw') (hcode : te_code (fun k => tb_cI kb (i + k)) (e - i).toNat = te_code (tb_cI kb') nw') (s0 : te_Sl n b a0 sort N cs m vs rho A0 B0 A B) (m0 : 0 ≤ m) (m6 : m < 6) {lo hi : Int} (lh : lo ≤ hi)
    (hlo : ∀ (A : tb_H) (K : Int → tb_H → Prop), A.1 1 8 = sort → A.1 1 9 = m → (∀ k, 0 ≤ k → k < m → A.1 3 k = vs k) → tb_Ci X 32 [tb_r 1] A K = K lo A) (hhi : ∀ (A : tb_H) (K : Int → tb_H → Prop), A.1 1 8 = sort → A.1 1 9 = m → tb_Ci X 33 [tb_r 1] A K = K hi A) :
    ∃ A' v B', (∀ K, te_ci X b w (e + 1) A' K → te_ci X b w i A K) ∧ (∀ K : Int → tb_H → Prop, K v B' → tb_Ci X 213 [tb_r 77, tb_r w', tb_i lo, tb_i hi] B K) ∧ te_Sl n b a0 sort N cs (m + 1) (td_up vs m v) rho A0 B0 A' B' ∧ (lo ≤ v ∧ v ≤ hi) ∧ (A'.1 1 10 = 0 → A.1 1 10 = 0) := by
  by_cases f : A.1 1 10 = 0
  · obtain ⟨A', v, B', h1, h2, h3, h4⟩ := te_ptold (X := X) hb hs i0 i1 e1 e8 hl he hs' hcode s0 m0 m6 lh hlo hhi
    exact ⟨A', v, B', h1, h2, h3, h4, fun _ => f⟩
  · obtain ⟨fA, fB, fl | LN⟩ := s0
    · exact ⟨A, lo, B, fun K k => ⟨fun q => k.1 q, fun q => absurd q f⟩, fun K k => q213 hs'.1.1 hs'.1.2.1 (q214 hs'.1.1 hs'.1.2.1 ⟨fun q => absurd q fl.2.1, fun _ => q215 ⟨fun q => absurd q fl.2.1, fun _ => k⟩⟩), te_Sl.old fA fB fl, ⟨by omega, by omega⟩, fun q => q⟩
    · exact absurd LN.1.1 f
theorem te_bt00 {v : Int} (v0 : 0 ≤ v) (v1 : v < 8) : tb_bt 0 v = 0 := (td_255 v0 v1).2
theorem te_ln2 (hb : tb_isB b) {y : Int} (L0 : te_L0 n b N A0 B0) (cr : B0.1 81 112 < 8) (S : te_Sl n b a0 2 N (B0.1 81 112) 0 vs (B0.1 81) A0 B0 A B) (f : A.1 1 10 = 0 ∧ B.1 77 13 = 0) (h81 : ∀ k, k < 119 → B.1 81 k = B0.1 81 k) : te_LR X n b a0 A0 B0 113 y 218 [tb_r 77] A B := by
  have bb := L0.2.2.2.2.2.2
  have hN := L0.2.2.2.2.1
  have z2 : 0 ≤ B0.1 81 112 ∧ B0.1 81 112 ≤ 8 := by have h := te_bbc bb (z := 2) (by decide) (by decide); rw [te_r2] at h; exact h
  have z3 : 0 ≤ B0.1 81 113 ∧ B0.1 81 113 ≤ 6 := by have h := te_bbc bb (z := 3) (by decide) (by decide); rw [te_r3] at h; exact h
  have z4 : 0 ≤ B0.1 81 114 ∧ B0.1 81 114 ≤ 4 := by have h := te_bbc bb (z := 4) (by decide) (by decide); rw [te_r4] at h; exact h
  have z7 : 0 ≤ B0.1 81 117 ∧ B0.1 81 117 ≤ 4 := by have h := te_bbc bb (z := 7) (by decide) (by decide); rw [te_r7] at h; exact h
  have cc : 0 ≤ B0.1 81 112 ∧ B0.1 81 112 ≤ 8 := by have h := te_bbc bb (z := 2) (by decide) (by decide); rw [te_r2] at h; exact h
  have hcn : B.1 81 112 = B0.1 81 112 := h81 112 (by decide)
  have c2 : A0.1 (b + 1) 2 = B0.1 81 112 := L0.2.2.2.2.2.1.1 2 (by decide) (by decide)
  obtain ⟨c, hc⟩ : ∃ c, B0.1 81 112 = c := ⟨_, rfl⟩
  have cr' : c < te_room 2 := by rw [te_r2, ← hc]; exact cr
  obtain ⟨A1, B1, c1, r1, s1⟩ := te_pname (X := X) hb te_g113 (i := 0) (by decide) (by decide) (by decide +kernel) S (by omega) (so := 0) (nu := c) (by decide) (fun q => hc.symm) c2 z2.1
  obtain ⟨A2, x0, x1, B2, c2, r2, s2, b0, b1⟩ := te_pcell (X := X) hb te_g113 (i := 1) (by decide) (by decide) (by decide +kernel) s1 (by decide) (by decide) (p := (9 + c)) (q := (17 + c)) (by omega) (by omega) (by omega) (by omega) (fun z hz A K a d => by rcases hz with rfl | rfl <;> (rw [te32 a d (by decide) (by decide) (by decide) (by decide) (by decide)]; exact congrArg (fun x => K x A) (by decide +kernel))) (fun z hz A K a d => by rcases hz with rfl | rfl <;> (rw [te33 a d (by decide) (by decide) (by decide) (by decide)]; exact congrArg (fun x => K x A) (by decide +kernel)))
  obtain ⟨A3, x2, B3, c3, r3, s3, b2, t3⟩ := te_ptolds (X := X) hb te_g113 (i := 6) (e := 11) (by decide) (by decide) (by decide) (by decide) (te_rgp (P := fun k => 97 ≤ tb_cI 114 k ∧ tb_cI 114 k ≤ 122) (by decide +kernel)) (by decide +kernel) te_w163 (by decide +kernel) s2 (by decide) (by decide) (lo := 1) (hi := 99) (by decide) (fun A K a d _ => by rw [te32 a d (by decide) (by decide) (by decide) (by decide) (by decide)]; exact congrArg (fun x => K x A) (by decide +kernel)) (fun A K a d => by rw [te33 a d (by decide) (by decide) (by decide) (by decide)]; exact congrArg (fun x => K x A) (by decide +kernel))
  have u3 := s3.up (p := (25 + c)) (v := x2) (by omega)
  have pt : ∀ p ∈ tb_tab, p.2.1 = 110 + 2 → p = (96, 112, 9) ∨ p = (97, 112, 17) ∨ p = (98, 112, 25) := by decide +kernel
  have pb : ∀ p ∈ tb_bnd, p.1 = 110 + 2 → p = (112, 9, 0, 9) ∨ p = (112, 17, 0, 9) ∨ p = (112, 25, 1, 99) := by decide +kernel
  have ps : ∀ p ∈ tb_scr, p.1 = 110 + 2 → False := by decide +kernel
  obtain ⟨Z, zc, zA, zB, zz⟩ := te_finl (X := X) hb (y := y) (s := 2) (c := c) (by decide) (by decide) L0 hc cr' u3 (x := (tb_w ((tb_upI B3 81 (25 + c) x2).1 81 112 + 1))) (fun _ h => by rw [show (tb_upI B3 81 (25 + c) x2).1 81 112 = c from h.trans (((te_uk (by omega)).trans ((te_uk (by omega)).trans ((te_uk (by omega)).trans (hc)))) : (td_up (td_up (td_up (B0.1 81) (9 + c) x0) (17 + c) x1) (25 + c) x2) 112 = c), tb_w_id (by omega) (by omega)])
    (fun p hp e => by
      rcases pt p hp e with rfl | rfl | rfl
      · exact ⟨⟨by decide, by decide⟩, (((te_uk (by decide)).trans ((te_uk (by decide)).trans (te_us (by decide)))) : (td_up (td_up (td_up vs (0) x0) (0 + 1) x1) (0 + 2) x2) 0 = x0).trans (((te_uk (by omega)).trans ((te_uk (by omega)).trans (te_us (by omega)))) : (td_up (td_up (td_up (B0.1 81) (9 + c) x0) (17 + c) x1) (25 + c) x2) (9 + c) = x0).symm⟩
      · exact ⟨⟨by decide, by decide⟩, (((te_uk (by decide)).trans (te_us (by decide))) : (td_up (td_up (td_up vs (0) x0) (0 + 1) x1) (0 + 2) x2) 1 = x1).trans (((te_uk (by omega)).trans (te_us (by omega))) : (td_up (td_up (td_up (B0.1 81) (9 + c) x0) (17 + c) x1) (25 + c) x2) (17 + c) = x1).symm⟩
      · exact ⟨⟨by decide, by decide⟩, ((te_us (by decide)) : (td_up (td_up (td_up vs (0) x0) (0 + 1) x1) (0 + 2) x2) 2 = x2).trans ((te_us (by omega)) : (td_up (td_up (td_up (B0.1 81) (9 + c) x0) (17 + c) x1) (25 + c) x2) (25 + c) = x2).symm⟩
      )
    (fun k k1 hq => ((te_uk (fun e => hq (98, 112, 25) (by decide) (by decide) e)).trans ((te_uk (fun e => hq (97, 112, 17) (by decide) (by decide) e)).trans ((te_uk (fun e => hq (96, 112, 9) (by decide) (by decide) e)).trans (rfl)))))
    (fun p hp e => by
      rcases pb p hp e with rfl | rfl | rfl
      · exact te_bd (lo := 0) (hi := 9) (((te_uk (by omega)).trans ((te_uk (by omega)).trans (te_us (by omega)))) : (td_up (td_up (td_up (B0.1 81) (9 + c) x0) (17 + c) x1) (25 + c) x2) (9 + c) = x0) b0
      · exact te_bd (lo := 0) (hi := 9) (((te_uk (by omega)).trans (te_us (by omega))) : (td_up (td_up (td_up (B0.1 81) (9 + c) x0) (17 + c) x1) (25 + c) x2) (17 + c) = x1) b1
      · exact te_bd (lo := 1) (hi := 99) ((te_us (by omega)) : (td_up (td_up (td_up (B0.1 81) (9 + c) x0) (17 + c) x1) (25 + c) x2) (25 + c) = x2) b2
      )
    (fun _ p hp e => absurd (ps p hp e) id)
    (by rw [if_pos (by decide)]) (by rw [if_pos (by decide), if_pos (by decide)]; exact congrArg (· + 1) hc)
  exact ⟨Z, _, fun K k => te_ci0 hb te_g113 f.1 (c1 _ (c2 _ (c3 _ (te_cin hb te_g113 (zc K k))))), fun K k => q218 ⟨fun _ => by rw [hcn, hc, tb_w_id (x := 9 + c) (by omega) (by omega), tb_w_id (x := 17 + c) (by omega) (by omega), tb_w_id (x := 25 + c) (by omega) (by omega)]; exact r1 _ (r2 _ (r3 _ (⟨⟨by omega, by omega⟩, k⟩))), fun q => absurd f.2 q⟩, zA, zB, zz⟩
end TELINES
