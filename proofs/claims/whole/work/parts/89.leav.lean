/-! READER 12: leavers -/
section TELEAV
variable {X : tb_X} {A B A0 B0 : tb_H} {K : Int → tb_H → Prop} {Kv : tb_H → Prop}
variable {n : Int} {b : Nat} {a0 sort N cs m : Int} {vs rho : Int → Int}
def te_fs (r : Int → Int) : Nat → Int → Int → Int
  | 0, _, _ => 0
  | k + 1, i, v => if r i = v then 1 else te_fs r k (i + 1) v
theorem te_fs1 (r : Int → Int) (k : Nat) : ∀ (i v : Int), te_fs r (k + 1) i v = if r (i + k) = v then 1 else te_fs r k i v := by
  induction k with
  | zero =>
    intro i v
    show (if r i = v then 1 else (0 : Int)) = if r (i + 0) = v then 1 else 0
    rw [Int.add_zero]
  | succ k ih =>
    intro i v
    show (if r i = v then 1 else te_fs r (k + 1) (i + 1) v) = if r (i + (k + 1 : Nat)) = v then 1 else (if r i = v then 1 else te_fs r k (i + 1) v)
    rw [ih (i + 1) v, show i + 1 + (k : Int) = i + (k + 1 : Nat) by omega]
    by_cases h : r i = v
    · rw [if_pos h, if_pos h]
      split <;> rfl
    · rw [if_neg h, if_neg h]
theorem te41r (hb : tb_isB b) {s l x : Int} (s0 : 0 ≤ s) (s1 : s < 9) (l0 : 0 ≤ l) (l1 : l < A.1 (b + 1) s) (l8 : l < 8) (x0 : 0 ≤ x) (x6 : x < 6) : tb_Ci X 41 [tb_r b, tb_i s, tb_i l, tb_i x] A K = K (A.1 (b + 2) ((s * 8 + l) * 6 + x)) A := by
  refine tb_dei (q41 hb ⟨fun q => absurd q (by omega), fun _ => ⟨fun q => absurd q (by omega), fun _ => ⟨fun q => absurd q (by omega), fun _ => ⟨fun q => absurd q (by omega), fun _ => ⟨fun q => absurd q (by omega), fun _ => ⟨fun _ => ?_, fun q => absurd q (by omega)⟩⟩⟩⟩⟩⟩)
  rw [tb_w_id (x := s * 8) (by omega) (by omega), tb_w_id (x := s * 8 + l) (by omega) (by omega), tb_w_id (x := (s * 8 + l) * 6) (by omega) (by omega), tb_w_id (x := (s * 8 + l) * 6 + x) (by omega) (by omega), if_neg (by omega), if_pos (by omega)]
  exact ⟨rfl, rfl⟩
theorem te40 (hb : tb_isB b) {r : Int → Int} {c : Nat} (hc : A.1 (b + 1) 8 = c) (c8 : c ≤ 8) (hr : ∀ j : Int, 0 ≤ j → j < c → A.1 (b + 2) ((8 * 8 + j) * 6 + 0) = r j) {v : Int} : tb_Ci X 40 [tb_r b, tb_i v] A K = K (te_fs r c 0 v) A := by
  have loop : ∀ (k : Nat) (i : Int), i + k = c → 0 ≤ i → tb_E X 40 2 [tb_r b, tb_i v, tb_i i] [] A (tb_Ri 40 (fun x A' => x = te_fs r k i v ∧ A' = A)) := by
    intro k
    induction k with
    | zero =>
      intro i e i0
      refine q40_2 hb ?_
      rw [e28g hb (by decide) (by decide), hc]
      exact ⟨fun _ => ⟨rfl, rfl⟩, fun q => absurd q (by omega)⟩
    | succ k ih =>
      intro i e i0
      refine q40_2 hb ?_
      rw [e28g hb (by decide) (by decide), hc]
      refine ⟨fun q => absurd q (by omega), fun _ => ?_⟩
      rw [te41r hb (by decide) (by decide) i0 (by omega) (by omega) (by decide) (by decide), hr i i0 (by omega)]
      refine ⟨fun q => ?_, fun q => ⟨?_, rfl⟩⟩
      · rw [tb_w_id (by omega) (by omega)]
        have h := ih (i + 1) (by omega) (by omega)
        have e2 : te_fs r (k + 1) i v = te_fs r k (i + 1) v := if_neg q
        rw [e2]
        exact h
      · exact (if_pos q).symm
  exact tb_dei (q40 hb (loop c 0 (by omega) (by decide)))
/-- who parted already: a bit for each -/
theorem te229 {r : Int → Int} {c : Nat} (c3 : c ≤ 3) (hr : ∀ j : Int, 0 ≤ j → j < c → B.1 81 (101 + j) = r j ∧ 0 ≤ r j ∧ r j < 8) {y : Int} : ∃ mask, (∀ v, 0 ≤ v → v < 8 → tb_bt mask v = te_fs r c 0 v) ∧ ∀ K : tb_H → Prop, tb_E X 229 21 [tb_r 77, tb_i y, tb_i c, tb_i mask, tb_i c] [] B (tb_Rv 229 K) → tb_E X 229 21 [tb_r 77, tb_i y, tb_i c, tb_i 0, tb_i 0] [] B (tb_Rv 229 K) := by
  have loop : ∀ i : Nat, i ≤ c → ∃ mask, ((0 ≤ mask ∧ mask < 256) ∧ ∀ v, 0 ≤ v → v < 8 → tb_bt mask v = te_fs r i 0 v) ∧ ∀ K : tb_H → Prop, tb_E X 229 21 [tb_r 77, tb_i y, tb_i c, tb_i mask, tb_i i] [] B (tb_Rv 229 K) → tb_E X 229 21 [tb_r 77, tb_i y, tb_i c, tb_i 0, tb_i 0] [] B (tb_Rv 229 K) := by
    intro i
    induction i with
    | zero => intro _; exact ⟨0, ⟨by decide, fun v v0 v1 => te_bt00 v0 v1⟩, fun K h => h⟩
    | succ i ih =>
      intro hi
      obtain ⟨mask, ⟨m0, mb⟩, h⟩ := ih (by omega)
      have hj := hr i (by omega) (by omega)
      have o := td_or2 m0.1 m0.2 hj.2.1 hj.2.2
      refine ⟨tb_or mask (tb_shl 1 (r i)), ⟨o.1, fun v v0 v1 => ?_⟩, fun K k => h K (q229_21 ⟨fun q => absurd q (by omega), fun _ => ?_⟩)⟩
      · rw [o.2 v v0 v1, te_fs1, Int.zero_add, mb v v0 v1]
        by_cases e : r i = v
        · rw [if_pos e.symm, if_pos e]
        · rw [if_neg (fun q => e q.symm), if_neg e]
      · rw [tb_w_id (x := 101 + (i : Int)) (by omega) (by omega), hj.1, tb_w_id (x := (i : Int) + 1) (by omega) (by omega)]
        exact ⟨⟨by omega, by omega⟩, k⟩
  obtain ⟨mask, h1, h2⟩ := loop c (Nat.le_refl c)
  exact ⟨mask, h1.2, h2⟩
theorem te_keep (hb : tb_isB b) {s y : Int} (LN : te_LN n b a0 s N cs m vs rho A0 A B) (m0 : 0 ≤ m) (m6 : m < 6) : te_LN n b a0 s N cs (m + 1) (td_up vs m y) rho A0 (tb_upI (tb_upI A 3 m y) 1 9 (m + 1)) B := by
  have b5 := te_b5 hb
  obtain ⟨f0, T, tk, row, nm, hr, ho, pg⟩ := LN
  have o1 : ∀ k, k ≠ 9 → (tb_upI (tb_upI A 3 m y) 1 9 (m + 1)).1 1 k = A.1 1 k := fun k hk => by rw [tb_uI_k hk, td_upo (by decide)]
  have oo : ∀ o, o ≠ 1 → o ≠ 3 → (tb_upI (tb_upI A 3 m y) 1 9 (m + 1)).1 o = A.1 o := fun o h1 h3 => by rw [td_upo h1, td_upo h3]
  have oL : (tb_upI (tb_upI A 3 m y) 1 9 (m + 1)).2.1 = A.2.1 := rfl
  refine ⟨⟨by rw [o1 10 (by decide)]; exact f0.1, f0.2⟩, ?_, ?_, ⟨?_, ?_, fun k k0 k1 => ?_⟩, ?_, hr, ?_, ?_⟩
  · unfold te_tp at T ⊢
    rw [o1 3 (by decide), oo 2 (by decide) (by decide)]
    exact T
  · unfold te_Tk at tk ⊢
    rw [o1 6 (by decide), o1 5 (by decide), o1 4 (by decide), oL]
    exact tk
  · rw [o1 8 (by decide)]; exact row.1
  · rw [tb_uI_s]
  · rw [td_upo (by decide), tb_uI1]
    show _ = if k = m then y else vs k
    by_cases e : k = m
    · rw [if_pos e, if_pos ⟨rfl, e⟩]
    · rw [if_neg e, if_neg (fun q => e q.2)]
      exact row.2.2 k k0 (by omega)
  · unfold te_Nm at nm ⊢
    rw [oo b (by omega) (by omega), oo (b + 4) (by omega) (by omega), oL]
    exact nm
  · rw [oo (b + 1) (by omega) (by omega), oo (b + 2) (by omega) (by omega)]
    exact ho
  · rw [o1 5 (by decide), o1 4 (by decide)]
    exact pg
/-- the end of a leaver's line -/
theorem te_fin8 (hb : tb_isB b) {rho' : Int → Int} {c N' cs' y : Int} (L0 : te_L0 n b N A0 B0) (hc : B0.1 81 118 = c) (cr : c < te_room 8) {B' : tb_H} (S : te_Sl n b a0 8 N' cs' 2 vs rho' A0 B0 A B') {x : Int} (hx : B'.1 77 13 = 0 → B'.1 81 118 = rho' 118 → x = c + 1) (hv : ∀ p ∈ tb_tab, p.2.1 = 110 + 8 → (0 ≤ p.1 - 48 * 8 ∧ p.1 - 48 * 8 < 2 + 1) ∧ td_up vs 2 y (p.1 - 48 * 8) = rho' (p.2.2 + c)) (hfr : ∀ k, k < 119 → (∀ q ∈ tb_tab, q.2.1 = 110 + 8 → k ≠ q.2.2 + c) → rho' k = B0.1 81 k)
    (hbn : ∀ p ∈ tb_bnd, p.1 = 110 + 8 → p.2.2.1 ≤ rho' (p.2.1 + c) ∧ rho' (p.2.1 + c) ≤ p.2.2.2) (hsc : A.1 1 10 = 0 → ∀ p ∈ tb_scr, p.1 = 110 + 8 → 0 ≤ rho' (p.2 + c) ∧ rho' (p.2 + c) < B0.1 81 112) (hN : N' = N) (hcs : cs' = B0.1 81 112) :
    ∃ A', (∀ K : tb_H → Prop, K A' → te_aft X b y A K) ∧ te_fc b A0 A' ∧ te_fm B0 (tb_upI B' 81 118 x) ∧ (te_Fl A' (tb_upI B' 81 118 x) ∨ ((∃ N', te_L0 n b N' A' (tb_upI B' 81 118 x)) ∧ (A'.1 1 5 = 4 ∨ A'.1 1 5 = 0 ∨ a0 ≤ A'.1 1 4))) := by
  obtain ⟨fA, fB, S⟩ := S
  have b5 := te_b5 hb
  have fB' : te_fm B0 (tb_upI B' 81 118 x) := tb_fr.upI fB rfl
  rcases S with fl | LN0
  · refine ⟨A, fun K k => ⟨fun z => absurd z fl.1, fun _ => k⟩, fA, fB', Or.inl ?_⟩
    unfold te_Fl at fl ⊢
    rw [td_upo (by decide)]
    exact fl
  · have LN := te_keep hb (y := y) LN0 (by decide) (by decide)
    have hl := te_fin0 hb (s := 8) (by decide) (by decide) L0 hc cr LN hv hfr hbn (hsc LN0.1.1) (by rw [if_neg (by decide), hN]; omega) (by rw [if_neg (by decide), hcs])
    have h46 : (tb_upI (tb_upI A 3 2 y) 1 9 (2 + 1)).1 (b + 1) 8 = c := by
      rw [LN.2.2.2.2.2.2.1.1, ← hc]
      exact L0.2.2.2.2.2.1.1 8 (by decide) (by decide)
    have bb := L0.2.2.2.2.2.2
    have cc : 0 ≤ B0.1 81 118 ∧ B0.1 81 118 ≤ te_room 8 := te_bbc bb (z := 8) (by decide) (by decide)
    rw [hc] at cc
    have cr2 := cr
    rw [te_r8] at cr2
    have hr := LN.2.2.2.2.2.1
    have x1 := hx LN.1.2 (hr 118 (by decide))
    refine ⟨tb_upI (tb_cpy (tb_upI (tb_upI A 3 2 y) 1 9 (2 + 1)) 3 0 (b + 2) ((8 * 8 + c) * 6) 6) (b + 1) 8 (c + 1), fun K k => ⟨fun _ => ⟨fun q => absurd LN0.2.2.2.1.1 q, fun _ => ?_⟩, fun z => absurd LN0.1.1 z⟩, ?_, fB', Or.inr ⟨⟨N', ?_⟩, ?_⟩⟩
    · refine q34 ⟨fun q => absurd q (by rw [LN0.2.2.2.1.2.1]; decide), fun _ => ⟨fun _ => ?_, fun q => absurd q (by rw [LN0.2.2.2.1.2.1]; decide)⟩⟩
      rw [LN0.2.2.2.1.2.1, show tb_w (2 + 1) = 2 + 1 by decide, LN.2.2.2.1.1, te46 hb (by decide) (by decide) h46 cc.1 (by omega) cr]
      exact k
    · exact te_fc.upI (te_fc.cpy b5.1 (te_fc.upI (te_fc.upI fA rfl) rfl)) (by rw [te_Sbb.2.1]; rfl)
    · rw [x1]
      exact hl
    · rw [td_upo (by omega), te_cpy_o (by omega)]
      exact LN.2.2.2.2.2.2.2
theorem te_ln8 (hb : tb_isB b) {y : Int} (y0 : 0 ≤ y) (y1 : y ≤ 1) (L0 : te_L0 n b N A0 B0) (cr : B0.1 81 118 < 3) (S : te_Sl n b a0 8 N (B0.1 81 112) 0 vs (B0.1 81) A0 B0 A B) (f : A.1 1 10 = 0 ∧ B.1 77 13 = 0) (h81 : ∀ k, k < 119 → B.1 81 k = B0.1 81 k) : te_LR X n b a0 A0 B0 125 y 229 [tb_r 77, tb_i y] A B := by
  have bb := L0.2.2.2.2.2.2
  have rb := L0.2.2.2.2.2.1
  have z2 : 0 ≤ B0.1 81 112 ∧ B0.1 81 112 ≤ 8 := by have h := te_bbc bb (z := 2) (by decide) (by decide); rw [te_r2] at h; exact h
  have cc : 0 ≤ B0.1 81 118 ∧ B0.1 81 118 ≤ 3 := by have h := te_bbc bb (z := 8) (by decide) (by decide); rw [te_r8] at h; exact h
  have hcn : B.1 81 118 = B0.1 81 118 := h81 118 (by decide)
  obtain ⟨c, hc⟩ : ∃ c, B0.1 81 118 = c := ⟨_, rfl⟩
  have cr' : c < te_room 8 := by rw [te_r8, ← hc]; exact cr
  obtain ⟨d, hd⟩ := Int.eq_ofNat_of_zero_le (a := c) (by omega)
  have c8 : A0.1 (b + 1) 8 = (d : Int) := (rb.1 8 (by decide) (by decide)).trans (hc.trans hd)
  have scr : ∀ j, 0 ≤ j → j < (d : Int) → 0 ≤ B0.1 81 (101 + j) ∧ B0.1 81 (101 + j) < B0.1 81 112 := fun j j0 j1 => bb.2.2.2.2.2.2.2.2.2.2 (118, 101) (by decide) j j0 (by show j < B0.1 81 118; omega)
  obtain ⟨mask, mb, mr⟩ := te229 (X := X) (B := B) (r := fun j => B0.1 81 (101 + j)) (c := d) (by omega) (fun j j0 j1 => ⟨h81 _ (by omega), (scr j j0 j1).1, by have h := scr j j0 j1; show B0.1 81 (101 + j) < 8; omega⟩) (y := y)
  have rw0 : ∀ j, 0 ≤ j → j < (d : Int) → A0.1 (b + 2) ((8 * 8 + j) * 6 + 0) = B0.1 81 (101 + j) := fun j j0 j1 => by
    have h := rb.2 (384, 118, 101) (by decide) j j0 (by show j < B0.1 81 118; omega)
    rw [show (8 * 8 + j) * 6 + 0 = (384, 118, 101).1 + 6 * j by show (8 * 8 + j) * 6 + 0 = 384 + 6 * j; omega]
    exact h
  obtain ⟨A1, x0, B1, c1, r1, s1, b0⟩ := te_pscu (X := X) hb te_g125 (i := 0) (by decide) (by decide) (by decide +kernel) S (by decide) (by decide) (mask := mask) (f := te_fs (fun j => B0.1 81 (101 + j)) d 0) (by omega) (fun _ A K v e1 e2 v0 v1 => te40 hb (by rw [e1]; exact c8) (by omega) (fun j j0 j1 => by rw [e2]; exact rw0 j j0 j1)) (fun v v0 v1 => by rw [if_pos rfl]; exact mb v v0 (by omega))
  have u1 := s1.up (p := (101 + c)) (v := x0) (by omega)
  obtain ⟨A2, x1, B2, c2, r2, s2, b1, t2⟩ := te_ptolds (X := X) hb te_g125 (i := 1) (e := 4) (by decide) (by decide) (by decide) (by decide) (te_rgp (P := fun k => 97 ≤ tb_cI 126 k ∧ tb_cI 126 k ≤ 122) (by decide +kernel)) (by decide +kernel) te_w181 (by decide +kernel) u1 (by decide) (by decide) (lo := 1) (hi := 99) (by decide) (fun A K a d _ => by rw [te32 a d (by decide) (by decide) (by decide) (by decide) (by decide)]; exact congrArg (fun x => K x A) (by decide +kernel)) (fun A K a d => by rw [te33 a d (by decide) (by decide) (by decide) (by decide)]; exact congrArg (fun x => K x A) (by decide +kernel))
  have u2 := (s2.up (p := (104 + c)) (v := x1) (by omega)).up (p := (107 + c)) (v := y) (by omega)
  have pt : ∀ p ∈ tb_tab, p.2.1 = 110 + 8 → p = (384, 118, 101) ∨ p = (385, 118, 104) ∨ p = (386, 118, 107) := by decide +kernel
  have pb : ∀ p ∈ tb_bnd, p.1 = 110 + 8 → p = (118, 104, 1, 99) ∨ p = (118, 107, 0, 1) := by decide +kernel
  have ps : ∀ p ∈ tb_scr, p.1 = 110 + 8 → p = (118, 101) := by decide +kernel
  obtain ⟨Z, zc, zA, zB, zz⟩ := te_fin8 (X := X) hb (y := y) (c := c) L0 hc cr' u2 (x := tb_w ((tb_upI (tb_upI B2 81 (104 + c) x1) 81 (107 + c) y).1 81 118 + 1)) (fun _ h => by rw [show (tb_upI (tb_upI B2 81 (104 + c) x1) 81 (107 + c) y).1 81 118 = c from h.trans (((te_uk (by omega)).trans ((te_uk (by omega)).trans ((te_uk (by omega)).trans (hc)))) : (td_up (td_up (td_up (B0.1 81) (101 + c) x0) (104 + c) x1) (107 + c) y) 118 = c), tb_w_id (by omega) (by omega)])
    (fun p hp e => by
      rcases pt p hp e with rfl | rfl | rfl
      · exact ⟨⟨by decide, by decide⟩, (((te_uk (by decide)).trans ((te_uk (by decide)).trans (te_us (by decide)))) : (td_up (td_up (td_up vs (0) x0) (0 + 1) x1) 2 y) 0 = x0).trans (((te_uk (by omega)).trans ((te_uk (by omega)).trans (te_us (by omega)))) : (td_up (td_up (td_up (B0.1 81) (101 + c) x0) (104 + c) x1) (107 + c) y) (101 + c) = x0).symm⟩
      · exact ⟨⟨by decide, by decide⟩, (((te_uk (by decide)).trans (te_us (by decide))) : (td_up (td_up (td_up vs (0) x0) (0 + 1) x1) 2 y) 1 = x1).trans (((te_uk (by omega)).trans (te_us (by omega))) : (td_up (td_up (td_up (B0.1 81) (101 + c) x0) (104 + c) x1) (107 + c) y) (104 + c) = x1).symm⟩
      · exact ⟨⟨by decide, by decide⟩, ((te_us (by decide)) : (td_up (td_up (td_up vs (0) x0) (0 + 1) x1) 2 y) 2 = y).trans ((te_us (by omega)) : (td_up (td_up (td_up (B0.1 81) (101 + c) x0) (104 + c) x1) (107 + c) y) (107 + c) = y).symm⟩
      )
    (fun k k1 hq => ((te_uk (fun e => hq (386, 118, 107) (by decide) (by decide) e)).trans ((te_uk (fun e => hq (385, 118, 104) (by decide) (by decide) e)).trans ((te_uk (fun e => hq (384, 118, 101) (by decide) (by decide) e)).trans (rfl)))))
    (fun p hp e => by
      rcases pb p hp e with rfl | rfl
      · exact te_bd (lo := 1) (hi := 99) (((te_uk (by omega)).trans (te_us (by omega))) : (td_up (td_up (td_up (B0.1 81) (101 + c) x0) (104 + c) x1) (107 + c) y) (104 + c) = x1) b1
      · exact te_bd (lo := 0) (hi := 1) ((te_us (by omega)) : (td_up (td_up (td_up (B0.1 81) (101 + c) x0) (104 + c) x1) (107 + c) y) (107 + c) = y) ⟨y0, y1⟩
      )
    (fun fz p hp e => by
      rcases ps p hp e with rfl
      exact te_bd2 (lo := 0) (((te_uk (by omega)).trans ((te_uk (by omega)).trans (te_us (by omega)))) : (td_up (td_up (td_up (B0.1 81) (101 + c) x0) (104 + c) x1) (107 + c) y) (101 + c) = x0) ⟨(b0 (t2 fz)).1, (b0 (t2 fz)).2.1⟩)
    rfl rfl
  refine ⟨Z, _, fun K k => te_ci0 hb te_g125 f.1 (c1 _ (c2 _ (te_cin hb te_g125 (zc K k)))), fun K k => q229 ⟨fun _ => ?_, fun q => absurd f.2 q⟩, zA, zB, zz⟩
  rw [hcn, hc, hd]
  refine mr K (q229_21 ⟨fun _ => ?_, fun q => absurd q (by omega)⟩)
  rw [tb_w_id (x := 101 + (d : Int)) (by omega) (by omega), tb_w_id (x := 104 + (d : Int)) (by omega) (by omega), tb_w_id (x := 107 + (d : Int)) (by omega) (by omega)]
  rw [hd] at k
  rw [hd] at r2
  exact r1 _ ⟨⟨by omega, by omega⟩, r2 _ ⟨⟨by omega, by omega⟩, ⟨by omega, by omega⟩, k⟩⟩
end TELEAV
