/-! READER 3: constant texts, words -/
section TESTR
variable {X : tb_X} {A B : tb_H} {K : Int → tb_H → Prop} {Kv : tb_H → Prop}
def te_str (w kb nw : Nat) : Prop := tb_kd w = (4, 0, [100 + kb, 0]) ∧ tb_kd kb = (3, nw, [2]) ∧ nw < 100 ∧ ∀ k : Fin nw, 0 ≤ tb_cI kb k.val ∧ tb_cI kb k.val ≤ 127
theorem te_shr0 : ∀ n : Fin 100, tb_shr n.val 0 = n.val := by decide +kernel
theorem te19 {w kb nw : Nat} (h : te_str w kb nw) : tb_Ci X 19 [tb_r w] A K = K (nw : Int) A := by
  refine tb_dei (q19 h.1 h.2.1 (q20 h.1 h.2.1 ?_))
  have e := te_shr0 ⟨nw, h.2.2.1⟩
  exact ⟨e, rfl⟩
theorem te21 {w kb nw : Nat} (h : te_str w kb nw) {i : Int} (i0 : 0 ≤ i) (i1 : i < nw) : tb_Ci X 21 [tb_r w, tb_i i] A K = K (tb_cI kb i) A := by
  obtain ⟨k, rfl⟩ := Int.eq_ofNat_of_zero_le i0
  have b := h.2.2.2 ⟨k, by omega⟩
  have b' : 0 ≤ tb_cI kb (k : Int) ∧ tb_cI kb (k : Int) ≤ 127 := b
  have e : tb_and (tb_cI kb (k : Int)) 255 % 65536 = tb_cI kb (k : Int) := by
    rw [tb_and255]
    omega
  refine tb_dei (q21 h.1 h.2.1 (q22 h.1 h.2.1 ⟨fun q => absurd q (by decide), fun _ => q23 h.2.1 (q24 (q25 ⟨fun q => absurd q (by omega), fun _ => ⟨fun _ => ?_, fun q => absurd q (by omega)⟩⟩))⟩))
  rw [e]
  exact ⟨⟨i0, i1⟩, ⟨by omega, by omega⟩, ⟨by omega, by omega⟩, rfl, rfl⟩
/-- the words that begin lines -/
def te_wl (wd ch : Int) : Int := tb_W (tb_W (tb_W (tb_W (wd * 32) + ch) - 97) + 1)
def te_sx : Nat → Int → Int → Int → List (Int × Int)
  | 0, _, _, _ => []
  | k + 1, i, wd, wh => if tb_cI 108 i = 32 then (wd, wh) :: te_sx k (i + 1) 0 (wh + 1) else te_sx k (i + 1) (te_wl wd (tb_cI 108 i)) wh
def te_fst : List (Int × Int) → Int → Int
  | [], _ => -1
  | (a, b) :: l, c => if a = c then b else te_fst l c
def te_L : List (Int × Int) := [(te_code (tb_cI 128) 3, 0), (te_code (tb_cI 142) 6, 1), (te_code (tb_cI 148) 5, 2), (te_code (tb_cI 150) 5, 3), (te_code (tb_cI 152) 6, 4), (te_code (tb_cI 154) 5, 5), (te_code (tb_cI 156) 4, 6), (te_code (tb_cI 158) 4, 7), (te_code (tb_cI 160) 5, 8), (te_code (tb_cI 162) 5, 9)]
theorem te_sxL : te_sx 58 0 0 0 = te_L := by decide +kernel
theorem te_s107 : te_str 107 108 58 := ⟨kd_107, kd_108, by decide, by decide +kernel⟩
theorem te_lc {a b : Int} : (tb_lcmp a b = 0) = (a = b) := by
  unfold tb_lcmp
  by_cases h : a < b
  · rw [if_pos h]
    exact propext ⟨fun q => absurd q (by decide), fun q => by omega⟩
  · rw [if_neg h]
    by_cases e : a = b
    · rw [if_pos e]; exact propext ⟨fun _ => e, fun _ => rfl⟩
    · rw [if_neg e]; exact propext ⟨fun q => absurd q (by decide), fun q => absurd q e⟩
theorem e18 : tb_Ci X 18 [tb_r 1] A K = K (if A.1 1 5 = 1 then te_fst te_L (A.2.1 1 7) else -1) A := by
  have loop : ∀ (k : Nat) (i wd wh : Int) (j : tb_V), i + k = 58 → 0 ≤ i → 0 ≤ wh → wh ≤ i → A.1 1 5 = 1 → tb_E X 18 7 [tb_r 1, tb_j wd, tb_s 1, tb_i wh, tb_i i, j] [] A (tb_Ri 18 (fun v A' => v = te_fst (te_sx k i wd wh) (A.2.1 1 7) ∧ A' = A)) := by
    intro k
    induction k with
    | zero =>
      intro i wd wh j ik i0 w0 w1 hk
      refine q18_7 ?_
      rw [te19 te_s107]
      exact ⟨fun _ => ⟨rfl, rfl⟩, fun q => absurd q (by omega)⟩
    | succ k ih =>
      intro i wd wh j ik i0 w0 w1 hk
      refine q18_7 ?_
      rw [te19 te_s107]
      refine ⟨fun q => absurd q (by omega), fun _ => ⟨fun q => absurd hk q, fun _ => ?_⟩⟩
      rw [te21 te_s107 i0 (by omega), te_lc, tb_w_id (x := wh + 1) (by omega) (by omega), tb_w_id (x := i + 1) (by omega) (by omega)]
      have e : te_sx (k + 1) i wd wh = if tb_cI 108 i = 32 then (wd, wh) :: te_sx k (i + 1) 0 (wh + 1) else te_sx k (i + 1) (te_wl wd (tb_cI 108 i)) wh := rfl
      rw [e]
      refine ⟨fun c => ?_, fun c => ?_⟩
      · rw [if_pos c]
        show (_ ≠ _ → _) ∧ _
        have e2 : te_fst ((wd, wh) :: te_sx k (i + 1) 0 (wh + 1)) (A.2.1 1 7) = if wd = A.2.1 1 7 then wh else te_fst (te_sx k (i + 1) 0 (wh + 1)) (A.2.1 1 7) := rfl
        rw [e2]
        refine ⟨fun q => ?_, fun q => ?_⟩
        · have q' : ¬ (wd = A.2.1 1 7) := fun z => q (te_lc.mpr z)
          rw [if_neg q']
          exact ih (i + 1) 0 (wh + 1) _ (by omega) (by omega) (by omega) (by omega) hk
        · rw [if_pos q]
          exact ⟨rfl, rfl⟩
      · rw [if_neg c, e14g]
        exact ih (i + 1) _ wh _ (by omega) (by omega) (by omega) (by omega) hk
  refine tb_dei (q18 ?_)
  by_cases c : A.1 1 5 = 1
  · rw [if_pos c, ← te_sxL]
    exact loop 58 0 0 0 _ (by decide) (by decide) (by decide) (by decide) c
  · rw [if_neg c]
    refine q18_7 ?_
    rw [te19 te_s107]
    exact ⟨fun q => absurd q (by decide), fun _ => ⟨fun _ => ⟨rfl, rfl⟩, fun q => absurd q c⟩⟩
/-- the reference's words -/
def te_ws (w kb nw : Nat) : Prop := te_str w kb nw ∧ (1 ≤ nw ∧ nw ≤ 8) ∧ ∀ k : Fin nw, 97 ≤ tb_cI kb k.val ∧ tb_cI kb k.val ≤ 122
theorem te210f {w kb nw : Nat} (h : te_str w kb nw) (f : A.1 77 13 ≠ 0 ∨ A.1 77 6 ≠ 2) : tb_Ci X 210 [tb_r 77, tb_r w] A K = K 0 A := by
  refine tb_dei (q210 h.1 h.2.1 ⟨fun _ => ⟨rfl, rfl⟩, fun z => ⟨fun _ => ⟨rfl, rfl⟩, fun q => ?_⟩⟩)
  rcases f with f | f
  · exact absurd z f
  · exact absurd q f
theorem te_wch {w kb nw : Nat} (h : te_ws w kb nw) : ∀ k : Int, 0 ≤ k → k < nw → 97 ≤ tb_cI kb k ∧ tb_cI kb k ≤ 122 := by
  intro k k0 k1
  obtain ⟨j, rfl⟩ := Int.eq_ofNat_of_zero_le k0
  exact h.2.2 ⟨j, by omega⟩
theorem te210 {w kb nw : Nat} (h : te_ws w kb nw) (f : A.1 77 13 = 0) (t : A.1 77 6 = 2) {c : Int} (wd : te_wd (A.1 79) (A.1 77 8) c) : tb_Ci X 210 [tb_r 77, tb_r w] A K = K (if c = te_code (tb_cI kb) nw then 1 else 0) A := by
  have ch := te_wch h
  have iff : c = te_code (tb_cI kb) nw ↔ A.1 77 8 = nw ∧ ∀ k, 0 ≤ k → k < A.1 77 8 → A.1 79 k = tb_cI kb k := by
    rw [wd.2.2]
    have e : (((A.1 77 8).toNat : Nat) : Int) = A.1 77 8 := by have := wd.1; omega
    refine ⟨fun q => ?_, fun q => ?_⟩
    · have u := te_code_u (A.1 77 8).toNat nw (fun k a b => wd.2.1 k a (by omega)) ch q
      exact ⟨by omega, fun k a b => u.2 k a (by omega)⟩
    · rw [te_code_c (l' := tb_cI kb) (A.1 77 8).toNat (fun k a b => q.2 k a (by omega)), show (A.1 77 8).toNat = nw by omega]
  refine tb_dei (q210 h.1.1 h.1.2.1 ⟨fun q => absurd f q, fun _ => ⟨fun q => absurd t q, fun _ => ?_⟩⟩)
  rw [te19 h.1]
  have loop := tb_lp (n := A.1 77 8) (E := fun i => ∀ z : Int, A.1 77 8 = nw → ((z = 1 ∧ ∀ k, 0 ≤ k → k < i → A.1 79 k = tb_cI kb k) ∨ (z = 0 ∧ ¬ ∀ k, 0 ≤ k → k < A.1 77 8 → A.1 79 k = tb_cI kb k)) → tb_E X 210 32 [tb_r 77, tb_r w, tb_i z, tb_i i] [] A (tb_Ri 210 (fun v A' => v = (if c = te_code (tb_cI kb) nw then 1 else 0) ∧ A' = A))) (by have := wd.1; omega) ?_ ?_
  · refine ⟨fun e => loop 1 e (Or.inl ⟨rfl, fun k a b => absurd b (by omega)⟩), fun e => ⟨?_, rfl⟩⟩
    rw [if_neg (fun q => e (iff.mp q).1)]
  · intro z e hz
    refine q210_32 h.1.1 h.1.2.1 ⟨fun _ => ?_, fun q => absurd q (by omega)⟩
    rcases hz with hz | hz
    · rw [hz.1, if_pos (iff.mpr ⟨e, hz.2⟩)]
      exact ⟨Or.inr rfl, rfl, rfl⟩
    · rw [hz.1, if_neg (fun q => hz.2 (iff.mp q).2)]
      exact ⟨Or.inl rfl, rfl, rfl⟩
  · intro i i0 i1 ih z e hz
    have wb := wd.1
    refine q210_32 h.1.1 h.1.2.1 ⟨fun q => absurd q (by omega), fun _ => ?_⟩
    rw [tb_w_id (x := i + 1) (by omega) (by omega), te21 h.1 i0 (by omega)]
    refine ⟨fun z0 => ih 0 e (Or.inr ⟨rfl, ?_⟩), fun z1 => ⟨⟨i0, by omega⟩, ?_⟩⟩
    · rcases hz with hz | hz
      · omega
      · exact hz.2
    · have hz' : ∀ k, 0 ≤ k → k < i → A.1 79 k = tb_cI kb k := by
        rcases hz with hz | hz
        · exact hz.2
        · exact absurd hz.1 z1
      by_cases q : A.1 79 i = tb_cI kb i
      · rw [if_neg (fun y => y q)]
        refine ih 1 e (Or.inl ⟨rfl, fun k k0 k1 => ?_⟩)
        by_cases y : k = i
        · rw [y]; exact q
        · exact hz' k k0 (by omega)
      · rw [if_pos q]
        exact ih 0 e (Or.inr ⟨rfl, fun y => q (y i i0 i1)⟩)
/-- the word that stands in a form from i to e -/
theorem e44 {w kb nw : Nat} (h : te_str w kb nw) {i e : Int} (i0 : 0 ≤ i) (ie : i ≤ e) (e1 : e ≤ nw) (hl : ∀ k, i ≤ k → k < e → 97 ≤ tb_cI kb k ∧ tb_cI kb k ≤ 122) (he : e < nw → ¬ (97 ≤ tb_cI kb e ∧ tb_cI kb e ≤ 122)) : tb_Ci X 44 [tb_r w, tb_i i] A K = K e A := by
  have n100 := h.2.2.1
  refine tb_dei (q44 h.1 h.2.1 ?_)
  have loop : ∀ (m : Nat) (j : Int), j + m = e → i ≤ j → tb_E X 44 4 [tb_r w, tb_i i, tb_i j, tb_i j] [] A (tb_Ri 44 (fun v A' => v = e ∧ A' = A)) := by
    intro m
    induction m with
    | zero =>
      intro j jm ij
      have ej : j = e := by omega
      rw [ej]
      refine q44_4 h.1 h.2.1 ?_
      rw [te19 h]
      refine ⟨fun _ => ⟨rfl, rfl⟩, fun q => ?_⟩
      rw [te21 h (by omega) q, e12f (he q)]
      exact ⟨fun _ => ⟨rfl, rfl⟩, fun q => absurd rfl q⟩
    | succ m ih =>
      intro j jm ij
      refine q44_4 h.1 h.2.1 ?_
      rw [te19 h]
      refine ⟨fun q => absurd q (by omega), fun q => ?_⟩
      rw [te21 h (by omega) q, e12t (hl j ij (by omega)), tb_w_id (x := j + 1) (by omega) (by omega)]
      exact ⟨fun q => absurd q (by decide), fun _ => ih (j + 1) (by omega) (by omega)⟩
  exact loop (e - i).toNat i (by omega) (Int.le_refl _)
theorem e45 {w kb nw : Nat} (h : te_str w kb nw) {i e : Int} (i0 : 0 ≤ i) (ie : i ≤ e) (e1 : e ≤ nw) (e8 : e - i ≤ 8) (hl : ∀ k, i ≤ k → k < e → 97 ≤ tb_cI kb k ∧ tb_cI kb k ≤ 122) : tb_Cv X 45 [tb_r 1, tb_r w, tb_i i, tb_i e] A Kv = if A.1 1 5 = 1 ∧ A.2.1 1 7 = te_code (fun k => tb_cI kb (i + k)) (e - i).toNat then Kv A else tb_Cv X 26 [tb_r 1, tb_i 1] A Kv := by
  have n100 := h.2.2.1
  have run : ∀ Kv : tb_H → Prop, (if A.1 1 5 = 1 ∧ A.2.1 1 7 = te_code (fun k => tb_cI kb (i + k)) (e - i).toNat then Kv A else tb_Cv X 26 [tb_r 1, tb_i 1] A Kv) → tb_Cv X 45 [tb_r 1, tb_r w, tb_i i, tb_i e] A Kv := by
    intro Kv hk
    refine q45 h.1 h.2.1 ?_
    have fin : (A.1 1 5 ≠ 1 → tb_Cv X 26 [tb_r 1, tb_i 1] A (fun A1 => Kv A1)) ∧ (A.1 1 5 = 1 → (tb_lcmp (A.2.1 1 7) (te_code (fun k => tb_cI kb (i + k)) (e - i).toNat) = 0 → Kv A) ∧ (tb_lcmp (A.2.1 1 7) (te_code (fun k => tb_cI kb (i + k)) (e - i).toNat) ≠ 0 → tb_Cv X 26 [tb_r 1, tb_i 1] A (fun A1 => Kv A1))) := by
      refine ⟨fun q => ?_, fun q => ⟨fun z => ?_, fun z => ?_⟩⟩
      · rw [if_neg (fun y => q y.1)] at hk; exact hk
      · rw [te_lc] at z
        rw [if_pos ⟨q, z⟩] at hk; exact hk
      · rw [if_neg (fun y => z (te_lc.mpr y.2))] at hk; exact hk
    have loop : ∀ (m : Nat) (j : Int), j + m = e → i ≤ j → tb_E X 45 6 [tb_r 1, tb_r w, tb_i i, tb_i e, tb_j (te_code (fun k => tb_cI kb (i + k)) (j - i).toNat), tb_s 1, tb_i j] [] A (tb_Rv 45 Kv) := by
      intro m
      induction m with
      | zero =>
        intro j jm ij
        have ej : j = e := by omega
        rw [ej]
        exact q45_6 h.1 h.2.1 ⟨fun q => absurd q (by omega), fun _ => ⟨fun _ => fin, fun q => absurd q (by omega)⟩⟩
      | succ m ih =>
        intro j jm ij
        have cb := te_code_b (l := fun k => tb_cI kb (i + k)) (j - i).toNat (by omega) (fun k a b => hl (i + k) (by omega) (by omega))
        have c7 := cb.2.2 (by omega)
        have lj := hl j ij (by omega)
        refine q45_6 h.1 h.2.1 ⟨fun q => absurd q (by omega), fun _ => ⟨fun q => absurd q (by omega), fun _ => ?_⟩⟩
        rw [te19 h]
        refine ⟨fun q => absurd q (by omega), fun _ => ?_⟩
        rw [te21 h (by omega) (by omega), e14 cb.1 c7 lj, tb_w_id (x := j + 1) (by omega) (by omega)]
        have e2 : (j + 1 - i).toNat = (j - i).toNat + 1 := by omega
        have st : te_code (fun k => tb_cI kb (i + k)) (j + 1 - i).toNat = te_code (fun k => tb_cI kb (i + k)) (j - i).toNat * 32 + (tb_cI kb j - 96) := by
          rw [e2]
          show te_code (fun k => tb_cI kb (i + k)) (j - i).toNat * 32 + (tb_cI kb (i + (((j - i).toNat : Nat) : Int)) - 96) = _
          rw [show i + (((j - i).toNat : Nat) : Int) = j by omega]
        rw [← st]
        exact ih (j + 1) (by omega) (by omega)
    have l0 := loop (e - i).toNat i (by omega) (Int.le_refl _)
    rw [show (i - i).toNat = 0 by omega] at l0
    exact l0
  by_cases c : A.1 1 5 = 1 ∧ A.2.1 1 7 = te_code (fun k => tb_cI kb (i + k)) (e - i).toNat
  · rw [if_pos c]
    have := run (fun A' => A' = A) (by rw [if_pos c])
    exact tb_dev this
  · rw [if_neg c]
    have d : ∀ Kv : tb_H → Prop, tb_Cv X 26 [tb_r 1, tb_i 1] A Kv = Kv (if A.1 1 10 = 0 then tb_upI (tb_upI A 1 10 1) 1 11 (A.1 1 6) else A) := by
      intro Kv
      refine tb_dev (q26 ⟨fun q => ?_, fun q => ?_⟩)
      · rw [if_pos q]
      · rw [if_neg q]
    rw [d]
    refine tb_dev (run _ ?_)
    rw [if_neg c, d]
end TESTR
