/-! bits by numbers; feed; seen -/
section TBFEED
variable {X : tb_X} {A D : tb_H} {K : Int → tb_H → Prop} {Kv : tb_H → Prop}
theorem tb_bvn (x : Int) : ((Int32.ofInt x).toBitVec.toNat : Int) = x % 4294967296 := by
  show ((BitVec.ofInt 32 x).toNat : Int) = _
  rw [BitVec.toNat_ofInt]
  omega
theorem tb_nI {n : Nat} (h : n < 2147483648) : (nI n).toInt = n := by
  unfold nI
  rw [Int32.toInt_ofNat_of_lt (by simpa using h)]
theorem tb_and_m {m : Int} (k : Nat) (hk : k ≤ 30) (hm : (Int32.ofInt m).toBitVec.toNat = 2 ^ k - 1) (x : Int) : tb_and x m = x % (2 ^ k : Nat) := by
  unfold tb_and
  have hp : 2 ^ k ≤ 2 ^ 30 := Nat.pow_le_pow_right (by decide) hk
  have h0 : 0 < 2 ^ k := Nat.pow_pos (by decide)
  have hlt : (Int32.ofInt x).toBitVec.toNat % 2 ^ k < 2 ^ k := Nat.mod_lt _ h0
  rw [pk_and _ k hm, tb_nI (by omega), show (((Int32.ofInt x).toBitVec.toNat % 2 ^ k : Nat) : Int) = ((Int32.ofInt x).toBitVec.toNat : Int) % ((2 ^ k : Nat) : Int) from rfl, tb_bvn]
  have e : (4294967296 : Int) = ((2 ^ k : Nat) : Int) * ((2 ^ (32 - k) : Nat) : Int) := by
    rw [← Int.natCast_mul, ← Nat.pow_add, show k + (32 - k) = 32 by omega]
    rfl
  rw [Int.emod_emod_of_dvd x ⟨_, e⟩]
theorem tb_and1 (x : Int) : tb_and x 1 = x % 2 := tb_and_m 1 (by decide) (by decide) x
theorem tb_and7 (x : Int) : tb_and x 7 = x % 8 := tb_and_m 3 (by decide) (by decide) x
theorem tb_and255 (x : Int) : tb_and x 255 = x % 256 := tb_and_m 8 (by decide) (by decide) x
theorem tb_shr_k {s : Int} (k : Nat) (hs : ((Int32.ofInt s &&& 31).toBitVec.smod 32).toNat = k) (x : Int) : tb_shr x s = (Int32.ofInt x).toInt / (2 ^ k : Nat) := by
  unfold tb_shr
  rw [pk_shr _ _ k hs, Int.shiftRight_eq_div_pow]
theorem tb_shr3 {x : Int} (h0 : -2147483648 ≤ x) (h1 : x < 2147483648) : tb_shr x 3 = x / 8 := by
  rw [tb_shr_k 3 (by decide), tb_toInt ⟨h0, h1⟩]
  rfl
theorem tb_tI (y : Int32) : y.toInt = if 2 * y.toBitVec.toNat < 4294967296 then (y.toBitVec.toNat : Int) else (y.toBitVec.toNat : Int) - 4294967296 := by
  show y.toBitVec.toInt = _
  rw [BitVec.toInt_eq_toNat_cond]
  rfl
theorem tb_fd {x s : Int} (hs : s = 24 ∨ s = 16 ∨ s = 8 ∨ s = 0) : (0 ≤ tb_and (tb_shr x s) 255 ∧ tb_and (tb_shr x s) 255 ≤ 255) ∧ tb_b8 (tb_b8 (tb_ushr x s)) = tb_b8 (tb_and (tb_shr x s) 255) := by
  rw [tb_and255]
  refine ⟨by omega, ?_⟩
  have l := (Int32.ofInt x).toBitVec.isLt
  rcases hs with rfl | rfl | rfl | rfl
  · have u := pk_ushr (Int32.ofInt x) (Int32.ofInt 24) 24 (by decide)
    unfold tb_ushr
    rw [tb_shr_k 24 (by decide), tb_tI (Int32.ofInt x), tb_tI, u]
    unfold tb_b8
    generalize (Int32.ofInt x).toBitVec.toNat = N at *
    split <;> split <;> omega
  · have u := pk_ushr (Int32.ofInt x) (Int32.ofInt 16) 16 (by decide)
    unfold tb_ushr
    rw [tb_shr_k 16 (by decide), tb_tI (Int32.ofInt x), tb_tI, u]
    unfold tb_b8
    generalize (Int32.ofInt x).toBitVec.toNat = N at *
    split <;> split <;> omega
  · have u := pk_ushr (Int32.ofInt x) (Int32.ofInt 8) 8 (by decide)
    unfold tb_ushr
    rw [tb_shr_k 8 (by decide), tb_tI (Int32.ofInt x), tb_tI, u]
    unfold tb_b8
    generalize (Int32.ofInt x).toBitVec.toNat = N at *
    split <;> split <;> omega
  · have u := pk_ushr (Int32.ofInt x) (Int32.ofInt 0) 0 (by decide)
    unfold tb_ushr
    rw [tb_shr_k 0 (by decide), tb_tI (Int32.ofInt x), tb_tI, u]
    unfold tb_b8
    generalize (Int32.ofInt x).toBitVec.toNat = N at *
    split <;> split <;> omega
def tc_by (x j : Int) : Int := tb_b8 (tb_b8 (tb_ushr x (24 - 8 * j)))
theorem sp2 {x : Int} (h0 : 0 ≤ A.1 1 2) (h1 : A.1 1 2 ≤ 896) (k : ∀ A', tb_fr [2] [(1, 2)] [] A A' → A'.1 1 2 = A.1 1 2 + 4 → (∀ j, 0 ≤ j → j < 4 → A'.1 2 (A.1 1 2 + j) = tc_by x j) → (∀ j, j < A.1 1 2 → A'.1 2 j = A.1 2 j) → Kv A') : tb_Cv X 2 [tb_r 1, tb_i x] A Kv := by
  refine q2 ?_
  have step : ∀ (B : tb_H) (s : Int), 0 ≤ s → s ≤ 24 → 0 ≤ B.1 1 2 → B.1 1 2 < 900 → tb_E X 2 3 [tb_r 1, tb_i x, tb_i (s - 8)] [] (tb_upI (tb_upI B 2 (B.1 1 2) (tb_b8 (tb_b8 (tb_ushr x s)))) 1 2 (B.1 1 2 + 1)) (tb_Rv 2 Kv) → tb_E X 2 3 [tb_r 1, tb_i x, tb_i s] [] B (tb_Rv 2 Kv) := by
    intro B s s0 s1 b0 b1 h
    refine q2_3 ⟨fun q => by omega, fun _ => ⟨fun q => by omega, fun _ => ⟨fun _ => ?_, fun q => by omega⟩⟩⟩
    rw [tb_w_id (x := s + -8) (by omega) (by omega), tb_w_id (x := B.1 1 2 + 1) (by omega) (by omega)]
    exact h
  refine step A 24 (by decide) (by decide) h0 (by omega) ?_
  refine step _ (24 - 8) (by decide) (by decide) (by rw [tb_uI_s]; omega) (by rw [tb_uI_s]; omega) ?_
  rw [tb_uI_s]
  refine step _ (24 - 8 - 8) (by decide) (by decide) (by rw [tb_uI_s]; omega) (by rw [tb_uI_s]; omega) ?_
  rw [tb_uI_s]
  refine step _ (24 - 8 - 8 - 8) (by decide) (by decide) (by rw [tb_uI_s]; omega) (by rw [tb_uI_s]; omega) ?_
  rw [tb_uI_s]
  refine q2_3 ⟨fun _ => ?_, fun q => absurd q (by decide)⟩
  refine k _ ?_ ?_ ?_ ?_
  · repeat refine tb_fr.upI ?_ rfl
    exact tb_fr.refl
  · rw [tb_uI_s]; omega
  · intro j j0 j1
    have : j = 0 ∨ j = 1 ∨ j = 2 ∨ j = 3 := by omega
    unfold tc_by
    rcases this with rfl | rfl | rfl | rfl
    · have a1 : ¬ (A.1 1 2 = A.1 1 2 + 1) := by omega
      have a2 : ¬ (A.1 1 2 = A.1 1 2 + 1 + 1) := by omega
      have a3 : ¬ (A.1 1 2 = A.1 1 2 + 1 + 1 + 1) := by omega
      simp [tb_uI1, a1, a2, a3]
    · have a2 : ¬ (A.1 1 2 + 1 = A.1 1 2 + 1 + 1) := by omega
      have a3 : ¬ (A.1 1 2 + 1 = A.1 1 2 + 1 + 1 + 1) := by omega
      simp [tb_uI1, a2, a3]
    · have e : A.1 1 2 + 2 = A.1 1 2 + 1 + 1 := by omega
      have a3 : ¬ (A.1 1 2 + 1 + 1 = A.1 1 2 + 1 + 1 + 1) := by omega
      rw [e]
      simp [tb_uI1, a3]
    · have e : A.1 1 2 + 3 = A.1 1 2 + 1 + 1 + 1 := by omega
      rw [e]
      simp [tb_uI1]
  · intro j hj
    have a0 : ¬ (j = A.1 1 2) := by omega
    have a1 : ¬ (j = A.1 1 2 + 1) := by omega
    have a2 : ¬ (j = A.1 1 2 + 1 + 1) := by omega
    have a3 : ¬ (j = A.1 1 2 + 1 + 1 + 1) := by omega
    simp [tb_uI1, a0, a1, a2, a3]
def tb_W5 (a b c d e k : Int) : Int := if 4 ≤ k then (if 8 ≤ k then (if 12 ≤ k then (if 16 ≤ k then e else d) else c) else b) else a
def tc_pd (A A' : tb_H) (a b c d e m : Int) : Prop := tb_fr [2] [(1, 2)] [] A A' ∧ A'.1 1 2 = A.1 1 2 + 4 * m ∧ (∀ j, 0 ≤ j → j < 4 * m → A'.1 2 (A.1 1 2 + j) = tc_by (tb_W5 a b c d e j) (j % 4)) ∧ ∀ j, j < A.1 1 2 → A'.1 2 j = A.1 2 j
theorem tc_pd.s {A' : tb_H} {a b c d e m x : Int} (h : tc_pd A A' a b c d e m) (hm : 0 ≤ m) (hm1 : m < 5) (h0 : 0 ≤ A.1 1 2) (h1 : A.1 1 2 ≤ 880) (hx : ∀ j, 4 * m ≤ j → j < 4 * m + 4 → tb_W5 a b c d e j = x) (k : ∀ A', tc_pd A A' a b c d e (m + 1) → Kv A') : tb_Cv X 2 [tb_r 1, tb_i x] A' Kv := by
  refine sp2 (by rw [h.2.1]; omega) (by rw [h.2.1]; omega) ?_
  intro B hf hl hn ho
  refine k B ⟨h.1.trans hf, by rw [hl, h.2.1]; omega, fun j j0 j1 => ?_, fun j hj => ?_⟩
  · by_cases q : j < 4 * m
    · rw [ho _ (by rw [h.2.1]; omega)]
      exact h.2.2.1 j j0 q
    · have e := hn (j - 4 * m) (by omega) (by omega)
      rw [h.2.1, show A.1 1 2 + 4 * m + (j - 4 * m) = A.1 1 2 + j by omega] at e
      rw [e, hx j (by omega) (by omega), show j % 4 = j - 4 * m by omega]
  · rw [ho _ (by rw [h.2.1]; omega)]
    exact h.2.2.2 j hj
theorem c0 (h : tb_Rel A) {a b c d e : Int} : tb_Ci X 0 [tb_r 0, tb_i a, tb_i b, tb_i c, tb_i d, tb_i e] A (tb_A2 X 199 [tb_r 77, tb_i a, tb_i b, tb_i c, tb_i d, tb_i e]) := by
  have hT := h.2.1
  have l := hT.1
  have lb := hT.2.1
  refine q0 (q1 ?_)
  rw [l, tb_w_id (x := A.1 77 2 + 20) (by omega) (by omega)]
  by_cases hl : A.1 77 2 + 20 ≤ 900
  · rw [if_neg (by omega)]
    refine ⟨fun _ => ?_, fun q => absurd q (by decide)⟩
    have z : tc_pd A A a b c d e 0 := ⟨tb_fr.refl, by omega, fun j a b => by omega, fun _ _ => rfl⟩
    refine z.s (by decide) (by decide) (by omega) (by omega) (fun j a b => by unfold tb_W5; rw [if_neg (by omega)]) ?_
    intro A1 h1
    refine h1.s (by decide) (by decide) (by omega) (by omega) (fun j a b => by unfold tb_W5; rw [if_pos (by omega), if_neg (by omega)]) ?_
    intro A2 h2
    refine h2.s (by decide) (by decide) (by omega) (by omega) (fun j a b => by unfold tb_W5; rw [if_pos (by omega), if_pos (by omega), if_neg (by omega)]) ?_
    intro A3 h3
    refine h3.s (by decide) (by decide) (by omega) (by omega) (fun j a b => by unfold tb_W5; rw [if_pos (by omega), if_pos (by omega), if_pos (by omega), if_neg (by omega)]) ?_
    intro A4 h4
    refine h4.s (by decide) (by decide) (by omega) (by omega) (fun j a b => by unfold tb_W5; rw [if_pos (by omega), if_pos (by omega), if_pos (by omega), if_pos (by omega)]) ?_
    intro A5 h5
    rw [e3]
    obtain ⟨hf, hlen, hnew, hold⟩ := h5
    have m2 : A5.1 77 2 = A.1 77 2 := hf.1 77 2 rfl rfl
    rw [hlen, l]
    refine q199 ⟨fun _ => ?_, fun q => by rw [m2, tb_w_id (by omega) (by omega)] at q; omega⟩
    have key := tb_lm (m := 0) (n := 20) (E := fun i => ∀ (B : tb_H) (j : tb_V), tb_fr [78] [(77, 0), (77, 2)] [] A5 B → B.1 77 2 = A.1 77 2 + i → (∀ k, 0 ≤ k → k < i → B.1 78 (A.1 77 2 + k) = tb_and (tb_shr (tb_W5 a b c d e k) (24 - 8 * (k % 4))) 255) → (∀ k, k < A.1 77 2 → B.1 78 k = A.1 78 k) → tb_E X 199 23 [tb_r 77, tb_i a, tb_i b, tb_i c, tb_i d, tb_i e, tb_i i, j] [] B (tb_Ri 199 (fun v' A2 => A.1 77 2 + 4 * (0 + 1 + 1 + 1 + 1 + 1) = v' ∧ tb_Rel A2))) ?_ ?_ 20 0 (by decide) (by decide)
    · refine key _ _ (tb_fr.upI tb_fr.refl rfl) ?_ (fun k a b => by omega) (fun k _ => ?_)
      · show A5.1 77 2 = _
        rw [m2]; omega
      · show A5.1 78 k = _
        exact hf.1 78 k rfl rfl
    · intro B j hB hb hk ho
      refine q199_23 ⟨fun _ => ⟨by rw [hb]; omega, ?_⟩, fun q => absurd q (by decide)⟩
      have hfr : tb_fr [2, 78] [(1, 2), (77, 0), (77, 2)] [] A B := (hf.mono rfl rfl rfl).trans (hB.mono rfl rfl rfl)
      have hq : tb_fr [2] [(1, 2)] [] A A5 := hf
      obtain ⟨r0, rT, rB, rL, rU, rI, rA, rG, rP⟩ := h
      refine ⟨?_, ?_, rB.fr hfr rfl, ?_, rU.fr rB hfr rfl, rI.fr hfr rfl, rA.fr hfr rfl, rG.fr hfr rfl, ?_⟩
      · unfold tb_R0 at r0 ⊢
        rw [hfr.1 0 9 rfl rfl, hfr.1 0 11 rfl rfl, hfr.1 0 12 rfl rfl, hfr.1 0 13 rfl rfl, hfr.1 77 9 rfl rfl, hfr.1 77 10 rfl rfl, hfr.1 77 11 rfl rfl, hfr.1 77 14 rfl rfl]
        exact r0
      · refine ⟨?_, by rw [hb]; omega, fun k k0 k1 => ?_⟩
        · rw [hb, hB.1 1 2 rfl rfl, hlen, l]; omega
        · have e2 : B.1 2 k = A5.1 2 k := hB.1 2 k rfl rfl
          rw [e2]
          rw [hb] at k1
          by_cases q : k < A.1 77 2
          · rw [ho k q, hold k (by rw [l]; exact q)]
            exact rT.2.2 k k0 q
          · have hn := hnew (k - A.1 1 2) (by rw [l]; omega) (by rw [l]; omega)
            rw [show A.1 1 2 + (k - A.1 1 2) = k by omega] at hn
            have hk' := hk (k - A.1 77 2) (by omega) (by omega)
            rw [show A.1 77 2 + (k - A.1 77 2) = k by omega] at hk'
            rw [hn, hk', l]
            unfold tc_by
            have f := tb_fd (x := tb_W5 a b c d e (k - A.1 77 2)) (s := 24 - 8 * ((k - A.1 77 2) % 4)) (by omega)
            exact ⟨f.2, f.1⟩
      · rw [hfr.1 77 14 rfl rfl]
        exact fun t => (rL t).fr hfr rfl
      · unfold tb_RP at rP ⊢
        rw [hfr.2.2 38 0 rfl, hfr.2.2 38 1 rfl, hfr.2.2 42 4 rfl, hfr.2.2 42 5 rfl]
        exact rP
    · intro i i0 i1 ih B j hB hb hk ho
      refine q199_23 ⟨fun q => by omega, fun _ => ⟨by rw [hb]; omega, ?_⟩⟩
      rw [tb_w_id (x := i + 1) (by omega) (by omega), Int.tmod_eq_emod_of_nonneg i0, tb_w_id (x := 8 * (i % 4)) (by omega) (by omega), tb_w_id (x := 24 - 8 * (i % 4)) (by omega) (by omega), hb, tb_w_id (x := A.1 77 2 + i + 1) (by omega) (by omega)]
      refine ih _ _ (tb_fr.upI (tb_fr.upI hB rfl) rfl) ?_ ?_ ?_
      · rw [tb_uI_s]; omega
      · intro k k0 k1
        by_cases q : k = i
        · rw [q, tb_uI_o (by decide), tb_uI_s]
          rfl
        · rw [tb_uI_o (by decide), tb_uI_k (by omega)]
          exact hk k k0 (by omega)
      · intro k hk'
        rw [tb_uI_o (by decide), tb_uI_k (by omega)]
        exact ho k hk'
  · rw [if_pos (by omega)]
    refine ⟨fun q => absurd rfl q, fun _ => ?_⟩
    refine q199 ⟨fun q => by rw [tb_w_id (by omega) (by omega)] at q; omega, fun _ => ⟨rfl, h.q0⟩⟩
theorem e91 {x y : Int} : tb_Ci X 91 [tb_i x, tb_i y] A K = K (if 0 ≤ x ∧ x ≤ 9 ∧ 0 ≤ y ∧ y ≤ 9 then 1 else 0 : Int) A := by
  refine tb_dei (q91 ⟨?_, rfl⟩)
  ((repeat' split) <;> omega)
theorem e162 : tb_Ci X 162 [tb_r 42] A K = K (if (A.1 42 2) < 6 then 0 else 1 : Int) A := tb_dei (q162 ⟨rfl, rfl⟩)
theorem e163 {x y : Int} (h0 : 0 ≤ A.1 42 2) (h1 : A.1 42 2 < 6) : tb_Cv X 163 [tb_r 42, tb_i x, tb_i y] A Kv = Kv (tb_upI (tb_upI (tb_upI A 43 (A.1 42 2) x) 44 (A.1 42 2) y) 42 2 (A.1 42 2 + 1)) := tb_dev (q163 ⟨fun h => by omega, fun _ => ⟨fun _ => by rw [tb_w_id (by omega) (by omega)], fun h => by omega⟩⟩)
theorem c161 (h : tb_Rel A) {d x y : Int} : tb_Ci X 161 [tb_r 0, tb_i d, tb_i x, tb_i y] A (tb_A2 X 301 [tb_r 77, tb_i d, tb_i x, tb_i y]) := by
  have hG := h.2.2.2.2.2.2.2.1
  refine q161 ?_
  rcases h.t01 with t | t
  · have r : tb_A2 X 301 [tb_r 77, tb_i d, tb_i x, tb_i y] (-1) (tb_upI A 0 13 1) := by
      refine q301 ?_
      rw [e201g]
      exact ⟨fun q => absurd (tb_g14.trans t) q, fun _ => tb_no h (by decide)⟩
    by_cases hd : 0 ≤ d ∧ d ≤ 20
    · rw [e5f hd]
      refine ⟨fun q => absurd rfl q, fun _ => ?_⟩
      rw [e91]
      exact ⟨fun q => absurd (h.told.trans t) q, fun _ => r6n (by decide) r⟩
    · rw [e5t hd]
      exact ⟨fun _ => ⟨fun q => absurd (h.told.trans t) q, fun _ => r6n (by decide) r⟩, fun q => absurd q (by decide)⟩
  · have t0 : A.1 77 14 ≠ 0 := by rw [t]; decide
    have t1 : A.1 0 9 ≠ 0 := by rw [h.told]; exact t0
    by_cases hd : 0 ≤ d ∧ d ≤ 20
    · rw [e5f hd]
      refine ⟨fun q => absurd rfl q, fun _ => ?_⟩
      rw [e91]
      refine ⟨fun _ => ?_, fun q => absurd q t1⟩
      by_cases hc : 0 ≤ x ∧ x ≤ 9 ∧ 0 ≤ y ∧ y ≤ 9
      · rw [if_pos hc, if_pos (by decide), e162]
        refine ⟨fun _ => ?_, fun q => absurd rfl q⟩
        have r : ∀ A1 : tb_H, A1.1 77 14 = A.1 77 14 → A1.1 77 27 = A.1 77 27 → (A.1 77 27 ≠ 6 → tb_Rel (tb_upI (tb_upI (tb_upI (tb_upI (tb_upI (tb_upI A1 77 0 0) 77 11 0) 87 (A.1 77 27) d) 88 (A.1 77 27) x) 89 (A.1 77 27) y) 77 27 (A.1 77 27 + 1))) → (A.1 77 27 = 6 → A1 = tb_upI A 0 13 3) → tb_A2 X 301 [tb_r 77, tb_i d, tb_i x, tb_i y] (if A.1 77 27 = 6 then -1 else A.1 77 27 + 1) A1 := by
          intro A1 a14 a27 g1 g2
          refine q301 ?_
          rw [e201]
          refine ⟨fun _ => ?_, fun q => absurd (a14.symm.trans q) t0⟩
          rw [e202t hd]
          refine ⟨fun q => absurd q (by decide), fun _ => ?_⟩
          rw [e250, if_pos hc]
          refine ⟨fun _ => ?_, fun q => absurd q (by decide)⟩
          have e27 : (tb_upI (tb_upI A1 77 0 0) 77 11 0).1 77 27 = A.1 77 27 := a27
          rw [e27]
          refine ⟨fun q => ⟨by have := hG.2.1; omega, by have := hG.2.1; omega, by have := hG.2.1; omega, ?_⟩, fun q => ?_⟩
          · rw [tb_w_id (by have := hG.2.1; omega) (by have := hG.2.1; omega), if_neg q]
            exact ⟨rfl, g1 q⟩
          · rw [if_pos q, g2 q]
            exact tb_no h (by decide)
        rw [hG.1]
        by_cases h6 : A.1 77 27 = 6
        · rw [if_neg (by omega)]
          refine r6n (by decide) ?_
          have r' := r (tb_upI A 0 13 3) rfl rfl (fun q => absurd h6 q) (fun _ => rfl)
          rw [if_pos h6] at r'
          exact r'
        · have h6' : A.1 77 27 < 6 := by have := hG.2.1; omega
          rw [if_pos h6', if_pos rfl]
          refine r6z ?_
          have k27 : (tb_upI A 0 13 0).1 42 2 = A.1 77 27 := hG.1
          rw [e52, e163 (by rw [k27]; exact hG.2.1.1) (by rw [k27]; exact h6'), e164, k27, tb_uI_s, tb_w_id (x := y * 10) (by omega) (by omega), tb_w_id (by omega) (by omega)]
          have r' := r (tb_upI (tb_upI (tb_upI (tb_upI A 0 13 0) 43 (A.1 77 27) d) 44 (A.1 77 27) (y * 10 + x)) 42 2 (A.1 77 27 + 1)) rfl rfl ?_ (fun q => absurd q h6)
          · rw [if_neg h6] at r'
            exact r'
          · intro _
            have hfr : tb_fr [43, 44, 87, 88, 89] [(0, 13), (42, 2), (77, 0), (77, 11), (77, 27)] [] A (tb_upI (tb_upI (tb_upI (tb_upI (tb_upI (tb_upI (tb_upI (tb_upI (tb_upI (tb_upI A 0 13 0) 43 (A.1 77 27) d) 44 (A.1 77 27) (y * 10 + x)) 42 2 (A.1 77 27 + 1)) 77 0 0) 77 11 0) 87 (A.1 77 27) d) 88 (A.1 77 27) x) 89 (A.1 77 27) y) 77 27 (A.1 77 27 + 1)) := by
              repeat refine tb_fr.upI ?_ rfl
              exact tb_fr.refl
            obtain ⟨r0, rT, rB, rL, rU, rI, rA, rG, rP⟩ := h
            refine ⟨r0.mk hfr rfl rfl (by show (0 : Int) ≠ 4; decide), rT.fr hfr rfl, rB.fr hfr rfl, fun t => (rL t).fr hfr rfl, tb_RU.t t0, rI.fr hfr rfl, rA.fr hfr rfl, ⟨rfl, ?_, fun i i0 i1 => ?_⟩, rP⟩
            · show 0 ≤ A.1 77 27 + 1 ∧ A.1 77 27 + 1 ≤ 6
              have := hG.2.1
              omega
            · have i1' : i < A.1 77 27 + 1 := i1
              by_cases e : i = A.1 77 27
              · rw [e]
                simp only [tb_uI1]
                simp
                omega
              · have g := hG.2.2 i i0 (by omega)
                simp only [tb_uI1]
                simp [e]
                simpa using g
      · rw [if_neg hc]
        refine ⟨fun q => absurd q (by decide), fun _ => r6n (by decide) ?_⟩
        refine q301 ?_
        rw [e201g]
        refine ⟨fun _ => ?_, fun q => absurd (tb_g14.symm.trans q) t0⟩
        rw [e202t hd]
        refine ⟨fun q => absurd q (by decide), fun _ => ?_⟩
        rw [e250, if_neg hc]
        exact ⟨fun q => absurd rfl q, fun _ => tb_no h (by decide)⟩
    · rw [e5t hd]
      refine ⟨fun _ => ⟨fun _ => r6n (by decide) ?_, fun q => absurd q t1⟩, fun q => absurd q (by decide)⟩
      refine q301 ?_
      rw [e201g]
      refine ⟨fun _ => ?_, fun q => absurd (tb_g14.symm.trans q) t0⟩
      rw [e202f hd]
      exact ⟨fun _ => tb_no h (by decide), fun q => absurd rfl q⟩
end TBFEED
