/-! more questions: judge, lost, size -/
section TBASK2
variable {X : tb_X} {A : tb_H} {K : Int → tb_H → Prop} {Kv : tb_H → Prop}
/-- the first scute that bears too much, from i on; n rows left -/
def tb_jdg (r s : Int → Int) : Nat → Int → Int
  | 0, _ => -2
  | n + 1, i => if r (25 + i) < tb_load r s (fun f => s (31 + f)) i then i else tb_jdg r s n (i + 1)
theorem tb_lq {E : Int → Prop} {n : Int} (he : E n) (hs : ∀ i, 0 ≤ i → i < n → E (i + 1) → E i) : ∀ (k : Nat) (i : Int), 0 ≤ i → i + k = n → E i := by
  intro k
  induction k with
  | zero =>
    intro i h0 h1
    have : i = n := by omega
    rw [this]; exact he
  | succ k ih =>
    intro i h0 h1
    exact hs i h0 (by omega) (ih (i + 1) (by omega) (by omega))
theorem l115 (L : tb_L A) : ∀ (k : Nat) (i : Int), 0 ≤ i → i + k = A.1 80 112 → K (tb_jdg (A.1 80) (A.1 82) k i) A → tb_E X 115 23 [tb_r 0, tb_i i] [] A (tb_Ri 115 K) := by
  have c := L.c112
  intro k
  induction k with
  | zero =>
    intro i h0 h1 hk
    refine q115_23 ⟨L.b, ?_⟩
    rw [e28_2 L]
    exact ⟨fun _ => hk, fun h => by omega⟩
  | succ k ih =>
    intro i h0 h1 hk
    refine q115_23 ⟨L.b, ?_⟩
    rw [e28_2 L]
    refine ⟨fun h => by omega, fun h => ?_⟩
    rw [e112 L]
    refine ⟨L.b, ?_⟩
    rw [e41_22 L h0 h]
    unfold tb_jdg at hk
    refine ⟨fun q => ?_, fun q => ?_⟩
    · rw [if_neg (by omega)] at hk
      rw [tb_w_id (by omega) (by omega)]
      exact ih (i + 1) (by omega) (by omega) hk
    · rw [if_pos q] at hk
      exact hk
theorem l270 (L : tc_M A) : ∀ (k : Nat) (i : Int), 0 ≤ i → i + k = A.1 80 112 → K (tb_jdg (A.1 80) (A.1 82) k i) A → tb_E X 270 19 [tb_r 77, tb_i i] [] A (tb_Ri 270 K) := by
  have c := L.c112
  intro k
  induction k with
  | zero =>
    intro i h0 h1 hk
    exact q270_19 ⟨fun _ => hk, fun h => by omega⟩
  | succ k ih =>
    intro i h0 h1 hk
    refine q270_19 ⟨fun h => by omega, fun h => ?_⟩
    rw [e267 L, tb_w_id (x := 25 + i) (by omega) (by omega)]
    unfold tb_jdg at hk
    refine ⟨by omega, fun q => ?_, fun q => ?_⟩
    · rw [if_neg (by omega)] at hk
      rw [tb_w_id (by omega) (by omega)]
      exact ih (i + 1) (by omega) (by omega) hk
    · rw [if_pos q] at hk
      exact hk
theorem c115 (h : tb_Rel A) : tb_Ci X 115 [tb_r 0] A (tb_A2 X 270 [tb_r 77]) := by
  refine q115 ?_
  rw [h.told, e6]
  rcases h.t01 with t | t
  · rw [show (if A.1 77 14 ≠ 0 then (0 : Int) else 1) = 1 by rw [t]; rfl]
    refine ⟨fun q => absurd q (by decide), fun _ => ?_⟩
    refine q270 ?_
    rw [e201g]
    exact ⟨fun q => absurd (tb_g14.trans t) q, fun _ => tb_no h (by decide)⟩
  · have L := h.L (by rw [t]; decide)
    have c := L.c112
    rw [show (if A.1 77 14 ≠ 0 then (0 : Int) else 1) = 0 by rw [t]; rfl]
    refine ⟨fun _ => ?_, fun q => absurd rfl q⟩
    refine l115 (tb_Lu L) (A.1 80 112).toNat 0 (by decide) (by rw [tb_u80]; omega) ?_
    refine q270 ?_
    rw [e201g]
    refine ⟨fun _ => ?_, fun q => absurd (tb_g14.symm.trans q) (by rw [t]; decide)⟩
    refine l270 (tb_gL L).M (A.1 80 112).toNat 0 (by decide) (by rw [tb_g80]; omega) ?_
    rw [tb_g80, tb_g82, tb_u80, tb_u82]
    exact ⟨rfl, h.g0⟩
def tb_lst (r s : Int → Int) (h : Int) : Int := if s (15 + h) = 1 then r (51 + h) else 0
theorem tc_M.lsB (L : tc_M A) {n : Int} (h0 : 0 ≤ n) (h1 : n ≤ A.1 80 113) : 0 ≤ tb_sum (tb_lst (A.1 80) (A.1 82)) n ∧ tb_sum (tb_lst (A.1 80) (A.1 82)) n ≤ 594 := by
  have := L.c113
  have := tb_sum_bd (f := tb_lst (A.1 80) (A.1 82)) (N := 6) (c := 99) h0 (by omega) (by decide) (fun i a b => by
    have := L.v51 a (show i < A.1 80 113 by omega)
    unfold tb_lst
    split <;> omega)
  omega
def tb_L.lsB (L : tb_L A) := @tc_M.lsB A L.M
theorem l116 (L : tb_L A) (hk : K (tb_sum (tb_lst (A.1 80) (A.1 82)) (A.1 80 113)) A) : tb_E X 116 25 [tb_r 0, tb_i (tb_sum (tb_lst (A.1 80) (A.1 82)) 0), tb_i 0] [] A (tb_Ri 116 K) := by
  have c := L.c113
  refine tb_lp (E := fun i => tb_E X 116 25 [tb_r 0, tb_i (tb_sum (tb_lst (A.1 80) (A.1 82)) i), tb_i i] [] A (tb_Ri 116 K)) c.1 ?_ ?_
  · refine q116_25 ⟨L.b, ?_⟩
    rw [e28_3 L]
    exact ⟨fun _ => hk, fun h => by omega⟩
  · intro i h0 h1 ih
    have b := L.lsB h0 (show i ≤ A.1 80 113 by omega)
    have v := L.v51 h0 h1
    rw [tb_sum_s h0] at ih
    refine q116_25 ⟨L.b, ?_⟩
    rw [e28_3 L]
    refine ⟨fun h => by omega, fun h => ?_⟩
    rw [e65 L h0 (by omega), tb_w_id (x := i + 1) (by omega) (by omega)]
    unfold tb_lst at ih
    refine ⟨fun q => ?_, fun q => ⟨L.b, ?_⟩⟩
    · rw [if_neg q, Int.add_zero] at ih
      exact ih
    · rw [if_pos q] at ih
      rw [e41_33 L h0 h1, tb_w_id (by omega) (by omega)]
      exact ih
theorem l271 (L : tc_M A) (hk : K (tb_sum (tb_lst (A.1 80) (A.1 82)) (A.1 80 113)) A) : tb_E X 271 21 [tb_r 77, tb_i (tb_sum (tb_lst (A.1 80) (A.1 82)) 0), tb_i 0] [] A (tb_Ri 271 K) := by
  have c := L.c113
  refine tb_lp (E := fun i => tb_E X 271 21 [tb_r 77, tb_i (tb_sum (tb_lst (A.1 80) (A.1 82)) i), tb_i i] [] A (tb_Ri 271 K)) c.1 ?_ ?_
  · exact q271_21 ⟨fun _ => hk, fun h => by omega⟩
  · intro i h0 h1 ih
    have b := L.lsB h0 (show i ≤ A.1 80 113 by omega)
    have v := L.v51 h0 h1
    rw [tb_sum_s h0] at ih
    refine q271_21 ⟨fun h => by omega, fun h => ?_⟩
    rw [tb_w_id (x := i + 1) (by omega) (by omega), tb_w_id (x := 15 + i) (by omega) (by omega), tb_w_id (x := 51 + i) (by omega) (by omega)]
    unfold tb_lst at ih
    refine ⟨by omega, fun q => ?_, fun q => ⟨by omega, ?_⟩⟩
    · rw [if_neg q, Int.add_zero] at ih
      rw [Int.add_zero, tb_w_id (by omega) (by omega)]
      exact ih
    · rw [if_pos q] at ih
      rw [tb_w_id (by omega) (by omega)]
      exact ih
theorem c116 (h : tb_Rel A) : tb_Ci X 116 [tb_r 0] A (tb_A2 X 271 [tb_r 77]) := by
  refine q116 ?_
  rw [h.told, e6]
  rcases h.t01 with t | t
  · rw [show (if A.1 77 14 ≠ 0 then (0 : Int) else 1) = 1 by rw [t]; rfl]
    refine ⟨fun q => absurd q (by decide), fun _ => ?_⟩
    refine q271 ?_
    rw [e201g]
    exact ⟨fun q => absurd (tb_g14.trans t) q, fun _ => tb_no h (by decide)⟩
  · have L := h.L (by rw [t]; decide)
    rw [show (if A.1 77 14 ≠ 0 then (0 : Int) else 1) = 0 by rw [t]; rfl]
    refine ⟨fun _ => ?_, fun q => absurd rfl q⟩
    refine l116 (tb_Lu L) ?_
    refine q271 ?_
    rw [e201g]
    refine ⟨fun _ => ?_, fun q => absurd (tb_g14.symm.trans q) (by rw [t]; decide)⟩
    refine l271 (tb_gL L).M ?_
    rw [tb_g80, tb_g82, tb_u80, tb_u82]
    exact ⟨rfl, h.g0⟩
theorem c194 (h : tb_Rel A) {x : Int} : tb_Ci X 194 [tb_r 0, tb_i x] A (tb_A2 X 321 [tb_r 77, tb_i x]) := by
  have hB : tb_isB (A.2.2 4 1) := by rcases h.2.2.1 with hb | hb <;> rw [hb.1]; exact tb_isB11; exact tb_isB48
  have hT := h.2.1
  have hI := h.2.2.2.2.2.1
  have hA := h.2.2.2.2.2.2.1
  have hG := h.2.2.2.2.2.2.2.1
  -- the reference's answer
  have g9 : x = 9 → tb_A2 X 321 [tb_r 77, tb_i x] (A.1 77 2) A := fun e => q321 ⟨fun q => absurd e q, fun _ => ⟨rfl, h.q0⟩⟩
  rcases h.t01 with t | t
  · have u := h.2.2.2.2.1 t
    have g0 : x ≠ 9 → 0 ≤ x ∧ x ≤ 12 → tb_A2 X 321 [tb_r 77, tb_i x] 0 A := by
      intro e b
      refine q321 ⟨fun _ => ⟨fun q => absurd t q, fun _ => ?_⟩, fun q => absurd q e⟩
      rw [e202t b, if_neg (by decide)]
      exact ⟨rfl, h.q0⟩
    have g1 : ¬ (0 ≤ x ∧ x ≤ 12) → tb_A2 X 321 [tb_r 77, tb_i x] (-1) A := by
      intro b
      refine q321 ⟨fun _ => ⟨fun q => absurd t q, fun _ => ?_⟩, fun q => absurd (by omega) b⟩
      rw [e202f b, if_pos rfl]
      exact ⟨rfl, h.q0⟩
    refine q194 ⟨fun b => ⟨fun e => by omega, fun e => by omega, fun e => by omega, fun e => by omega, fun e => by omega, fun e => by omega, fun _ => g1 (by omega)⟩, fun b => ⟨fun c => ⟨fun e => ?_, fun e => ?_, fun e => ?_, fun e => ?_, fun e => ?_, fun e => ?_, fun e => g1 (by omega)⟩, fun c => ⟨hB, ?_⟩⟩⟩
    · rw [u.2.1]; exact g0 (by omega) (by omega)
    · rw [u.2.2.1]; exact g0 (by omega) (by omega)
    · rw [e3, hT.1]; exact g9 e
    · rw [e164, hG.1, u.2.2.2.2.2]; exact g0 (by omega) (by omega)
    · rw [hI.1, u.2.2.2.1]; exact g0 (by omega) (by omega)
    · rw [e125, hA.1, u.2.2.2.2.1]; exact g0 (by omega) (by omega)
    · rw [tb_w_id (by omega) (by omega), e28g hB (by omega) (by omega), u.1 _ (by omega) (by omega)]
      exact g0 (by omega) (by omega)
  · have t0 : A.1 77 14 ≠ 0 := by rw [t]; decide
    have L := h.L t0
    have s := L.sc0
    have g1 : ¬ (0 ≤ x ∧ x ≤ 12) → tb_A2 X 321 [tb_r 77, tb_i x] (-1) A := fun b => q321 ⟨fun _ => ⟨fun _ => ⟨fun e => by omega, fun e => by omega, fun e => by omega, fun e => by omega, fun e => by omega, fun e => by omega, fun e => by omega, fun e => by omega, fun e => by omega, fun e => by omega, fun e => by omega, fun e => by omega, fun e => by omega, fun _ => ⟨rfl, h.q0⟩⟩, fun q => absurd q t0⟩, fun q => absurd (by omega) b⟩
    have g : ∀ v, (x = 0 → v = A.1 80 112) → (x = 1 → v = A.1 80 113) → (x = 2 → v = A.1 80 114) → (x = 3 → v = A.1 80 115) → (x = 4 → v = A.1 80 116) → (x = 5 → v = A.1 80 117) → (x = 6 → v = A.1 80 118) → (x = 7 → v = A.1 82 9) → (x = 8 → v = A.1 82 10) → (x = 10 → v = A.1 77 27) → (x = 11 → v = A.1 77 19) → (x = 12 → v = A.1 77 23) → 0 ≤ x ∧ x ≤ 12 → x ≠ 9 → tb_A2 X 321 [tb_r 77, tb_i x] v A := fun v v0 v1 v2 v3 v4 v5 v6 v7 v8 v10 v11 v12 b n => q321 ⟨fun _ => ⟨fun _ => ⟨fun e => ⟨v0 e, h.q0⟩, fun e => ⟨v1 e, h.q0⟩, fun e => ⟨v2 e, h.q0⟩, fun e => ⟨v3 e, h.q0⟩, fun e => ⟨v4 e, h.q0⟩, fun e => ⟨v5 e, h.q0⟩, fun e => ⟨v6 e, h.q0⟩, fun e => ⟨v7 e, h.q0⟩, fun e => ⟨v8 e, h.q0⟩, fun e => absurd e n, fun e => ⟨v10 e, h.q0⟩, fun e => ⟨v11 e, h.q0⟩, fun e => ⟨v12 e, h.q0⟩, fun e => by omega⟩, fun q => absurd q t0⟩, fun q => absurd q n⟩
    refine q194 ⟨fun b => ⟨fun e => by omega, fun e => by omega, fun e => by omega, fun e => by omega, fun e => by omega, fun e => by omega, fun _ => g1 (by omega)⟩, fun b => ⟨fun c => ⟨fun e => ?_, fun e => ?_, fun e => ?_, fun e => ?_, fun e => ?_, fun e => ?_, fun e => g1 (by omega)⟩, fun c => ⟨hB, ?_⟩⟩⟩
    · rw [s.1]; apply g <;> omega
    · rw [s.2.1]; apply g <;> omega
    · rw [e3, hT.1]; exact g9 e
    · rw [e164, hG.1]; apply g <;> omega
    · rw [hI.1]; apply g <;> omega
    · rw [e125, hA.1]; apply g <;> omega
    · rw [tb_w_id (by omega) (by omega), e28 L (by omega) (by omega)]
      apply g
      all_goals first
        | omega
        | (intro e
           rw [e]
           rfl)
end TBASK2
