/-! led, small machine: what it answers -/
set_option maxRecDepth 8000 in
theorem tf_q196 {X : tb_X} {A : tb_H} {x1 : Int} {Q : tb_Q} (h : ((A.1 0 9) = 0 → tb_E X 196 25 [tb_r 0, tb_i x1, tb_i (-1)] [] A (Q)) ∧ ((A.1 0 9) ≠ 0 → tb_Ci X 197 [tb_r 4, tb_i x1] A (fun v580 A579 => (v580 ≠ (-1) → Q 34 [tb_r 0, tb_i x1, tb_i v580] [tb_i v580] A579) ∧ (v580 = (-1) → tb_E X 196 25 [tb_r 0, tb_i x1, tb_i v580] [] A579 (Q))))) : tb_E X 196 0 [tb_r 0, tb_i x1, tb_s 1] [] A Q :=
  tb_r3 at_196_0 rfl rfl <| tb_r18 (v := tb_i (A.1 0 9)) at_196_1 (gf_0_9 _) <| tb_r14 at_196_4 (fun c576 => have p574 := tb_q0 c576; tb_r1 at_196_18 <| tb_r4 (lv' := [tb_r 0, tb_i x1, tb_i (-1)]) at_196_19 rfl rfl <| tb_r3 at_196_20 rfl rfl <| tb_r1 at_196_21 <| tb_r15 at_196_22 (fun c578 => absurd (tb_q1 c578) (by decide)) (fun _ => (h.1 p574))) (fun c577 => have p575 := tb_q0f c577; tb_r3 at_196_7 rfl rfl <| tb_r18 (v := tb_r 4) at_196_8 (gf_0_1 _) <| tb_r3 at_196_11 rfl rfl <| tb_rci (rest := []) at_196_12 (Or.inl rfl) (Nat.le_of_ble_eq_true rfl) rfl (Nat.le_of_ble_eq_true rfl) rfl mx_197 (Nat.le_of_ble_eq_true rfl) (fun _ => ⟨by decide, tb_rcv_of rfl kd_4 rfl⟩) (((h.2 p575)).imp (fun v580 A579 h581 => tb_r13 at_196_15 <| tb_r4 (lv' := [tb_r 0, tb_i x1, tb_i v580]) at_196_19 rfl rfl <| tb_r3 at_196_20 rfl rfl <| tb_r1 at_196_21 <| tb_r15 at_196_22 (fun c584 => have p582 := tb_q1 c584; tb_r3 at_196_33 rfl rfl <| tb_ev_stop at_196_34 rfl rfl (h581.1 p582)) (fun c585 => have p583 := tb_q1f c585; (h581.2 p583)))))
section TFL
variable {X : tb_X} {A : tb_H} {x4 : Int} {v5 v6 : tb_V} {Q : tb_Q} {K : Int → tb_H → Prop}
def tf_lf (g : Int → Int) (N x : Int) : Nat → Int → Int → Int
  | 0, _, _ => -1
  | n + 1, x2, x3 => if N ≤ x3 then -1 else if g x3 = 1 then (if x2 = x then x3 else tf_lf g N x n (x2 + 1) (x3 + 1)) else tf_lf g N x n x2 (x3 + 1)
def tf_g (A : tb_H) (k : Int) : Int := A.1 82 (15 + k)
def tf_lr (A : tb_H) (x : Int) : Int := if A.1 77 14 = 0 then -1 else tf_lf (tf_g A) (A.1 80 113) x 7 0 0
theorem tf_197 (L : tb_L A) {x : Int} : ∀ (n : Nat) (x2 x3 : Int), 0 ≤ x2 → x2 ≤ x3 → x3 ≤ A.1 80 113 → A.1 80 113 < x3 + n → K (tf_lf (tf_g A) (A.1 80 113) x n x2 x3) A → tb_E X 197 4 [tb_r 4, tb_i x, tb_i x2, tb_i x3] [] A (tb_Ri 197 K)
  | 0, x2, x3, _, _, h3, h4, _ => absurd h4 (by omega)
  | n + 1, x2, x3, h1, h2, h3, h4, k => by
    have hc := L.c113
    refine q197_4 ⟨L.b, ?_⟩
    rw [e28 L (by decide) (by decide), show (110 + 3 : Int) = 113 from rfl]
    rw [tf_lf] at k
    refine ⟨fun q => ?_, fun q => ?_⟩
    · rw [if_pos q] at k; exact k
    · rw [if_neg (by omega)] at k
      rw [e65 L (by omega) (by omega)]
      have w2 : tb_w (x2 + 1) = x2 + 1 := tb_w_id (by omega) (by omega)
      have w3 : tb_w (x3 + 1) = x3 + 1 := tb_w_id (by omega) (by omega)
      rw [w2, w3]
      refine ⟨fun c => ?_, fun c => ?_⟩
      · rw [if_pos (show tf_g A x3 = 1 from c)] at k
        refine ⟨fun d => ?_, fun d => ?_⟩
        · rw [if_neg d] at k
          exact tf_197 L n (x2 + 1) (x3 + 1) (by omega) (by omega) (by omega) (by omega) k
        · rw [if_pos d] at k; exact k
      · rw [if_neg (show ¬ tf_g A x3 = 1 from c)] at k
        exact tf_197 L n x2 (x3 + 1) (by omega) (by omega) (by omega) (by omega) k
theorem tf_196 (h : tb_Rel A) {x : Int} (h1 : tf_lr A x ≠ -1 → Q 34 [tb_r 0, tb_i x, tb_i (tf_lr A x)] [tb_i (tf_lr A x)] A) (h2 : tf_lr A x = -1 → Q 25 [tb_r 0, tb_i x, tb_i (-1)] [] A) : tb_E X 196 0 [tb_r 0, tb_i x, tb_s 1] [] A Q := by
  refine tf_q196 ?_
  rw [h.told]
  refine ⟨fun t => tb_rx at_196_25 rfl (h2 (by unfold tf_lr; rw [if_pos t])), fun t => ?_⟩
  have L := h.L t
  have hc := L.c113
  have e : tf_lr A x = tf_lf (tf_g A) (A.1 80 113) x 7 0 0 := by unfold tf_lr; rw [if_neg t]
  rw [e] at h1 h2
  refine q197 (tf_197 L 7 0 0 (by omega) (by omega) (by omega) (by omega) ?_)
  refine ⟨fun q => h1 q, fun q => ?_⟩
  rw [q] at h2 ⊢
  exact tb_rx at_196_25 rfl (h2 rfl)
theorem tf_320l (L : tb_L A) (t : A.1 77 14 ≠ 0) {x : Int} : ∀ (n : Nat) (x2 x3 : Int), 0 ≤ x2 → x2 ≤ x3 → x3 ≤ A.1 80 113 → A.1 80 113 < x3 + n → (tf_lf (tf_g A) (A.1 80 113) x n x2 x3 = -1 → K 0 (tb_upI A 77 0 1)) → (tf_lf (tf_g A) (A.1 80 113) x n x2 x3 ≠ -1 → K (tf_lf (tf_g A) (A.1 80 113) x n x2 x3) (tb_upI A 77 0 0)) → tb_E X 320 4 [tb_r 77, tb_i x, tb_i x2, tb_i x3] [] A (tb_Ri 320 K)
  | 0, x2, x3, _, _, h3, h4, _, _ => absurd h4 (by omega)
  | n + 1, x2, x3, h1, h2, h3, h4, k1, k2 => by
    have hc := L.c113
    have w2 : tb_w (x2 + 1) = x2 + 1 := tb_w_id (by omega) (by omega)
    have w3 : tb_w (x3 + 1) = x3 + 1 := tb_w_id (by omega) (by omega)
    have w5 : tb_w (15 + x3) = 15 + x3 := tb_w_id (by omega) (by omega)
    refine q320_4 ?_
    rw [w2, w3, w5]
    rw [tf_lf] at k1 k2
    refine ⟨fun q => absurd q t, fun _ => ⟨fun q => ?_, fun q => ⟨⟨by omega, by omega⟩, fun c => ?_, fun c => ?_⟩⟩⟩
    · rw [if_pos q] at k1; exact k1 rfl
    · rw [if_neg (by omega), if_pos (show tf_g A x3 = 1 from c)] at k1 k2
      refine ⟨fun d => ?_, fun d => ?_⟩
      · rw [if_neg d] at k1 k2
        exact tf_320l L t n (x2 + 1) (x3 + 1) (by omega) (by omega) (by omega) (by omega) k1 k2
      · rw [if_pos d] at k2; exact k2 (by omega)
    · rw [if_neg (by omega), if_neg (show ¬ tf_g A x3 = 1 from c)] at k1 k2
      exact tf_320l L t n x2 (x3 + 1) (by omega) (by omega) (by omega) (by omega) k1 k2
theorem tf_320 (h : tb_Rel A) {x : Int} (k1 : tf_lr A x = -1 → K 0 (tb_upI A 77 0 1)) (k2 : tf_lr A x ≠ -1 → K (tf_lr A x) (tb_upI A 77 0 0)) : tb_Ci X 320 [tb_r 77, tb_i x] A K := by
  refine q320 ?_
  by_cases t : A.1 77 14 = 0
  · refine q320_4 ⟨fun _ => k1 (by unfold tf_lr; rw [if_pos t]), fun q => absurd t q⟩
  · have L := h.L t
    have hc := L.c113
    have e : tf_lr A x = tf_lf (tf_g A) (A.1 80 113) x 7 0 0 := by unfold tf_lr; rw [if_neg t]
    rw [e] at k1 k2
    exact tf_320l L t 7 0 0 (by omega) (by omega) (by omega) (by omega) k1 k2
theorem tf_relL (h : tb_Rel A) {v : Int} : tb_Rel (tb_upL A 101 0 v) := by
  obtain ⟨h0, hT, hB, hL, hU, hI, hA, hG, hP⟩ := h
  have hf : tb_fq A (tb_upL A 101 0 v) := tb_fr.upL tb_fr.refl rfl
  exact ⟨h0, hT, hB, fun t => (hL t).fr hf rfl, hU.fr hB hf rfl, hI.fr hf rfl, hA, hG, hP⟩
/-- behind the law's own led -/
theorem tf_back (h : tb_Rel A) (b0 : 0 ≤ x4) (b6 : x4 + 6 ≤ (X.2 : Int)) (bX : X.2 ≤ 3072) (hq : ∀ A2 k v, tb_Rel A2 → Q 1389 [tb_r 183, tb_r 0, tb_r 77, tb_r 101, tb_i x4, tb_i k, tb_i v] [] A2) :
    tb_E X 323 1306 [tb_r 183, tb_r 0, tb_r 77, tb_r 101, tb_i x4, v5, v6] [tb_i (if tf_lr A (X.1 (x4 + 1)) = -1 then 1 else 0)] (if tf_lr A (X.1 (x4 + 1)) = -1 then A else tb_upL A 101 0 (tf_lr A (X.1 (x4 + 1)))) Q := by
  have w1 : tb_w (x4 + 1) = x4 + 1 := tb_w_id (by omega) (by omega)
  by_cases c : tf_lr A (X.1 (x4 + 1)) = -1
  · rw [if_pos c, if_pos c]
    refine q323_1306 ?_
    rw [w1]
    refine ⟨⟨by omega, by omega⟩, tf_320 h (fun _ => ?_) (fun d => absurd c d)⟩
    refine q198 ?_
    exact ⟨fun _ => ⟨fun _ => tb_rx at_323_1389 rfl (hq _ 1 0 h.q1), fun d => absurd d (by decide)⟩, fun d => absurd tb_uI_s d⟩
  · rw [if_neg c, if_neg c]
    refine q323_1306 ?_
    rw [w1]
    have hR := tf_relL h (v := tf_lr A (X.1 (x4 + 1)))
    refine ⟨⟨by omega, by omega⟩, tf_320 hR (fun d => absurd d c) (fun _ => ?_)⟩
    refine q198 ?_
    refine ⟨fun _ => ⟨fun d => absurd rfl d, fun _ => ⟨fun _ => tb_rx at_323_1389 rfl (hq _ 0 _ hR.q0), fun d => absurd (tf_lc ?_) d⟩⟩, fun d => absurd tb_uI_s d⟩
    exact tb_uL_s
end TFL
