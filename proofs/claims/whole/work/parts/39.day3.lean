/-! A DAY: claims; the whole of passDay -/
section TBDAY3
variable {X : tb_X} {A : tb_H} {σ : Int → Int} {K : Int → tb_H → Prop} {Kv : tb_H → Prop}
/-- the class's row of cells, up to day n -/
def td_lg (A : tb_H) (s : Int → Int) (n : Int) : Prop := ∀ t, 0 ≤ t → t ≤ n → A.1 10 t = s (51 + 2 * t + 1) * 10 + s (51 + 2 * t) ∧ (0 ≤ s (51 + 2 * t) ∧ s (51 + 2 * t) ≤ 9) ∧ (0 ≤ s (51 + 2 * t + 1) ∧ s (51 + 2 * t + 1) ≤ 9)
/-- how many days an isle was near, up to day n -/
def td_nr (r s : Int → Int) (l n : Int) : Prop := (0 ≤ s (11 + l) ∧ s (11 + l) ≤ n) ∧ (∀ t, n - s (11 + l) < t → t ≤ n → tb_nr r s l t) ∧ (s (11 + l) < n → ¬ tb_nr r s l (n - s (11 + l)))
theorem td_dN_k {r s : Int → Int} {l k : Int} (h1 : k ≠ 11 + l) (h2 : k ≠ 7) : td_dN r l s k = s k := by
  unfold td_dN
  rw [td_set_n h2, td_set_n h1]
theorem td_dN_l {r s : Int → Int} {l : Int} (l0 : 0 ≤ l) : td_dN r l s (11 + l) = td_nn r s l := by
  unfold td_dN
  rw [td_set_n (by omega), td_set_s]
theorem td_nrs_k {r s : Int → Int} {k : Int} (h1 : ¬ (11 ≤ k ∧ k < 15)) (h2 : k ≠ 7) (c7 : r 117 ≤ 4) : td_nrs r s k = s k := td_it_k (N := 4) (fun i s i0 i1 => td_dN_k (by omega) h2) _ (by omega)
theorem td_it_dN_k {r s : Int → Int} {k : Int} {n : Nat} (h1 : k < 11 ∨ 11 + n ≤ k) (h2 : k ≠ 7) : td_it (td_dN r) n s k = s k := td_it_k (N := n) (fun i s i0 i1 => td_dN_k (by omega) h2) _ (Nat.le_refl _)
/-- three near days, told by the count -/
theorem td_three {r s : Int → Int} {l T : Int} (h : td_nr r s l (T - 1)) (hT : 3 ≤ T) (hx : s (51 + 2 * T) = s 0) (hy : s (51 + 2 * T + 1) = s 1) : td_nn r s l < 3 ↔ ¬ (tb_nr r s l (T - 2) ∧ tb_nr r s l (T - 1) ∧ tb_nr r s l T) := by
  have e : tb_nr r s l T ↔ tb_far (s 0) (s 1) (r (81 + l)) (r (85 + l)) ≤ 2 := by
    unfold tb_nr
    rw [hx, hy]
  unfold td_nn
  rw [e]
  obtain ⟨h1, h2, h3⟩ := h
  constructor
  · rintro q ⟨a, b, c⟩
    rw [if_pos c] at q
    have : s (11 + l) = 0 ∨ s (11 + l) = 1 := by omega
    rcases this with u | u
    · refine h3 (by omega) ?_
      rw [u, Int.sub_zero]
      exact b
    · refine h3 (by omega) ?_
      rw [u, show T - 1 - 1 = T - 2 by omega]
      exact a
  · intro q
    by_cases c : tb_far (s 0) (s 1) (r (81 + l)) (r (85 + l)) ≤ 2
    · rw [if_pos c]
      by_cases u : s (11 + l) + 1 < 3
      · exact u
      · exact absurd ⟨h2 (T - 2) (by omega) (by omega), h2 (T - 1) (by omega) (by omega), c⟩ q
    · rw [if_neg c]
      decide
theorem sp103 (L : tc_G A σ) (hl : td_lg A σ (σ 9)) (h9 : 1 ≤ σ 9) (hx : σ (51 + 2 * σ 9) = σ 0) (hy : σ (51 + 2 * σ 9 + 1) = σ 1) (hn : ∀ l, 0 ≤ l → l < A.1 80 117 → td_nr (A.1 80) σ l (σ 9 - 1)) (k : ∀ A', tb_fr [] [(5, 8)] [] A A' → tc_G A' (td_nrs (A.1 80) σ) → Kv A') : tb_Cv X 103 [tb_r 4] A Kv := by
  have c7 := L.c117
  have z := L.s0
  have sc := L.sc0
  refine q103 ?_
  rw [sc.1]
  refine ⟨fun h3 => ?_, fun h3 => ?_⟩
  · have key := tb_lp (n := A.1 80 117) (E := fun i => ∀ (A2 : tb_H) (j1 j2 j3 : tb_V), tb_fr [] [(5, 8)] [] A A2 → tc_G A2 (td_it (td_dN (A.1 80)) i.toNat σ) → tb_E X 103 14 [tb_r 4, tb_i i, j1, j2, j3] [] A2 (tb_Rv 103 Kv)) c7.1 ?_ ?_
    · exact key A _ _ _ tb_fr.refl L
    · intro A2 _ _ _ f2 G2
      have e80 : A2.1 80 = A.1 80 := funext (fun k => f2.1 80 k rfl rfl)
      refine q103_14 ⟨G2.b, ?_⟩
      rw [g28_7 G2, e80]
      exact ⟨fun _ => k A2 f2 G2, fun q => by omega⟩
    · intro i i0 i1 ih A2 _ _ _ f2 G2
      have e80 : A2.1 80 = A.1 80 := funext (fun k => f2.1 80 k rfl rfl)
      have i1' : i < A2.1 80 117 := by rw [e80]; exact i1
      have sk : ∀ k, (k < 11 ∨ 11 + i ≤ k) → k ≠ 7 → td_it (td_dN (A.1 80)) i.toNat σ k = σ k := fun k a b => td_it_dN_k (by omega) b
      rw [td_it_s i0] at ih
      revert ih G2 sk
      generalize td_it (td_dN (A.1 80)) i.toNat σ = s
      intro ih G2 sk
      have k9 := sk 9 (by omega) (by decide)
      have k0 := sk 0 (by omega) (by decide)
      have k1 := sk 1 (by omega) (by decide)
      have klo : ∀ t, 0 ≤ t → s (51 + 2 * t) = σ (51 + 2 * t) ∧ s (51 + 2 * t + 1) = σ (51 + 2 * t + 1) := fun t t0 => ⟨sk _ (by omega) (by omega), sk _ (by omega) (by omega)⟩
      have nr : td_nr (A.1 80) s i (s 9 - 1) := by
        have h := hn i i0 i1
        unfold td_nr at h ⊢
        rw [k9, sk (11 + i) (by omega) (by omega)]
        refine ⟨h.1, fun t a b => ?_, fun a => ?_⟩
        · have u := h.2.1 t a b
          unfold tb_nr at u ⊢
          rw [(klo t (by omega)).1, (klo t (by omega)).2]
          exact u
        · have u := h.2.2 a
          unfold tb_nr at u ⊢
          rw [(klo (σ 9 - 1 - σ (11 + i)) (by omega)).1, (klo (σ 9 - 1 - σ (11 + i)) (by omega)).2]
          exact u
      have th := td_three nr (by omega) (by rw [k9, (klo _ (by omega)).1, hx, k0]) (by rw [k9, (klo _ (by omega)).2, hy, k1])
      have sc2 := G2.sc0
      have z2 := G2.s0
      have v1 := G2.v81 i0 i1'
      have v5 := G2.v85 i0 i1'
      rw [e80] at v1 v5
      refine q103_14 ⟨G2.b, ?_⟩
      rw [g28_7 G2, e80]
      refine ⟨fun q => by omega, fun _ => ⟨G2.b, ?_⟩⟩
      rw [g94 G2 i0 i1', e80, sc2.1, k9, tb_w_id (x := σ 9 - 2) (by omega) (by omega)]
      -- the three days
      have inner := tb_lm (m := σ 9 - 2) (n := σ 9 + 1) (E := fun t => ∀ f : Int, (f = 0 ∨ f = 1) → (f = 1 ↔ ∀ t', σ 9 - 2 ≤ t' → t' < t → tb_nr (A.1 80) s i t') → tb_E X 103 49 [tb_r 4, tb_i i, tb_i (A.1 80 (85 + i) * 10 + A.1 80 (81 + i)), tb_i f, tb_i t] [] A2 (tb_Rv 103 Kv)) ?_ ?_ 3 (σ 9 - 2) (Int.le_refl _) (by omega)
      · refine inner 1 (Or.inr rfl) ⟨fun _ t' a b => by omega, fun _ => rfl⟩
      · intro f f01 hf
        refine q103_49 ⟨fun _ => ?_, fun q => by rw [sc2.1, k9] at q; omega⟩
        rw [tb_w_id (x := i + 1) (by omega) (by omega)]
        have all3 : (∀ t', σ 9 - 2 ≤ t' → t' < σ 9 + 1 → tb_nr (A.1 80) s i t') ↔ (tb_nr (A.1 80) s i (s 9 - 2) ∧ tb_nr (A.1 80) s i (s 9 - 1) ∧ tb_nr (A.1 80) s i (s 9)) := by
          rw [k9]
          constructor
          · intro q
            exact ⟨q _ (by omega) (by omega), q _ (by omega) (by omega), q _ (by omega) (by omega)⟩
          · rintro ⟨a, b, c⟩ t' t0 t1
            have : t' = σ 9 - 2 ∨ t' = σ 9 - 1 ∨ t' = σ 9 := by omega
            rcases this with rfl | rfl | rfl
            · exact a
            · exact b
            · exact c
        refine ⟨fun q => ?_, fun q => ?_⟩
        · have n3 : td_nn (A.1 80) s i < 3 := by
            rw [th]
            intro u
            have := hf.mpr (all3.mpr u)
            omega
          refine ih A2 _ _ _ f2 ?_
          unfold td_dN
          rw [if_pos n3, td_set_id (by rw [td_set_n (by omega)])]
          exact G2.uNear i0 (by omega)
        · have n3 : ¬ td_nn (A.1 80) s i < 3 := by
            rw [th]
            intro u
            exact u (all3.mp (hf.mp (by omega)))
          rw [sc2.2.2.2.2.2.2.2.2.1]
          refine ih _ _ _ _ (f2.upI rfl) ?_
          unfold td_dN
          rw [if_neg n3]
          exact (G2.uNear i0 (by omega)).uClai ((tb_o4 z2.2.2.2.2.2.2.2.1.1 z2.2.2.2.2.2.2.2.1.2).2 i i0 (by omega))
      · intro t t0 t1 ih2 f f01 hf
        refine q103_49 ⟨fun q => by rw [sc2.1, k9] at q; omega, fun _ => ?_⟩
        rw [tb_w_id (x := t + 1) (by omega) (by omega)]
        have lt := hl t (by omega) (by omega)
        refine ⟨fun q => ih2 0 (Or.inl rfl) ⟨fun u => absurd u (by decide), fun u => ?_⟩, fun q => ?_⟩
        · have := hf.mpr (fun t' a b => u t' a (by omega))
          omega
        · have f10 : A2.1 10 t = A.1 10 t := f2.1 10 t rfl rfl
          rw [e104 (by omega) (by omega), f10, lt.1, e81 lt.2.1.1 lt.2.1.2 lt.2.2.1 lt.2.2.2 v1.1 v1.2 v5.1 v5.2]
          have kt := klo t (by omega)
          have eq : tb_far (σ (51 + 2 * t)) (σ (51 + 2 * t + 1)) (A.1 80 (81 + i)) (A.1 80 (85 + i)) ≤ 2 ↔ tb_nr (A.1 80) s i t := by
            unfold tb_nr
            rw [kt.1, kt.2]
          have h1 := hf.mp (by omega)
          refine ih2 _ (by split <;> omega) ⟨fun u t' a b => ?_, fun u => ?_⟩
          · by_cases e : t' = t
            · rw [e]
              refine eq.mp ?_
              by_cases w : 2 < tb_far (σ (51 + 2 * t)) (σ (51 + 2 * t + 1)) (A.1 80 (81 + i)) (A.1 80 (85 + i))
              · rw [if_pos w] at u
                exact absurd u (by decide)
              · omega
            · exact h1 t' a (by omega)
          · have := eq.mpr (u t (by omega) (by omega))
            rw [if_neg (by omega)]
  · -- too early: no count can be three
    refine k A tb_fr.refl ?_
    unfold td_nrs
    have key := tb_indN (P := fun i => tc_G A (td_it (td_dN (A.1 80)) i.toNat σ)) (N := A.1 80 117) L ?_ (A.1 80 117) c7.1 (Int.le_refl _)
    · exact key
    · intro i i0 i1 G2
      have sk : ∀ k, (k < 11 ∨ 11 + i ≤ k) → k ≠ 7 → td_it (td_dN (A.1 80)) i.toNat σ k = σ k := fun k a b => td_it_dN_k (by omega) b
      rw [td_it_s i0]
      revert G2 sk
      generalize td_it (td_dN (A.1 80)) i.toNat σ = s
      intro G2 sk
      have nb := (hn i i0 i1).1
      have n3 : td_nn (A.1 80) s i < 3 := by
        unfold td_nn
        rw [sk (11 + i) (by omega) (by omega)]
        split <;> omega
      unfold td_dN
      rw [if_pos n3, td_set_id (by rw [td_set_n (by omega)])]
      exact G2.uNear i0 (by omega)
/-- what stays through the parts of a day -/
theorem td_emp_k {r s : Int → Int} {sc how k : Int} (c3 : r 113 ≤ 6) (c4 : r 114 ≤ 4) (h1 : ¬ (15 ≤ k ∧ k < 21)) (h2 : ¬ (27 ≤ k ∧ k < 31)) : td_emp r sc how s k = s k := by
  unfold td_emp
  rw [td_it_k (N := 4) (fun i s i0 i1 => ?_) _ (by omega), td_it_k (N := 6) (fun i s i0 i1 => ?_) _ (by omega)]
  · unfold td_dH
    split
    · exact td_set_n (by omega)
    · rfl
  · unfold td_dF
    split
    · exact td_set_n (by omega)
    · rfl
theorem td_lvs_k {r s : Int → Int} {k : Int} (c3 : r 113 ≤ 6) (c4 : r 114 ≤ 4) (c8 : r 118 ≤ 3) (cs : ∀ i, 0 ≤ i → i < r 118 → 0 ≤ r (101 + i) ∧ r (101 + i) < 8) (h1 : ¬ (15 ≤ k ∧ k < 21)) (h2 : ¬ (27 ≤ k ∧ k < 31)) (h3 : ¬ (35 ≤ k ∧ k < 43)) : td_lvs r s k = s k := by
  unfold td_lvs
  refine td_it_k (N := (r 118).toNat) (fun i s i0 i1 => ?_) _ (Nat.le_refl _)
  have := cs i i0 (by omega)
  unfold td_dL
  split
  · rw [td_emp_k c3 c4 h1 h2, td_set_n (by omega)]
  · rfl
theorem td_trn_k {r s : Int → Int} {k : Int} (h1 : k ≠ 2) (h2 : k ≠ 10) : td_trn r s k = s k := by
  unfold td_trn
  split
  · rw [td_set_n h1, td_set_n h2]
  · rw [td_set_n h1]
theorem td_swm_k {s : Int → Int} {k : Int} (h0 : k ≠ 0) (h1 : k ≠ 1) (h2 : k ≠ 2) : td_swm s k = s k := by
  unfold td_swm
  rw [td_set_n h2, td_set_n h1, td_set_n h0]
theorem td_wds_t {r s : Int → Int} (h : tb_isw r (s 0) (s 1)) : td_wds r s = td_set s 3 0 := if_pos h
theorem td_wds_f {r s : Int → Int} (h : ¬ tb_isw r (s 0) (s 1)) : td_wds r s = s := if_neg h
theorem td_wds_k {r s : Int → Int} {k : Int} (h : k ≠ 3) : td_wds r s k = s k := by
  by_cases c : tb_isw r (s 0) (s 1)
  · rw [td_wds_t c, td_set_n h]
  · rw [td_wds_f c]
theorem td_ern_k {r s : Int → Int} {k : Int} (h4 : k ≠ 4) (h6 : k ≠ 6) : td_ern r s k = s k := by
  unfold td_ern
  rw [td_it_k (N := (r 117).toNat) (fun i s i0 i1 => ?_) _ (Nat.le_refl _), td_it_k (N := (r 114).toNat) (fun i s i0 i1 => ?_) _ (Nat.le_refl _)]
  · unfold td_dC
    split
    · exact td_set_n h4
    · rfl
  · unfold td_dI
    split
    · rw [td_set_n h6, td_set_n h4]
    · rfl
theorem td_dBs_k {s : Int → Int} {k : Int} {n : Nat} (hn : n ≤ 8) (h : ¬ (43 ≤ k ∧ k < 51)) : td_it td_dB n s k = s k := by
  refine td_it_k (N := 8) (fun i s i0 i1 => ?_) _ hn
  unfold td_dB
  split
  · rfl
  · exact td_set_n (by omega)
theorem td_sn0_k {r s : Int → Int} {k : Int} (c3 : r 113 ≤ 6) (c4 : r 114 ≤ 4) (h1 : ¬ (15 ≤ k ∧ k < 21)) (h2 : ¬ (27 ≤ k ∧ k < 31)) (h3 : ¬ (43 ≤ k ∧ k < 51)) : td_sn0 r s k = s k := by
  unfold td_sn0
  rw [td_it_k (f := td_vB) (N := 8) (fun i s i0 i1 => ?_) _ (Nat.le_refl _), td_it_k (N := 4) (fun i s i0 i1 => ?_) _ (by omega), td_it_k (N := 6) (fun i s i0 i1 => ?_) _ (by omega)]
  · unfold td_vH
    split
    · exact td_set_n (by omega)
    · rfl
  · by_cases c : s (27 + i) = 0 ∧ ¬ td_tie r s (s (31 + i))
    · rw [td_vF_t c.1 c.2, td_set_n (by omega)]
    · rw [td_vF_f c]
  · exact td_set_n (by omega)
theorem td_div_k {r s : Int → Int} {k : Int} (c3 : r 113 ≤ 6) (c4 : r 114 ≤ 4) (h0 : k ≠ 5) (h1 : ¬ (15 ≤ k ∧ k < 21)) (h2 : ¬ (27 ≤ k ∧ k < 31)) (h3 : ¬ (43 ≤ k ∧ k < 51)) : td_div r s k = s k := by
  unfold td_div
  split
  · rw [td_set_n h0, td_sn0_k c3 c4 h1 h2 h3]
  · rfl
end TBDAY3
