/-! A DAY: what holds of a state holds behind it; passDay whole -/
section TBDAY4
variable {X : tb_X} {A : tb_H} {σ : Int → Int} {K : Int → tb_H → Prop} {Kv : tb_H → Prop}
def td_P (r s : Int → Int) : Prop := (s (51 + 2 * s 9) = s 0 ∧ s (51 + 2 * s 9 + 1) = s 1) ∧ (∀ f, 0 ≤ f → f < r 114 → s (27 + f) = 0 → s (35 + s (31 + f)) = 0) ∧ ∀ l, 0 ≤ l → l < r 117 → td_nr r s l (s 9)
theorem td_dF_d {sc how f : Int} {s : Int → Int} : td_dF sc how f s = if s (27 + f) = 0 ∧ s (31 + f) = sc then td_set s (27 + f) how else s := rfl
theorem td_dH_d {r : Int → Int} {sc how h : Int} {s : Int → Int} : td_dH r sc how h s = if s (15 + h) = 0 ∧ r (33 + h) = sc then td_set s (15 + h) how else s := rfl
theorem td_dL_d {r : Int → Int} {m : Int} {s : Int → Int} : td_dL r m s = if r (104 + m) = s 9 then td_emp r (r (101 + m)) (1 + r (107 + m)) (td_set s (35 + r (101 + m)) 1) else s := rfl
theorem td_emp_f {r s : Int → Int} {sc how f : Int} (c3 : r 113 ≤ 6) (c4 : r 114 ≤ 4) (hh : how ≠ 0) (f0 : 0 ≤ f) (f1 : f < r 114) (h : td_emp r sc how s (27 + f) = 0) : s (27 + f) = 0 ∧ s (31 + f) ≠ sc := by
  unfold td_emp at h
  have hk : ∀ k, 27 ≤ k → td_it (td_dH r sc how) (r 113).toNat s k = s k := fun k hk => td_it_k (N := 6) (fun i s i0 i1 => by
    unfold td_dH
    split
    · exact td_set_n (by omega)
    · rfl) _ (by omega)
  rw [← hk (27 + f) (by omega), ← hk (31 + f) (by omega)]
  revert h
  generalize td_it (td_dH r sc how) (r 113).toNat s = u
  have key : ∀ n : Nat, n ≤ 4 → (∀ k, 31 ≤ k → td_it (td_dF sc how) n u k = u k) ∧ (td_it (td_dF sc how) n u (27 + f) = 0 → u (27 + f) = 0 ∧ (f < n → u (31 + f) ≠ sc)) := by
    intro n
    induction n with
    | zero => exact fun _ => ⟨fun _ _ => rfl, fun q => ⟨q, fun z => by omega⟩⟩
    | succ n ih =>
      intro hn
      have ih := ih (by omega)
      rw [td_it, td_dF_d]
      by_cases c : td_it (td_dF sc how) n u (27 + n) = 0 ∧ td_it (td_dF sc how) n u (31 + n) = sc
      · rw [if_pos c]
        refine ⟨fun k k0 => by rw [td_set_n (by omega)]; exact ih.1 k k0, fun q => ?_⟩
        by_cases e : f = n
        · rw [e, td_set_s] at q
          exact absurd q hh
        · rw [td_set_n (by omega)] at q
          have w := ih.2 q
          exact ⟨w.1, fun z => w.2 (by omega)⟩
      · rw [if_neg c]
        refine ⟨ih.1, fun q => ?_⟩
        have w := ih.2 q
        refine ⟨w.1, fun z => ?_⟩
        by_cases e : f = n
        · intro v
          refine c ⟨by rw [← e]; exact q, ?_⟩
          rw [ih.1 _ (by omega), ← e]
          exact v
        · exact w.2 (by omega)
  intro h
  have w := (key (r 114).toNat (by omega)).2 h
  exact ⟨w.1, w.2 (by omega)⟩
theorem td_emp_m {r s : Int → Int} {sc how k : Int} (hh : how ≠ 0) (h : td_emp r sc how s k = 0) : s k = 0 := by
  unfold td_emp at h
  have a : ∀ (n : Nat) (u : Int → Int), td_it (td_dF sc how) n u k = 0 → u k = 0 := by
    intro n u
    induction n with
    | zero => exact id
    | succ n ih =>
      rw [td_it, td_dF_d]
      split
      · intro q
        by_cases e : k = 27 + n
        · rw [e, td_set_s] at q; exact absurd q hh
        · rw [td_set_n e] at q; exact ih q
      · exact ih
  have b : ∀ (n : Nat) (u : Int → Int), td_it (td_dH r sc how) n u k = 0 → u k = 0 := by
    intro n u
    induction n with
    | zero => exact id
    | succ n ih =>
      rw [td_it, td_dH_d]
      split
      · intro q
        by_cases e : k = 15 + n
        · rw [e, td_set_s] at q; exact absurd q hh
        · rw [td_set_n e] at q; exact ih q
      · exact ih
  exact b _ _ (a _ _ h)
/-- families there stand on scutes that are -/
def td_T (r s : Int → Int) : Prop := ∀ f, 0 ≤ f → f < r 114 → s (27 + f) = 0 → s (35 + s (31 + f)) = 0
theorem td_lvs_T {r s : Int → Int} (c3 : r 113 ≤ 6) (c4 : r 114 ≤ 4) (cs : ∀ i, 0 ≤ i → i < r 118 → (0 ≤ r (101 + i) ∧ r (101 + i) < 8) ∧ 0 ≤ r (107 + i)) (ha : ∀ f, 0 ≤ f → f < 4 → 0 ≤ s (31 + f)) (h : td_T r s) : td_T r (td_lvs r s) := by
  unfold td_lvs
  have key : ∀ n : Nat, n ≤ (r 118).toNat → td_T r (td_it (td_dL r) n s) ∧ ∀ f, 0 ≤ f → f < 4 → td_it (td_dL r) n s (31 + f) = s (31 + f) := by
    intro n
    induction n with
    | zero => exact fun _ => ⟨h, fun _ _ _ => rfl⟩
    | succ n ih =>
      intro hn
      have ih := ih (by omega)
      have c := cs n (by omega) (by omega)
      rw [td_it, td_dL_d]
      split
      · refine ⟨?_, fun f f0 f1 => ?_⟩
        · intro f f0 f1 q
          have w := td_emp_f c3 c4 (by omega) f0 f1 q
          rw [td_set_n (by omega), td_set_n (by omega)] at w
          rw [td_emp_k c3 c4 (k := 31 + f) (by omega) (by omega), td_set_n (by omega)]
          have at' := ih.2 f f0 (by omega)
          have a0 := ha f f0 (by omega)
          rw [td_emp_k c3 c4 (by omega) (by omega), td_set_n (fun e => w.2 (by omega))]
          exact ih.1 f f0 f1 w.1
        · rw [td_emp_k c3 c4 (by omega) (by omega), td_set_n (by omega)]
          exact ih.2 f f0 f1
      · exact ih
  exact (key _ (Nat.le_refl _)).1
theorem td_div_m {r s : Int → Int} {f : Int} (c3 : r 113 ≤ 6) (c4 : r 114 ≤ 4) (f0 : 0 ≤ f) (f1 : f < 4) (h : td_div r s (27 + f) = 0) : s (27 + f) = 0 := by
  unfold td_div at h
  revert h
  split
  · rw [td_set_n (by omega)]
    unfold td_sn0
    rw [td_it_k (f := td_vB) (N := 8) (fun i s i0 i1 => td_set_n (by omega)) _ (Nat.le_refl _)]
    have a : ∀ (n : Nat) (u : Int → Int), td_it (td_vF r) n u (27 + f) = 0 → u (27 + f) = 0 := by
      intro n u
      induction n with
      | zero => exact id
      | succ n ih =>
        rw [td_it]
        by_cases c : td_it (td_vF r) n u (27 + n) = 0 ∧ ¬ td_tie r (td_it (td_vF r) n u) (td_it (td_vF r) n u (31 + n))
        · rw [td_vF_t c.1 c.2]
          intro q
          by_cases e : f = n
          · rw [e, td_set_s] at q; exact absurd q (by decide)
          · rw [td_set_n (by omega)] at q; exact ih q
        · rw [td_vF_f c]
          exact ih
    intro q
    have w := a _ _ q
    rw [td_it_k (N := 6) (fun i s i0 i1 => ?_) _ (by omega)] at w
    · exact w
    · unfold td_vH
      split
      · exact td_set_n (by omega)
      · rfl
  · exact id
theorem td_nrs_l {r s : Int → Int} {l : Int} (c7 : r 117 ≤ 4) (l0 : 0 ≤ l) (l1 : l < r 117) : td_nrs r s (11 + l) = td_nn r s l := by
  unfold td_nrs
  have key : ∀ n : Nat, n ≤ 4 → td_it (td_dN r) n s (11 + l) = if l < n then td_nn r s l else s (11 + l) := by
    intro n
    induction n with
    | zero => intro _; rw [if_neg (by omega)]; rfl
    | succ n ih =>
      intro hn
      have ih := ih (by omega)
      rw [td_it]
      by_cases e : l = n
      · rw [if_pos (by omega), e, td_dN_l (by omega)]
        rw [e, if_neg (by omega)] at ih
        unfold td_nn
        rw [ih, td_it_dN_k (by omega) (by decide), td_it_dN_k (by omega) (by decide)]
      · rw [td_dN_k (by omega) (by omega), ih]
        by_cases c : l < n
        · rw [if_pos c, if_pos (by omega)]
        · rw [if_neg c, if_neg (by omega)]
  rw [key _ (by omega), if_pos (by omega)]
/-- the facts of a beast that a day needs -/
def td_R (r : Int → Int) : Prop := (r 113 ≤ 6 ∧ r 114 ≤ 4 ∧ r 117 ≤ 4 ∧ r 118 ≤ 3 ∧ 0 ≤ r 112 ∧ r 112 ≤ 8) ∧ (∀ i, 0 ≤ i → i < r 118 → (0 ≤ r (101 + i) ∧ r (101 + i) < 8) ∧ 0 ≤ r (107 + i))
theorem tc_G.R (L : tc_G A σ) : td_R (A.1 80) := by
  have c2 := L.c112
  refine ⟨⟨L.c113.2, L.c114.2, L.c117.2, L.c118.2, by omega, c2.2⟩, fun i i0 i1 => ?_⟩
  have v := L.v101 i0 i1
  have w := L.v107 i0 i1
  omega
theorem tc_M.R (L : tc_M A) : td_R (A.1 80) := by
  have c2 := L.c112
  refine ⟨⟨L.c113.2, L.c114.2, L.c117.2, L.c118.2, by omega, c2.2⟩, fun i i0 i1 => ?_⟩
  have v := L.v101 i0 i1
  have w := L.v107 i0 i1
  omega
theorem td_R.cs {r : Int → Int} (h : td_R r) : ∀ i, 0 ≤ i → i < r 118 → 0 ≤ r (101 + i) ∧ r (101 + i) < 8 := fun i i0 i1 => (h.2 i i0 i1).1
theorem td_a9 {r s : Int → Int} (h : td_R r) : td_a r s 9 = s 9 + 1 := by
  unfold td_a
  rw [td_set_n (by decide), td_lvs_k h.1.1 h.1.2.1 h.1.2.2.2.1 h.cs (by omega) (by omega) (by omega), td_set_s]
theorem td_a_k {r s : Int → Int} {k : Int} (h : td_R r) (h0 : k ≠ 9) (h3 : k ≠ 3) (h1 : ¬ (15 ≤ k ∧ k < 21)) (h2 : ¬ (27 ≤ k ∧ k < 31)) (h4 : ¬ (35 ≤ k ∧ k < 43)) : td_a r s k = s k := by
  unfold td_a
  rw [td_set_n h3, td_lvs_k h.1.1 h.1.2.1 h.1.2.2.2.1 h.cs h1 h2 h4, td_set_n h0]
theorem td_b9 {r s : Int → Int} (h : td_R r) (h9 : 0 ≤ s 9) : td_b r s 9 = s 9 + 1 := by
  have e : td_swm (td_trn r (td_a r s)) 9 = s 9 + 1 := by rw [td_swm_k (by decide) (by decide) (by decide), td_trn_k (by decide) (by decide), td_a9 h]
  unfold td_b td_lgs
  rw [e, td_set_n (by omega), td_set_n (by omega), e]
/-- the log: today's two numbers, older ones as they were -/
theorem td_b_lg {r s : Int → Int} (h : td_R r) (h9 : 0 ≤ s 9) : (td_b r s (51 + 2 * (s 9 + 1)) = td_b r s 0 ∧ td_b r s (51 + 2 * (s 9 + 1) + 1) = td_b r s 1) ∧ ∀ k, 51 ≤ k → k < 51 + 2 * (s 9 + 1) → td_b r s k = s k := by
  have e : td_swm (td_trn r (td_a r s)) 9 = s 9 + 1 := by rw [td_swm_k (by decide) (by decide) (by decide), td_trn_k (by decide) (by decide), td_a9 h]
  have hk : ∀ k, 51 ≤ k → td_swm (td_trn r (td_a r s)) k = s k := fun k k0 => by rw [td_swm_k (by omega) (by omega) (by omega), td_trn_k (by omega) (by omega), td_a_k h (by omega) (by omega) (by omega) (by omega) (by omega)]
  unfold td_b
  revert e hk
  generalize td_swm (td_trn r (td_a r s)) = u
  intro e hk
  unfold td_lgs
  rw [e]
  refine ⟨⟨?_, ?_⟩, fun k k0 k1 => ?_⟩
  · rw [td_set_n (by omega), td_set_s, td_set_n (by omega), td_set_n (by omega)]
  · rw [td_set_s, td_set_n (by omega), td_set_n (by omega)]
  · rw [td_set_n (by omega), td_set_n (by omega)]
    exact hk k k0
theorem td_c_k {r s : Int → Int} {k : Int} (h : td_R r) (h3 : k ≠ 3) (h4 : k ≠ 4) (h6 : k ≠ 6) (h8 : k ≠ 8) (h1 : ¬ (43 ≤ k ∧ k < 51)) : td_c r s k = td_b r s k := by
  unfold td_c
  rw [td_dBs_k (by have := h.1; omega) h1]
  unfold td_itc
  rw [td_set_n h8, td_ern_k h4 h6, td_wds_k h3]
theorem td_d_k {r s : Int → Int} {k : Int} (h : td_R r) (h3 : k ≠ 3) (h4 : k ≠ 4) (h5 : k ≠ 5) (h6 : k ≠ 6) (h8 : k ≠ 8) (h1 : ¬ (43 ≤ k ∧ k < 51)) (h2 : ¬ (15 ≤ k ∧ k < 21)) (h7 : ¬ (27 ≤ k ∧ k < 31)) : td_div r (td_c r s) k = td_b r s k := by rw [td_div_k h.1.1 h.1.2.1 h5 h2 h7 h1, td_c_k h h3 h4 h6 h8 h1]
theorem td_day_k {r s : Int → Int} {k : Int} (h : td_R r) (h3 : k ≠ 3) (h4 : k ≠ 4) (h5 : k ≠ 5) (h6 : k ≠ 6) (h7 : k ≠ 7) (h8 : k ≠ 8) (h0 : ¬ (11 ≤ k ∧ k < 15)) (h1 : ¬ (43 ≤ k ∧ k < 51)) (h2 : ¬ (15 ≤ k ∧ k < 21)) (h9 : ¬ (27 ≤ k ∧ k < 31)) : td_day r s k = td_b r s k := by
  unfold td_day
  rw [td_nrs_k h0 h7 h.1.2.2.1, td_d_k h h3 h4 h5 h6 h8 h1 h2 h9]
theorem td_day9 {r s : Int → Int} (h : td_R r) (h9 : 0 ≤ s 9) : td_day r s 9 = s 9 + 1 := by rw [td_day_k h (by decide) (by decide) (by decide) (by decide) (by decide) (by decide) (by decide) (by decide) (by decide) (by decide), td_b9 h h9]
theorem td_b_35 {r s : Int → Int} {k : Int} (h9 : 0 ≤ s 9) (h : td_R r) (h0 : 27 ≤ k) (h1 : k < 51) : td_b r s k = td_lvs r (td_set s 9 (s 9 + 1)) k := by
  have e : td_swm (td_trn r (td_a r s)) 9 = s 9 + 1 := by rw [td_swm_k (by decide) (by decide) (by decide), td_trn_k (by decide) (by decide), td_a9 h]
  unfold td_b td_lgs
  rw [e, td_set_n (by omega), td_set_n (by omega), td_swm_k (by omega) (by omega) (by omega), td_trn_k (by omega) (by omega)]
  unfold td_a
  rw [td_set_n (by omega)]
theorem td_day_P {r s : Int → Int} (h : td_R r) (h9 : 0 ≤ s 9) (ha : ∀ f, 0 ≤ f → f < 4 → 0 ≤ s (31 + f) ∧ s (31 + f) < 8) (hp : td_P r s) : td_P r (td_day r s) := by
  have e9 := td_day9 h h9
  have lg := td_b_lg h h9
  have e0 : td_day r s 0 = td_b r s 0 := td_day_k h (by decide) (by decide) (by decide) (by decide) (by decide) (by decide) (by decide) (by decide) (by decide) (by decide)
  have e1 : td_day r s 1 = td_b r s 1 := td_day_k h (by decide) (by decide) (by decide) (by decide) (by decide) (by decide) (by decide) (by decide) (by decide) (by decide)
  have e51 : ∀ k, 51 ≤ k → td_day r s k = td_b r s k := fun k k0 => td_day_k h (by omega) (by omega) (by omega) (by omega) (by omega) (by omega) (by omega) (by omega) (by omega) (by omega)
  refine ⟨?_, fun f f0 f1 q => ?_, fun l l0 l1 => ?_⟩
  · rw [e9, e0, e1, e51 _ (by omega), e51 _ (by omega)]
    exact lg.1
  · have fb : f < 4 := by have := h.1; omega
    have q1 : td_div r (td_c r s) (27 + f) = 0 := by
      unfold td_day at q
      rw [td_nrs_k (by omega) (by omega) h.1.2.2.1] at q
      exact q
    have q2 := td_div_m h.1.1 h.1.2.1 f0 fb q1
    rw [td_c_k h (by omega) (by omega) (by omega) (by omega) (by omega), td_b_35 h9 h (by omega) (by omega)] at q2
    have ea : td_day r s (31 + f) = s (31 + f) := by rw [td_day_k h (by omega) (by omega) (by omega) (by omega) (by omega) (by omega) (by omega) (by omega) (by omega) (by omega), td_b_35 h9 h (by omega) (by omega), td_lvs_k h.1.1 h.1.2.1 h.1.2.2.2.1 h.cs (by omega) (by omega) (by omega), td_set_n (by omega)]
    have ab := ha f f0 fb
    rw [ea, td_day_k h (by omega) (by omega) (by omega) (by omega) (by omega) (by omega) (by omega) (by omega) (by omega) (by omega), td_b_35 h9 h (by omega) (by omega)]
    have T := td_lvs_T (s := td_set s 9 (s 9 + 1)) h.1.1 h.1.2.1 h.2 (fun f f0 f1 => by rw [td_set_n (by omega)]; exact (ha f f0 f1).1) (fun f f0 f1 z => by
      have fb : f < 4 := by have := h.1; omega
      have ab := ha f f0 fb
      rw [td_set_n (by omega)] at z
      rw [td_set_n (k := 31 + f) (by omega), td_set_n (by omega)]
      exact hp.2.1 f f0 f1 z)
    have t := T f f0 f1 q2
    rw [td_lvs_k (k := 31 + f) h.1.1 h.1.2.1 h.1.2.2.2.1 h.cs (by omega) (by omega) (by omega), td_set_n (by omega)] at t
    exact t
  · have c7 := h.1.2.2.1
    have en : td_day r s (11 + l) = td_nn r (td_div r (td_c r s)) l := by
      unfold td_day
      exact td_nrs_l c7 l0 l1
    have d0 : td_div r (td_c r s) 0 = td_b r s 0 := td_d_k h (by decide) (by decide) (by decide) (by decide) (by decide) (by decide) (by decide) (by decide)
    have d1 : td_div r (td_c r s) 1 = td_b r s 1 := td_d_k h (by decide) (by decide) (by decide) (by decide) (by decide) (by decide) (by decide) (by decide)
    have dl : td_div r (td_c r s) (11 + l) = s (11 + l) := by
      have e : td_swm (td_trn r (td_a r s)) 9 = s 9 + 1 := by rw [td_swm_k (by decide) (by decide) (by decide), td_trn_k (by decide) (by decide), td_a9 h]
      rw [td_d_k h (by omega) (by omega) (by omega) (by omega) (by omega) (by omega) (by omega) (by omega)]
      unfold td_b td_lgs
      rw [e, td_set_n (by omega), td_set_n (by omega), td_swm_k (by omega) (by omega) (by omega), td_trn_k (by omega) (by omega), td_a_k h (by omega) (by omega) (by omega) (by omega) (by omega)]
    have old := hp.2.2 l l0 l1
    obtain ⟨o1, o2, o3⟩ := old
    have nT : tb_nr r (td_day r s) l (s 9 + 1) ↔ tb_far (td_b r s 0) (td_b r s 1) (r (81 + l)) (r (85 + l)) ≤ 2 := by
      unfold tb_nr
      rw [e51 _ (by omega), e51 _ (by omega), lg.1.1, lg.1.2]
    have nO : ∀ t, 0 ≤ t → t ≤ s 9 → (tb_nr r (td_day r s) l t ↔ tb_nr r s l t) := by
      intro t t0 t1
      unfold tb_nr
      rw [e51 _ (by omega), e51 _ (by omega), lg.2 _ (by omega) (by omega), lg.2 _ (by omega) (by omega)]
    unfold td_nr
    rw [e9, en]
    unfold td_nn
    rw [d0, d1, dl]
    by_cases c : tb_far (td_b r s 0) (td_b r s 1) (r (81 + l)) (r (85 + l)) ≤ 2
    · rw [if_pos c]
      refine ⟨by omega, fun t t0 t1 => ?_, fun q => ?_⟩
      · by_cases e : t = s 9 + 1
        · rw [e]; exact nT.mpr c
        · exact (nO t (by omega) (by omega)).mpr (o2 t (by omega) (by omega))
      · rw [show s 9 + 1 - (s (11 + l) + 1) = s 9 - s (11 + l) by omega, nO _ (by omega) (by omega)]
        exact o3 (by omega)
    · rw [if_neg c]
      refine ⟨by omega, fun t t0 t1 => by omega, fun _ => ?_⟩
      rw [show s 9 + 1 - 0 = s 9 + 1 by omega, nT]
      exact c
/-- passDay -/
theorem sp61 (L : tc_G A σ) (h2 : σ 9 < 200) (hl : td_lg A σ (σ 9)) (hp : td_P (A.1 80) σ) (k : ∀ A', tb_fr [5, 6, 7, 9, 10] [] [] A A' → tc_G A' (td_day (A.1 80) σ) → td_lg A' (td_day (A.1 80) σ) (σ 9 + 1) → Kv A') : tb_Cv X 61 [tb_r 4] A Kv := by
  have R := L.R
  have z := L.s0
  have sc := L.sc0
  have h9 : 0 ≤ σ 9 := z.2.2.2.2.2.2.2.2.2.1.1
  have lv9 : td_lvs (A.1 80) (td_set σ 9 (σ 9 + 1)) 9 = σ 9 + 1 := by rw [td_lvs_k R.1.1 R.1.2.1 R.1.2.2.2.1 R.cs (by decide) (by decide) (by decide), td_set_s]
  have lv3 : td_lvs (A.1 80) (td_set σ 9 (σ 9 + 1)) 3 = σ 3 := by rw [td_lvs_k R.1.1 R.1.2.1 R.1.2.2.2.1 R.cs (by decide) (by decide) (by decide), td_set_n (by decide)]
  have e9 : td_swm (td_trn (A.1 80) (td_a (A.1 80) σ)) 9 = σ 9 + 1 := by rw [td_swm_k (by decide) (by decide) (by decide), td_trn_k (by decide) (by decide), td_a9 R]
  have lg := td_b_lg R h9
  refine qx61 ⟨fun _ => ?_, fun q => by rw [sc.1] at q; omega⟩
  rw [sc.1, tb_w_id (x := σ 9 + 1) (by omega) (by omega)]
  have G1 := L.uDay (v := σ 9 + 1) (by omega)
  refine qx61_27 (sp62 G1 ?_)
  intro A2 f2 G2
  have f2' : tb_fr [5, 6, 7, 9, 10] [] [] A A2 := (tb_fr.upI tb_fr.refl rfl).trans (f2.mono rfl rfl rfl)
  have e80 : A2.1 80 = A.1 80 := funext (fun k => f2'.1 80 k rfl rfl)
  rw [show (tb_upI A 5 0 (σ 9 + 1)).1 80 = A.1 80 from rfl] at G2
  rw [G2.sc0.2.2.2.2.1, lv3, tb_w_id (x := σ 3 + 1) (by omega) (by omega)]
  have G3 := G2.uHung (v := σ 3 + 1) (by rw [lv9]; omega)
  rw [← lv3] at G3
  have G3 : tc_G (tb_upI A2 5 4 (σ 3 + 1)) (td_a (A.1 80) σ) := by
    unfold td_a
    rw [lv3] at G3 ⊢
    exact G3
  refine qx61_44 (sp72 G3 ?_)
  intro A4 f4 G4
  have f4' : tb_fr [5, 6, 7, 9, 10] [] [] A A4 := (f2'.upI rfl).trans (f4.mono rfl rfl rfl)
  rw [show (tb_upI A2 5 4 (σ 3 + 1)).1 80 = A.1 80 from e80] at G4
  have b9 : td_b (A.1 80) σ = td_lgs (td_swm (td_trn (A.1 80) (td_a (A.1 80) σ))) := rfl
  revert G4 e9 b9
  generalize td_trn (A.1 80) (td_a (A.1 80) σ) = u
  intro e9 G4 b9
  have z4 := G4.s0
  have s4 := G4.sc0
  have wb := tb_wB (h := u 2) z4.1.1 z4.1.2 z4.2.1.1 z4.2.1.2 z4.2.2.1.1 z4.2.2.1.2
  refine qx61_48 ?_
  rw [s4.2.2.1, s4.2.2.2.1, e87 (by omega) (by omega), show u 2 % 8 = u 2 by omega, e88 z4.1.1 z4.1.2 z4.2.1.1 z4.2.1.2 z4.2.2.1.1 z4.2.2.1.2, e90 (by omega) (by omega), show ((tb_wy (u 0) (u 1) (u 2) * 10 + tb_wx (u 0) (u 1) (u 2)) * 8 + tb_wh (u 0) (u 1) (u 2)) / 8 = tb_wy (u 0) (u 1) (u 2) * 10 + tb_wx (u 0) (u 1) (u 2) by omega]
  refine qx61_80 ?_
  rw [e89, show ((tb_wy (u 0) (u 1) (u 2) * 10 + tb_wx (u 0) (u 1) (u 2)) * 8 + tb_wh (u 0) (u 1) (u 2)) % 8 = tb_wh (u 0) (u 1) (u 2) by omega]
  have G5 := (G4.uCell wb.1 wb.2.1).uHead (v := tb_wh (u 0) (u 1) (u 2)) wb.2.2
  have G5 : tc_G (tb_upI (tb_upI A4 5 2 (tb_wy (u 0) (u 1) (u 2) * 10 + tb_wx (u 0) (u 1) (u 2))) 5 3 (tb_wh (u 0) (u 1) (u 2))) (td_swm u) := G5
  have f5 : tb_fr [5, 6, 7, 9, 10] [] [] A (tb_upI (tb_upI A4 5 2 (tb_wy (u 0) (u 1) (u 2) * 10 + tb_wx (u 0) (u 1) (u 2))) 5 3 (tb_wh (u 0) (u 1) (u 2))) := (f4'.upI rfl).upI rfl
  have t10 : ∀ t, (tb_upI (tb_upI A4 5 2 (tb_wy (u 0) (u 1) (u 2) * 10 + tb_wx (u 0) (u 1) (u 2))) 5 3 (tb_wh (u 0) (u 1) (u 2))).1 10 t = A.1 10 t := by
    intro t
    show A4.1 10 t = _
    rw [f4.1 10 t rfl rfl]
    show A2.1 10 t = _
    rw [f2.1 10 t rfl rfl]
    rfl
  revert G5 f5 t10 e9 b9
  generalize tb_upI (tb_upI A4 5 2 (tb_wy (u 0) (u 1) (u 2) * 10 + tb_wx (u 0) (u 1) (u 2))) 5 3 (tb_wh (u 0) (u 1) (u 2)) = A5
  generalize td_swm u = w
  intro e9 b9 G5 f5 t10
  refine qx61_91 ?_
  have s5 := G5.sc0
  have z5 := G5.s0
  rw [e54 (by rw [s5.1]; omega) (by rw [s5.1]; omega), s5.1, s5.2.2.1, e9]
  have G6 := ((G5.u10 (k := σ 9 + 1) (v := w 1 * 10 + w 0)).uLog (i := 51 + 2 * w 9) (v := w 0) (by omega)).uLog (i := 51 + 2 * w 9 + 1) (v := w 1) (by omega)
  have G6 : tc_G (tb_upI A5 10 (σ 9 + 1) (w 1 * 10 + w 0)) (td_b (A.1 80) σ) := by
    rw [b9]
    exact G6
  have w0 : td_b (A.1 80) σ 0 = w 0 := by
    rw [b9]
    unfold td_lgs
    rw [td_set_n (by omega), td_set_n (by omega)]
  have w1 : td_b (A.1 80) σ 1 = w 1 := by
    rw [b9]
    unfold td_lgs
    rw [td_set_n (by omega), td_set_n (by omega)]
  have l6 : td_lg (tb_upI A5 10 (σ 9 + 1) (w 1 * 10 + w 0)) (td_b (A.1 80) σ) (σ 9 + 1) := by
    intro t t0 t1
    by_cases e : t = σ 9 + 1
    · rw [e, tb_uI_s, lg.1.1, lg.1.2, w0, w1]
      exact ⟨rfl, z5.1, z5.2.1⟩
    · rw [tb_uI_k e, t10, lg.2 _ (by omega) (by omega), lg.2 _ (by omega) (by omega)]
      exact hl t t0 (by omega)
  have f6 : tb_fr [5, 6, 7, 9, 10] [] [] A (tb_upI A5 10 (σ 9 + 1) (w 1 * 10 + w 0)) := f5.upI rfl
  revert G6 l6 f6
  generalize tb_upI A5 10 (σ 9 + 1) (w 1 * 10 + w 0) = A6
  intro G6 l6 f6
  have e80 : A6.1 80 = A.1 80 := funext (fun k => f6.1 80 k rfl rfl)
  refine qx61_95 ⟨G6.b, ?_⟩
  have s6 := G6.sc0
  have z6 := G6.s0
  rw [s6.2.2.1]
  have rest : ∀ A7 : tb_H, tb_fr [5, 6, 7, 9, 10] [] [] A A7 → td_lg A7 (td_b (A.1 80) σ) (σ 9 + 1) → tc_G A7 (td_wds (A.1 80) (td_b (A.1 80) σ)) → ∀ (j1 : Int) (j2 : tb_V), tb_E X 61 120 [tb_r 4, tb_i j1, j2] [] A7 (tb_Rv 61 Kv) := by
    intro A7 f7 l7 G7 j1 j2
    have e80 : A7.1 80 = A.1 80 := funext (fun k => f7.1 80 k rfl rfl)
    refine qx61_120 (sp93 G7 ?_)
    intro A8 f8 G8
    rw [e80] at G8
    have f8' : tb_fr [5, 6, 7, 9, 10] [] [] A A8 := f7.trans (f8.mono rfl rfl rfl)
    have e80 : A8.1 80 = A.1 80 := funext (fun k => f8'.1 80 k rfl rfl)
    refine sp95 G8 ?_
    intro A9 f9 G9
    rw [e80] at G9
    have f9' : tb_fr [5, 6, 7, 9, 10] [] [] A A9 := f8'.trans (f9.mono rfl rfl rfl)
    have e80 : A9.1 80 = A.1 80 := funext (fun k => f9'.1 80 k rfl rfl)
    refine sp98 G9 ?_
    intro Aa fa Ga
    rw [e80] at Ga
    have fa' : tb_fr [5, 6, 7, 9, 10] [] [] A Aa := f9'.trans (fa.mono rfl rfl rfl)
    have e80 : Aa.1 80 = A.1 80 := funext (fun k => fa'.1 80 k rfl rfl)
    have la : td_lg Aa (td_b (A.1 80) σ) (σ 9 + 1) := by
      intro t t0 t1
      rw [fa.1 10 t rfl rfl, f9.1 10 t rfl rfl, f8.1 10 t rfl rfl]
      exact l7 t t0 t1
    have Ga : tc_G Aa (td_c (A.1 80) σ) := Ga
    have sa := Ga.sc0
    have za := Ga.s0
    have c9 : td_c (A.1 80) σ 9 = σ 9 + 1 := by rw [td_c_k R (by decide) (by decide) (by decide) (by decide) (by decide), td_b9 R h9]
    have last : ∀ Ab : tb_H, tb_fr [5, 6, 7, 9, 10] [] [] A Ab → td_lg Ab (td_b (A.1 80) σ) (σ 9 + 1) → tc_G Ab (td_div (A.1 80) (td_c (A.1 80) σ)) → ∀ j2 : Int, tb_E X 61 179 [tb_r 4, tb_i j1, tb_i j2] [] Ab (tb_Rv 61 Kv) := by
      intro Ab fb lb Gb j2
      have e80 : Ab.1 80 = A.1 80 := funext (fun k => fb.1 80 k rfl rfl)
      have dk : ∀ k, k ≠ 3 → k ≠ 4 → k ≠ 5 → k ≠ 6 → k ≠ 8 → ¬ (43 ≤ k ∧ k < 51) → ¬ (15 ≤ k ∧ k < 21) → ¬ (27 ≤ k ∧ k < 31) → td_div (A.1 80) (td_c (A.1 80) σ) k = td_b (A.1 80) σ k := fun k a b c d e f g i => td_d_k R a b c d e f g i
      have d9 : td_div (A.1 80) (td_c (A.1 80) σ) 9 = σ 9 + 1 := by rw [dk 9 (by decide) (by decide) (by decide) (by decide) (by decide) (by decide) (by decide) (by decide), td_b9 R h9]
      refine qx61_179 ?_
      refine sp103 Gb ?_ (by omega) ?_ ?_ (fun l l0 l1 => ?_) ?_
      · rw [d9]
        intro t t0 t1
        rw [dk _ (by omega) (by omega) (by omega) (by omega) (by omega) (by omega) (by omega) (by omega), dk _ (by omega) (by omega) (by omega) (by omega) (by omega) (by omega) (by omega) (by omega)]
        exact lb t t0 t1
      · rw [d9, dk _ (by omega) (by omega) (by omega) (by omega) (by omega) (by omega) (by omega) (by omega), dk 0 (by decide) (by decide) (by decide) (by decide) (by decide) (by decide) (by decide) (by decide)]
        exact lg.1.1
      · rw [d9, dk _ (by omega) (by omega) (by omega) (by omega) (by omega) (by omega) (by omega) (by omega), dk 1 (by decide) (by decide) (by decide) (by decide) (by decide) (by decide) (by decide) (by decide)]
        exact lg.1.2
      · rw [e80] at l1 ⊢
        have c7 := R.1.2.2.1
        have o := hp.2.2 l l0 l1
        obtain ⟨o1, o2, o3⟩ := o
        have e9 : td_swm (td_trn (A.1 80) (td_a (A.1 80) σ)) 9 = σ 9 + 1 := by rw [td_swm_k (by decide) (by decide) (by decide), td_trn_k (by decide) (by decide), td_a9 R]
        have dl : td_div (A.1 80) (td_c (A.1 80) σ) (11 + l) = σ (11 + l) := by
          rw [dk _ (by omega) (by omega) (by omega) (by omega) (by omega) (by omega) (by omega) (by omega)]
          unfold td_b td_lgs
          rw [e9, td_set_n (by omega), td_set_n (by omega), td_swm_k (by omega) (by omega) (by omega), td_trn_k (by omega) (by omega), td_a_k R (by omega) (by omega) (by omega) (by omega) (by omega)]
        have nO : ∀ t, 0 ≤ t → t ≤ σ 9 → (tb_nr (A.1 80) (td_div (A.1 80) (td_c (A.1 80) σ)) l t ↔ tb_nr (A.1 80) σ l t) := by
          intro t t0 t1
          unfold tb_nr
          rw [dk _ (by omega) (by omega) (by omega) (by omega) (by omega) (by omega) (by omega) (by omega), dk _ (by omega) (by omega) (by omega) (by omega) (by omega) (by omega) (by omega) (by omega), lg.2 _ (by omega) (by omega), lg.2 _ (by omega) (by omega)]
        unfold td_nr
        rw [d9, dl, show σ 9 + 1 - 1 = σ 9 by omega]
        exact ⟨o1, fun t t0 t1 => (nO t (by omega) t1).mpr (o2 t t0 t1), fun q => by rw [nO _ (by omega) (by omega)]; exact o3 q⟩
      · intro Ac fc Gc
        rw [e80] at Gc
        refine k Ac (fb.trans (fc.mono rfl rfl rfl)) Gc ?_
        intro t t0 t1
        rw [fc.1 10 t rfl rfl]
        rw [td_day_k R (by omega) (by omega) (by omega) (by omega) (by omega) (by omega) (by omega) (by omega) (by omega) (by omega), td_day_k R (by omega) (by omega) (by omega) (by omega) (by omega) (by omega) (by omega) (by omega) (by omega) (by omega)]
        exact lb t t0 t1
    have v3 := Ga.v3
    rw [e80] at v3
    refine qx61_132 ⟨Ga.b, ?_⟩
    rw [g76_3 Ga, e80, sa.1, c9, Int.tmod_eq_emod_of_nonneg (by omega), sa.2.2.2.2.2.2.2.2.2]
    have nd : ¬ (td_c (A.1 80) σ 9 % A.1 80 3 = 0 ∧ td_c (A.1 80) σ 8 < A.1 80 4) → ∀ j2 : Int, tb_E X 61 179 [tb_r 4, tb_i j1, tb_i j2] [] Aa (tb_Rv 61 Kv) := by
      intro n j2
      refine last Aa fa' la ?_ j2
      rw [show td_div (A.1 80) (td_c (A.1 80) σ) = td_c (A.1 80) σ from if_neg n]
      exact Ga
    refine ⟨fun q => by omega, fun _ => ⟨by omega, fun q => nd (fun n => q (by rw [← c9]; exact n.1)) _, fun q => ⟨Ga.b, ?_⟩⟩⟩
    rw [g76_4 Ga, e80]
    refine ⟨fun q1 => nd (fun n => by omega) _, fun q1 => ?_⟩
    refine sp100 Ga ?_
    intro Ab fb Gb
    rw [e80] at Gb
    refine last Ab (fa'.trans (fb.mono rfl rfl rfl)) ?_ ?_ _
    · intro t t0 t1
      rw [fb.1 10 t rfl rfl]
      exact la t t0 t1
    · rw [show td_div (A.1 80) (td_c (A.1 80) σ) = td_set (td_sn0 (A.1 80) (td_c (A.1 80) σ)) 5 (tb_w (td_c (A.1 80) σ 5 + 1)) from if_pos ⟨by rw [c9]; exact q, q1⟩]
      exact Gb
  refine g92 G6 z6.1.1 z6.1.2 z6.2.1.1 z6.2.1.2 (fun q => ⟨fun q' => absurd q' (by decide), fun _ => ?_⟩) (fun q => ⟨fun _ => ?_, fun q' => absurd rfl q'⟩)
  · rw [e80] at q
    refine rest (tb_upI A6 5 4 0) (f6.upI rfl) (fun t t0 t1 => l6 t t0 t1) ?_ _ _
    rw [td_wds_t q]
    exact G6.uHung (by rw [td_b9 R h9]; omega)
  · rw [e80] at q
    refine rest _ f6 l6 ?_ _ _
    rw [td_wds_f q]
    exact G6
end TBDAY4
