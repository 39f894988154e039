/-! BEAST 6: the lines and the state, carried over -/
section TEKEEP
variable {A D : tb_H} {r r' s : Int → Int}
theorem te_bnd2 : ∀ p ∈ tb_bnd, (110 ≤ p.1 ∧ p.1 ≤ 118) ∧ 0 ≤ p.2.1 ∧ p.2.1 ≤ 110 := by decide +kernel
theorem te_scr2 : ∀ p ∈ tb_scr, (110 ≤ p.1 ∧ p.1 ≤ 118) ∧ 0 ≤ p.2 ∧ p.2 ≤ 110 := by decide +kernel
theorem te_cnt8 (bb : tb_bb r) {z : Int} (z0 : 110 ≤ z) (z1 : z ≤ 118) : 0 ≤ r z ∧ r z ≤ 8 := by
  have h := te_bbc bb (z := z - 110) (by omega) (by omega)
  rw [show 110 + (z - 110) = z by omega] at h
  obtain ⟨y, hy⟩ := Int.eq_ofNat_of_zero_le (a := z - 110) (by omega)
  have q := te_rooms ⟨y, by omega⟩
  rw [hy] at h
  exact ⟨h.1, Int.le_trans h.2 q⟩
theorem te_bbr (e : ∀ k, 0 ≤ k → k < 362 → r' k = r k) (bb : tb_bb r) : tb_bb r' := by
  refine te_bbm (fun z z0 z1 => ?_) (fun p hp l l0 l1 => ?_) (fun p hp l l0 l1 => ?_)
  · rw [e (110 + z) (by omega) (by omega)]
    exact te_bbc bb z0 z1
  · have t := te_bnd2 p hp
    rw [e p.1 (by omega) (by omega)] at l1
    have c := te_cnt8 bb t.1.1 t.1.2
    rw [e (p.2.1 + l) (by omega) (by omega)]
    exact bb.2.2.2.2.2.2.2.2.2.1 p hp l l0 l1
  · have t := te_scr2 p hp
    rw [e p.1 (by omega) (by omega)] at l1
    have c := te_cnt8 bb t.1.1 t.1.2
    rw [e (p.2 + l) (by omega) (by omega), e 112 (by decide) (by decide)]
    exact bb.2.2.2.2.2.2.2.2.2.2 p hp l l0 l1
theorem te_rbr (e : ∀ k, 0 ≤ k → k < 362 → r' k = r k) (bb : tb_bb r) {c c' : Nat → Int → Int} {b : Nat} (e1 : c' (b + 1) = c (b + 1)) (e2 : c' (b + 2) = c (b + 2)) (h : tb_rb c b r) : tb_rb c' b r' := by
  refine ⟨fun z z0 z1 => ?_, fun p hp l l0 l1 => ?_⟩
  · rw [e1, e (110 + z) (by omega) (by omega)]
    exact h.1 z z0 z1
  · have t := te_tab1 p hp
    rw [e p.2.1 (by omega) (by omega)] at l1
    have c8 := te_cnt8 bb t.1 t.2.1
    have tr := t.2.2.2.2.2
    have rm : 0 ≤ te_room (p.2.1 - 110) := by
      obtain ⟨y, hy⟩ := Int.eq_ofNat_of_zero_le (a := p.2.1 - 110) (by omega)
      rw [hy]
      exact te_roomz ⟨y, by omega⟩
    rw [e2, e (p.2.2 + l) (by omega) (by omega)]
    exact h.2 p hp l l0 l1
/-- the state's two forms agree -/
theorem te_rs0 {u v w c : Int} (hs : ∀ k, 0 ≤ k → k < 453 → s k = te_s0 r k) (hu : r 6 = u) (hv : r 7 = v) (hw : r 8 = w) (h5 : ∀ k : Int, 0 ≤ k → k < 12 → D.1 5 k = if k = 2 then v * 10 + u else if k = 3 then w else 0) (h6 : ∀ k : Int, 0 ≤ k → k < 6 → D.1 6 k = 0) (h7 : ∀ k : Int, 0 ≤ k → k < 4 → D.1 7 k = 0) (h8 : ∀ f : Int, 0 ≤ f → f < 4 → D.1 8 f = r (57 + f)) (h9 : ∀ k : Int, 0 ≤ k → k < 8 → D.1 9 k = 0) (h10 : D.1 10 0 = v * 10 + u) : tc_rs D.1 5 s := by
  have zz : ∀ k, 0 ≤ k → k < 453 → ((k ≠ 0 ∧ k ≠ 1 ∧ k ≠ 2) ∧ ¬ (31 ≤ k ∧ k < 35) ∧ k ≠ 51 ∧ k ≠ 52) → s k = 0 := fun k k0 k1 h => (hs k k0 k1).trans (te_s0z h)
  have s0 : s 0 = u := (hs 0 (by decide) (by decide)).trans hu
  have s1 : s 1 = v := (hs 1 (by decide) (by decide)).trans hv
  have s2 : s 2 = w := (hs 2 (by decide) (by decide)).trans hw
  have s51 : s 51 = u := (hs 51 (by decide) (by decide)).trans hu
  have s52 : s 52 = v := (hs 52 (by decide) (by decide)).trans hv
  have z9 : s 9 = 0 := zz 9 (by decide) (by decide) (by decide)
  have y : ∀ k : Int, 0 ≤ k → k < 12 → k ≠ 2 → k ≠ 3 → D.1 5 k = 0 := fun k k0 k1 k2 k3 => by rw [h5 k k0 k1, if_neg k2, if_neg k3]
  refine ⟨⟨?_, ?_, ?_, ?_, ?_, ?_, ?_, ?_, ?_, ?_⟩, ⟨?_, fun h a b => ?_⟩, ⟨?_, fun k a b => ?_⟩, fun h a b => ?_, fun f a b => ?_, fun f a b => ?_, fun k a b => ?_, fun t a b => ?_⟩
  · rw [y 0 (by decide) (by decide) (by decide) (by decide), z9]
  · rw [y 1 (by decide) (by decide) (by decide) (by decide), zz 10 (by decide) (by decide) (by decide)]
  · rw [h5 2 (by decide) (by decide), if_pos rfl, s1, s0]
  · rw [h5 3 (by decide) (by decide), if_neg (by decide), if_pos rfl, s2]
  · rw [y 4 (by decide) (by decide) (by decide) (by decide), zz 3 (by decide) (by decide) (by decide)]
  · rw [y 5 (by decide) (by decide) (by decide) (by decide), zz 4 (by decide) (by decide) (by decide)]
  · rw [y 6 (by decide) (by decide) (by decide) (by decide), zz 5 (by decide) (by decide) (by decide)]
  · rw [y 7 (by decide) (by decide) (by decide) (by decide), zz 6 (by decide) (by decide) (by decide)]
  · rw [y 8 (by decide) (by decide) (by decide) (by decide), zz 7 (by decide) (by decide) (by decide)]
  · rw [y 9 (by decide) (by decide) (by decide) (by decide), zz 8 (by decide) (by decide) (by decide)]
  · rw [y 10 (by decide) (by decide) (by decide) (by decide)]; decide
  · rw [y 10 (by decide) (by decide) (by decide) (by decide), zz (21 + h) (by omega) (by omega) (by omega)]
    exact te_bt00 a (by omega)
  · rw [y 11 (by decide) (by decide) (by decide) (by decide)]; decide
  · rw [y 11 (by decide) (by decide) (by decide) (by decide), zz (35 + k) (by omega) (by omega) (by omega)]
    exact te_bt00 a (by omega)
  · exact (h6 h a b).trans (zz (15 + h) (by omega) (by omega) (by omega)).symm
  · exact (h7 f a b).trans (zz (27 + f) (by omega) (by omega) (by omega)).symm
  · exact (h8 f a b).trans ((hs (31 + f) (by omega) (by omega)).trans (te_s0f a b)).symm
  · exact (h9 k a b).trans (zz (43 + k) (by omega) (by omega) (by omega)).symm
  · have t0 : t = 0 := by omega
    subst t0
    have e1 : s (51 + 2 * 0) = u := s51
    have e2 : s (51 + 2 * 0 + 1) = v := s52
    rw [e1, e2]
    exact h10
end TEKEEP
