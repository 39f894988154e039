/-! MOVES 4: the best way, the helm's ways -/
section TEMOV4
variable {r s : Int → Int}
def te_fe (r s : Int → Int) (a b : Int) (u : Int → Int) : Prop := te_va r s (te_Pr r) u ∧ tc_ab (tb_lean r s u 9 (r 0)) ≤ a ∧ tc_ab (tb_lean r s u 17 (r 1)) ≤ b ∧ te_OK r s u
def te_lx (r s u z : Int → Int) : Prop := te_mv r s z < te_mv r s u ∨ (te_mv r s z = te_mv r s u ∧ (te_off r s z < te_off r s u ∨ (te_off r s z = te_off r s u ∧ te_cd r s z ≤ te_cd r s u)))
def te_bst (r s : Int → Int) (a b c n o : Int) (z : Int → Int) : Prop := (n = -2 ∧ ∀ u, te_fe r s a b u → ¬ te_cd r s u < c) ∨ (te_fe r s a b z ∧ te_cd r s z < c ∧ n = te_mv r s z ∧ o = te_off r s z ∧ ∀ u, te_fe r s a b u → te_cd r s u < c → te_lx r s u z)
/-- what the walk has to say of its next stop -/
def te_D (r s w : Int → Int) (c' : Int) : Prop := te_cd r s w < c' ∧ ∀ u, te_va r s (te_Pr r) u → te_OK r s u → te_cd r s u < c' → te_cd r s u ≤ te_cd r s w
theorem te_mv0 {w : Int → Int} (c4 : 0 ≤ r 114) : 0 ≤ te_mv r s w := by
  have := tb_sum_ge (f := fun f => if s (27 + f) = 0 ∧ w f ≠ s (31 + f) then (1 : Int) else 0) (c := 0) c4 (fun i _ _ => by
    show 0 ≤ (if s (27 + i) = 0 ∧ w i ≠ s (31 + i) then (1 : Int) else 0)
    ((repeat' split) <;> omega))
  unfold te_mv
  omega
theorem te_ag.off {u w : Int → Int} (h : te_ag r s u w) (c : 0 ≤ r 114) : te_off r s u = te_off r s w := by
  unfold te_off
  rw [h.lean c, h.lean c]
theorem te_ag.fe {u w : Int → Int} {a b : Int} (h : te_ag r s u w) (c : 0 ≤ r 114) (hu : te_va r s (te_Pr r) u) (k : te_fe r s a b w) : te_fe r s a b u := by
  refine ⟨hu, ?_, ?_, h.OK c k.2.2.2⟩
  · rw [h.lean c]; exact k.2.1
  · rw [h.lean c]; exact k.2.2.1
theorem te_bst.keep {a b c c' n o : Int} {z w : Int → Int} (h : te_bst r s a b c n o z) (c2 : r 112 ≤ 8) (c4 : 0 ≤ r 114 ∧ r 114 ≤ 4) (hw : te_va r s (te_Pr r) w) (hc : c = te_cd r s w) (D : te_D r s w c') (nb : te_fe r s a b w → n ≠ -2 ∧ (n < te_mv r s w ∨ (n = te_mv r s w ∧ o ≤ te_off r s w))) : te_bst r s a b c' n o z := by
  subst hc
  rcases h with h | h
  · refine Or.inl ⟨h.1, fun u hu q => ?_⟩
    have l := D.2 u hu.1 hu.2.2.2 q
    by_cases e : te_cd r s u = te_cd r s w
    · have g := te_cd_ag c2 c4.2 (fun _ p => p) hu.1 hw e
      exact (nb (g.symm.fe c4.1 hw hu)).1 h.1
    · exact h.2 u hu (by omega)
  · refine Or.inr ⟨h.1, by have := h.2.1; have := D.1; omega, h.2.2.1, h.2.2.2.1, fun u hu q => ?_⟩
    have l := D.2 u hu.1 hu.2.2.2 q
    by_cases e : te_cd r s u = te_cd r s w
    · have g := te_cd_ag c2 c4.2 (fun _ p => p) hu.1 hw e
      have k := (nb (g.symm.fe c4.1 hw hu)).2
      rw [h.2.2.1, h.2.2.2.1] at k
      unfold te_lx
      rw [g.mv c4.1, g.off c4.1, e]
      rcases k with k | k
      · exact Or.inl k
      · refine Or.inr ⟨k.1, ?_⟩
        by_cases y : te_off r s z < te_off r s w
        · exact Or.inl y
        · exact Or.inr ⟨by omega, by have := h.2.1; omega⟩
    · exact h.2.2.2.2 u hu (by omega)
theorem te_bst.new {a b c c' n o : Int} {z w : Int → Int} (h : te_bst r s a b c n o z) (c2 : r 112 ≤ 8) (c4 : 0 ≤ r 114 ∧ r 114 ≤ 4) (hc : c = te_cd r s w) (D : te_D r s w c') (fw : te_fe r s a b w) (bt : n = -2 ∨ te_mv r s w < n ∨ (te_mv r s w = n ∧ te_off r s w < o)) : te_bst r s a b c' (te_mv r s w) (te_off r s w) w := by
  subst hc
  refine Or.inr ⟨fw, D.1, rfl, rfl, fun u hu q => ?_⟩
  have l := D.2 u hu.1 hu.2.2.2 q
  by_cases e : te_cd r s u = te_cd r s w
  · have g := te_cd_ag c2 c4.2 (fun _ p => p) hu.1 fw.1 e
    unfold te_lx
    rw [g.mv c4.1, g.off c4.1, e]
    exact Or.inr ⟨rfl, Or.inr ⟨rfl, Int.le_refl _⟩⟩
  · rcases h with h | h
    · exact absurd (show te_cd r s u < te_cd r s w by omega) (h.2 u hu)
    · have k := h.2.2.2.2 u hu (by omega)
      have m := te_mv0 (s := s) (w := z) c4.1
      rw [h.2.2.1, h.2.2.2.1] at bt
      unfold te_lx at k ⊢
      omega
theorem te_bst.u {a b n o n' o' : Int} {z z' : Int → Int} (h : te_bst r s a b 4096 n o z) (h' : te_bst r s a b 4096 n' o' z') (c2 : r 112 ≤ 8) (c4 : 0 ≤ r 114 ∧ r 114 ≤ 4) : n = n' ∧ (n ≠ -2 → te_ag r s z z') := by
  rcases h with h | h <;> rcases h' with h' | h'
  · exact ⟨h.1.trans h'.1.symm, fun q => absurd h.1 q⟩
  · exact absurd h'.2.1 (h.2 z' h'.1)
  · exact absurd h.2.1 (h'.2 z h.1)
  · have k := h.2.2.2.2 z' h'.1 h'.2.1
    have k' := h'.2.2.2.2 z h.1 h.2.1
    unfold te_lx at k k'
    have e : te_mv r s z = te_mv r s z' ∧ te_cd r s z = te_cd r s z' := by omega
    exact ⟨by rw [h.2.2.1, h'.2.2.1]; exact e.1, fun _ => te_cd_ag c2 c4.2 (fun _ p => p) h.1.1 h'.1.1 e.2⟩
theorem te_bst.nn {a b c n o : Int} {z : Int → Int} (h : te_bst r s a b c n o z) (c4 : 0 ≤ r 114) : n = -2 ∨ 0 ≤ n := by
  rcases h with h | h
  · exact Or.inl h.1
  · exact Or.inr (by rw [h.2.2.1]; exact te_mv0 c4)
/-- who may stand so stands on scutes that aren't gone -/
theorem te_OK.c {u : Int → Int} (h : te_OK r s u) (hu : te_va r s (te_Pr r) u) (ho : ∀ f, 0 ≤ f → f < r 114 → s (27 + f) = 0 → s (35 + s (31 + f)) = 0) : te_va r s (te_Pc r s) u := by
  intro f f0 f1 t
  refine ⟨hu f f0 f1 t, ?_⟩
  by_cases e : u f = s (31 + f)
  · rw [e]; exact ho f f0 f1 t
  · exact (h f f0 f1 t e).1
theorem te_Pc_Pr : ∀ j, te_Pc r s j → te_Pr r j := fun _ p => p.1
theorem te_va.w {w : Int → Int} (h : te_va r s (te_Pc r s) w) : te_va r s (te_Pr r) w := fun f f0 f1 t => (h f f0 f1 t).1
theorem te_adv.D {w w' : Int → Int} {f : Int} (h : te_adv r s (te_Pc r s) w w' f) (hw : te_va r s (te_Pc r s) w) (c2 : r 112 ≤ 8) (c4 : r 114 ≤ 4) (ho : ∀ f, 0 ≤ f → f < r 114 → s (27 + f) = 0 → s (35 + s (31 + f)) = 0) : te_D r s w (te_cd r s w') := by
  have k := h.cd hw c2 c4 te_Pc_Pr
  refine ⟨k.1, fun u hu ok q => ?_⟩
  have := k.2 u (ok.c hu ho)
  omega
theorem te_adv.D' {w w' : Int → Int} {f : Int} (h : te_adv r s (te_Pr r) w w' f) (hw : te_va r s (te_Pr r) w) (c2 : r 112 ≤ 8) (c4 : r 114 ≤ 4) : te_D r s w (te_cd r s w') := by
  have k := h.cd hw c2 c4 (fun _ p => p)
  refine ⟨k.1, fun u hu _ q => ?_⟩
  have := k.2 u hu
  omega
theorem te_lastD {w : Int → Int} (h : ∀ g, 0 ≤ g → g < r 114 → s (27 + g) = 0 → te_no (te_Pc r s) (w g)) (hw : te_va r s (te_Pc r s) w) (c2 : r 112 ≤ 8) (c4 : r 114 ≤ 4) (ho : ∀ f, 0 ≤ f → f < r 114 → s (27 + f) = 0 → s (35 + s (31 + f)) = 0) : te_D r s w 4096 :=
  ⟨(te_cdb c2 te_Pc_Pr hw).2, fun u hu ok _ => te_last h hw c2 c4 te_Pc_Pr u (ok.c hu ho)⟩
theorem te_lastD' {w : Int → Int} (h : ∀ g, 0 ≤ g → g < r 114 → s (27 + g) = 0 → te_no (te_Pr r) (w g)) (hw : te_va r s (te_Pr r) w) (c2 : r 112 ≤ 8) (c4 : r 114 ≤ 4) : te_D r s w 4096 :=
  ⟨(te_cdb c2 (fun _ p => p) hw).2, fun u hu _ _ => te_last h hw c2 c4 (fun _ p => p) u hu⟩
theorem te_bst.z {a b : Int} {w z : Int → Int} (o : Int) (f : ∀ u, te_va r s (te_Pr r) u → te_OK r s u → te_cd r s w ≤ te_cd r s u) : te_bst r s a b (te_cd r s w) (-2) o z := Or.inl ⟨rfl, fun u hu q => by
  have := f u hu.1 hu.2.2.2
  omega⟩
/-- the helm -/
def te_sd (r s w : Int → Int) : Int := if -(r 2) < tb_lean r s w 9 (r 0) then (if r 2 ≤ tb_lean r s w 9 (r 0) then 4 else 2) else 1
def te_hs (r s : Int → Int) (c h : Int) : Prop := (0 ≤ h ∧ h ≤ 7) ∧ ∀ x, x = 1 ∨ x = 2 ∨ x = 4 → (tb_and h x ≠ 0 ↔ ∃ u, te_va r s (te_Pr r) u ∧ te_OK r s u ∧ te_sd r s u = x ∧ te_cd r s u < c)
theorem te_or7F : ∀ h : Fin 8, ∀ x : Fin 3, (0 ≤ tb_or h.val (2 ^ x.val) ∧ tb_or h.val (2 ^ x.val) ≤ 7) ∧ ∀ y : Fin 3, (tb_and (tb_or h.val (2 ^ x.val)) (2 ^ y.val) ≠ 0 ↔ tb_and h.val (2 ^ y.val) ≠ 0 ∨ y = x) := by decide +kernel
theorem te_p3 {x : Int} (h : x = 1 ∨ x = 2 ∨ x = 4) : ∃ k : Fin 3, x = 2 ^ k.val := by
  rcases h with rfl | rfl | rfl
  · exact ⟨0, by decide⟩
  · exact ⟨1, by decide⟩
  · exact ⟨2, by decide⟩
theorem te_p3i : ∀ j k : Fin 3, ((2 : Int) ^ j.val = 2 ^ k.val) ↔ j = k := by decide
theorem te_or7 {h x : Int} (h0 : 0 ≤ h) (h1 : h ≤ 7) (hx : x = 1 ∨ x = 2 ∨ x = 4) : (0 ≤ tb_or h x ∧ tb_or h x ≤ 7) ∧ ∀ y, y = 1 ∨ y = 2 ∨ y = 4 → (tb_and (tb_or h x) y ≠ 0 ↔ tb_and h y ≠ 0 ∨ y = x) := by
  obtain ⟨n, rfl⟩ := Int.eq_ofNat_of_zero_le h0
  obtain ⟨k, rfl⟩ := te_p3 hx
  have t := te_or7F ⟨n, by omega⟩ k
  refine ⟨t.1, fun y hy => ?_⟩
  obtain ⟨j, rfl⟩ := te_p3 hy
  rw [te_p3i]
  exact t.2 j
theorem te_eq7F : ∀ h k : Fin 8, (tb_and h.val 1 ≠ 0 ↔ tb_and k.val 1 ≠ 0) → (tb_and h.val 2 ≠ 0 ↔ tb_and k.val 2 ≠ 0) → (tb_and h.val 4 ≠ 0 ↔ tb_and k.val 4 ≠ 0) → h = k := by decide +kernel
theorem te_hs.u {h h' : Int} (k : te_hs r s 4096 h) (k' : te_hs r s 4096 h') : h = h' := by
  obtain ⟨n, rfl⟩ := Int.eq_ofNat_of_zero_le k.1.1
  obtain ⟨m, rfl⟩ := Int.eq_ofNat_of_zero_le k'.1.1
  have a := k.1.2
  have b := k'.1.2
  have e := te_eq7F ⟨n, by omega⟩ ⟨m, by omega⟩ ((k.2 1 (Or.inl rfl)).trans (k'.2 1 (Or.inl rfl)).symm) ((k.2 2 (Or.inr (Or.inl rfl))).trans (k'.2 2 (Or.inr (Or.inl rfl))).symm) ((k.2 4 (Or.inr (Or.inr rfl))).trans (k'.2 4 (Or.inr (Or.inr rfl))).symm)
  have e2 : n = m := congrArg Fin.val e
  rw [e2]
theorem te_sd3 {w : Int → Int} : te_sd r s w = 1 ∨ te_sd r s w = 2 ∨ te_sd r s w = 4 := by
  unfold te_sd
  ((repeat' split) <;> omega)
theorem te_ag.sd {u w : Int → Int} (h : te_ag r s u w) (c : 0 ≤ r 114) : te_sd r s u = te_sd r s w := by
  unfold te_sd
  rw [h.lean c]
theorem te_hs.keep {c c' h : Int} {w : Int → Int} (k : te_hs r s c h) (c2 : r 112 ≤ 8) (c4 : 0 ≤ r 114 ∧ r 114 ≤ 4) (hw : te_va r s (te_Pr r) w) (hc : c = te_cd r s w) (D : te_D r s w c') (nb : te_OK r s w → tb_and h (te_sd r s w) ≠ 0) : te_hs r s c' h := by
  subst hc
  refine ⟨k.1, fun x hx => ⟨fun q => ?_, fun q => ?_⟩⟩
  · obtain ⟨u, a, b, d, e⟩ := (k.2 x hx).mp q
    have := D.1
    exact ⟨u, a, b, d, by omega⟩
  · obtain ⟨u, a, b, d, e⟩ := q
    have l := D.2 u a b e
    by_cases z : te_cd r s u = te_cd r s w
    · have g := te_cd_ag c2 c4.2 (fun _ p => p) a hw z
      rw [← d, g.sd c4.1]
      exact nb (g.symm.OK c4.1 b)
    · exact (k.2 x hx).mpr ⟨u, a, b, d, by omega⟩
theorem te_hs.new {c c' h : Int} {w : Int → Int} (k : te_hs r s c h) (c2 : r 112 ≤ 8) (c4 : 0 ≤ r 114 ∧ r 114 ≤ 4) (hw : te_va r s (te_Pr r) w) (hc : c = te_cd r s w) (D : te_D r s w c') (ok : te_OK r s w) : te_hs r s c' (tb_or h (te_sd r s w)) := by
  subst hc
  have o := te_or7 k.1.1 k.1.2 (te_sd3 (r := r) (s := s) (w := w))
  refine ⟨o.1, fun x hx => ?_⟩
  rw [o.2 x hx]
  refine ⟨fun q => ?_, fun q => ?_⟩
  · rcases q with q | q
    · obtain ⟨u, a, b, d, e⟩ := (k.2 x hx).mp q
      have := D.1
      exact ⟨u, a, b, d, by omega⟩
    · exact ⟨w, hw, ok, q.symm, D.1⟩
  · obtain ⟨u, a, b, d, e⟩ := q
    have l := D.2 u a b e
    by_cases z : te_cd r s u = te_cd r s w
    · have g := te_cd_ag c2 c4.2 (fun _ p => p) a hw z
      exact Or.inr (by rw [← d, g.sd c4.1])
    · exact Or.inl ((k.2 x hx).mpr ⟨u, a, b, d, by omega⟩)
theorem te_and7 {x : Int} (hx : x = 1 ∨ x = 2 ∨ x = 4) : tb_and 7 x ≠ 0 := by
  rcases hx with rfl | rfl | rfl <;> decide
theorem te_hs.full {c : Int} (k : te_hs r s c 7) (h : c ≤ 4096) : te_hs r s 4096 7 := by
  refine ⟨k.1, fun x hx => ⟨fun q => ?_, fun _ => te_and7 hx⟩⟩
  obtain ⟨u, a, b, d, e⟩ := (k.2 x hx).mp q
  exact ⟨u, a, b, d, by omega⟩
theorem te_and0 {x : Int} (hx : x = 1 ∨ x = 2 ∨ x = 4) : tb_and 0 x = 0 := by
  rcases hx with rfl | rfl | rfl <;> decide
theorem te_hs.z {w : Int → Int} (f : ∀ u, te_va r s (te_Pr r) u → te_OK r s u → te_cd r s w ≤ te_cd r s u) : te_hs r s (te_cd r s w) 0 := by
  refine ⟨by decide, fun x hx => ⟨fun q => absurd (te_and0 hx) q, fun q => ?_⟩⟩
  obtain ⟨u, a, b, d, e⟩ := q
  have := f u a b
  omega
end TEMOV4
