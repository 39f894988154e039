/-! MOVES 1: ways, their codes, what is kept of them -/
section TEMOV
theorem te_sum_up {g h : Int → Int} {n f : Int} (f0 : 0 ≤ f) (f1 : f < n) (e : ∀ i, 0 ≤ i → i < n → i ≠ f → h i = g i) : tb_sum h n = tb_sum g n - g f + h f := by
  have key : tb_sum h n = tb_sum g n + (if f < n then h f - g f else 0) := by
    refine tb_indN (P := fun m => tb_sum h m = tb_sum g m + (if f < m then h f - g f else 0)) (N := n) ?_ ?_ n (by omega) (by omega)
    · rw [tb_sum_0, tb_sum_0, if_neg (by omega)]
      rfl
    · intro i i0 i1 ih
      rw [tb_sum_s i0, tb_sum_s i0, ih]
      by_cases c : i = f
      · rw [c, if_neg (by omega), if_pos (by omega)]
        omega
      · rw [e i i0 i1 c]
        by_cases d : f < i
        · rw [if_pos d, if_pos (by omega)]
          omega
        · rw [if_neg d, if_neg (by omega)]
          omega
  rw [key, if_pos f1]
  omega
/-- ways agree where families are there -/
def te_ag (r s u w : Int → Int) : Prop := ∀ f, 0 ≤ f → f < r 114 → s (27 + f) = 0 → u f = w f
theorem te_ag.lean {r s u w : Int → Int} (h : te_ag r s u w) (c : 0 ≤ r 114) {o m : Int} : tb_lean r s u o m = tb_lean r s w o m := by
  unfold tb_lean
  rw [tb_sum_congr (f := tb_lnF r s u o m) (g := tb_lnF r s w o m) c (fun i i0 i1 => ?_)]
  unfold tb_lnF
  by_cases t : s (27 + i) = 0
  · rw [if_pos t, if_pos t, h i i0 i1 t]
  · rw [if_neg t, if_neg t]
theorem te_ag.load {r s u w : Int → Int} (h : te_ag r s u w) (c : 0 ≤ r 114) {x : Int} : tb_load r s u x = tb_load r s w x := by
  unfold tb_load
  rw [tb_sum_congr (f := fun f => if s (27 + f) = 0 ∧ u f = x then r (61 + f) else 0) (g := fun f => if s (27 + f) = 0 ∧ w f = x then r (61 + f) else 0) c (fun i i0 i1 => ?_)]
  show (if s (27 + i) = 0 ∧ u i = x then r (61 + i) else 0) = (if s (27 + i) = 0 ∧ w i = x then r (61 + i) else 0)
  by_cases t : s (27 + i) = 0
  · rw [h i i0 i1 t]
  · rw [if_neg (fun q => t q.1), if_neg (fun q => t q.1)]
/-- how many move -/
def te_mv (r s w : Int → Int) : Int := tb_sum (fun f => if s (27 + f) = 0 ∧ w f ≠ s (31 + f) then 1 else 0) (r 114)
theorem te_ag.mv {r s u w : Int → Int} (h : te_ag r s u w) (c : 0 ≤ r 114) : te_mv r s u = te_mv r s w := by
  unfold te_mv
  refine tb_sum_congr c (fun i i0 i1 => ?_)
  by_cases t : s (27 + i) = 0
  · rw [h i i0 i1 t]
  · rw [if_neg (fun q => t q.1), if_neg (fun q => t q.1)]
def te_off (r s w : Int → Int) : Int := tc_ab (tb_lean r s w 9 (r 0)) + tc_ab (tb_lean r s w 17 (r 1))
/-- nobody moves to a scute that is gone or that it overloads -/
def te_OK (r s w : Int → Int) : Prop := ∀ f, 0 ≤ f → f < r 114 → s (27 + f) = 0 → w f ≠ s (31 + f) → s (35 + w f) = 0 ∧ tb_load r s w (w f) ≤ r (25 + w f)
theorem te_ag.OK {r s u w : Int → Int} (h : te_ag r s u w) (c : 0 ≤ r 114) (k : te_OK r s w) : te_OK r s u := by
  intro f f0 f1 t ne
  rw [h.load c, h f f0 f1 t]
  rw [h f f0 f1 t] at ne
  exact k f f0 f1 t ne
theorem te_ag.symm {r s u w : Int → Int} (h : te_ag r s u w) : te_ag r s w u := fun f f0 f1 t => (h f f0 f1 t).symm
def te_Pr (r : Int → Int) (j : Int) : Prop := 0 ≤ j ∧ j < r 112
def te_Pc (r s : Int → Int) (j : Int) : Prop := (0 ≤ j ∧ j < r 112) ∧ s (35 + j) = 0
/-- whom P lets stand where -/
def te_va (r s : Int → Int) (P : Int → Prop) (w : Int → Int) : Prop := ∀ f, 0 ≤ f → f < r 114 → s (27 + f) = 0 → P (w f)
def te_dg (r s w : Int → Int) (f : Int) : Int := if f < r 114 ∧ s (27 + f) = 0 then w f else 0
def te_cd (r s w : Int → Int) : Int := 512 * te_dg r s w 0 + 64 * te_dg r s w 1 + 8 * te_dg r s w 2 + te_dg r s w 3
section
variable {r s : Int → Int} {P : Int → Prop}
theorem te_dgb (c : r 112 ≤ 8) (hP : ∀ j, P j → te_Pr r j) {w : Int → Int} (h : te_va r s P w) {f : Int} (f0 : 0 ≤ f) : 0 ≤ te_dg r s w f ∧ te_dg r s w f ≤ 7 := by
  unfold te_dg
  by_cases t : f < r 114 ∧ s (27 + f) = 0
  · rw [if_pos t]
    have := hP _ (h f f0 t.1 t.2)
    unfold te_Pr at this
    omega
  · rw [if_neg t]
    omega
theorem te_cdb (c : r 112 ≤ 8) (hP : ∀ j, P j → te_Pr r j) {w : Int → Int} (h : te_va r s P w) : 0 ≤ te_cd r s w ∧ te_cd r s w < 4096 := by
  have a0 := te_dgb c hP h (f := 0) (by decide)
  have a1 := te_dgb c hP h (f := 1) (by decide)
  have a2 := te_dgb c hP h (f := 2) (by decide)
  have a3 := te_dgb c hP h (f := 3) (by decide)
  unfold te_cd
  omega
/-- like codes: they agree -/
theorem te_cd_ag (c : r 112 ≤ 8) (c4 : r 114 ≤ 4) (hP : ∀ j, P j → te_Pr r j) {u w : Int → Int} (hu : te_va r s P u) (hw : te_va r s P w) (e : te_cd r s u = te_cd r s w) : te_ag r s u w := by
  have a0 := te_dgb c hP hu (f := 0) (by decide)
  have a1 := te_dgb c hP hu (f := 1) (by decide)
  have a2 := te_dgb c hP hu (f := 2) (by decide)
  have a3 := te_dgb c hP hu (f := 3) (by decide)
  have b0 := te_dgb c hP hw (f := 0) (by decide)
  have b1 := te_dgb c hP hw (f := 1) (by decide)
  have b2 := te_dgb c hP hw (f := 2) (by decide)
  have b3 := te_dgb c hP hw (f := 3) (by decide)
  unfold te_cd at e
  have d : te_dg r s u 0 = te_dg r s w 0 ∧ te_dg r s u 1 = te_dg r s w 1 ∧ te_dg r s u 2 = te_dg r s w 2 ∧ te_dg r s u 3 = te_dg r s w 3 := by omega
  intro f f0 f1 t
  have g : te_dg r s u f = te_dg r s w f := by
    have : f = 0 ∨ f = 1 ∨ f = 2 ∨ f = 3 := by omega
    rcases this with rfl | rfl | rfl | rfl
    · exact d.1
    · exact d.2.1
    · exact d.2.2.1
    · exact d.2.2.2
  unfold te_dg at g
  rw [if_pos ⟨f1, t⟩, if_pos ⟨f1, t⟩] at g
  exact g
/-- t is the next behind j -/
def te_nx (P : Int → Prop) (j t : Int) : Prop := j < t ∧ P t ∧ ∀ e, j < e → e < t → ¬ P e
def te_no (P : Int → Prop) (j : Int) : Prop := ∀ e, j < e → ¬ P e
/-- w' is the way behind w: family f goes on, those behind it begin anew -/
def te_adv (r s : Int → Int) (P : Int → Prop) (w w' : Int → Int) (f : Int) : Prop := (0 ≤ f ∧ f < 4) ∧ (f < r 114 ∧ s (27 + f) = 0) ∧ te_nx P (w f) (w' f) ∧ (∀ g, 0 ≤ g → g < f → w' g = w g) ∧ ∀ g, f < g → g < 4 → g < r 114 → s (27 + g) = 0 → te_no P (w g) ∧ te_nx P (-1) (w' g)
theorem te_dg_t {w : Int → Int} {f : Int} (t : f < r 114 ∧ s (27 + f) = 0) : te_dg r s w f = w f := if_pos t
theorem te_dg_n {w : Int → Int} {f : Int} (t : ¬ (f < r 114 ∧ s (27 + f) = 0)) : te_dg r s w f = 0 := if_neg t
theorem te_adv.va {w w' : Int → Int} {f : Int} (h : te_adv r s P w w' f) (hw : te_va r s P w) (c4 : r 114 ≤ 4) : te_va r s P w' := by
  obtain ⟨f4, t, n, lo, hi⟩ := h
  intro g g0 g1 tg
  by_cases c : g < f
  · rw [lo g g0 c]
    exact hw g g0 g1 tg
  · by_cases d : g = f
    · rw [d]; exact n.2.1
    · exact (hi g (by omega) (by omega) g1 tg).2.2.1
theorem te_adv.cd {w w' : Int → Int} {f : Int} (h : te_adv r s P w w' f) (hw : te_va r s P w) (c : r 112 ≤ 8) (c4 : r 114 ≤ 4) (hP : ∀ j, P j → te_Pr r j) : te_cd r s w < te_cd r s w' ∧ ∀ u, te_va r s P u → te_cd r s w < te_cd r s u → te_cd r s w' ≤ te_cd r s u := by
  have hw' := h.va hw c4
  have fl : ∀ g, 0 ≤ g → g < f → te_dg r s w' g = te_dg r s w g := by
    intro g g0 g1
    by_cases t : g < r 114 ∧ s (27 + g) = 0
    · rw [te_dg_t t, te_dg_t t, h.2.2.2.1 g g0 g1]
    · rw [te_dg_n t, te_dg_n t]
  have fe : te_dg r s w f < te_dg r s w' f := by
    rw [te_dg_t h.2.1, te_dg_t h.2.1]
    exact h.2.2.1.1
  have fg : ∀ u, te_va r s P u → te_dg r s u f ≤ te_dg r s w f ∨ te_dg r s w' f ≤ te_dg r s u f := by
    intro u hu
    rw [te_dg_t h.2.1, te_dg_t h.2.1, te_dg_t h.2.1]
    by_cases q : u f ≤ w f
    · exact Or.inl q
    · refine Or.inr ?_
      by_cases z : w' f ≤ u f
      · exact z
      · exact absurd (hu f h.1.1 h.2.1.1 h.2.1.2) (h.2.2.1.2.2 (u f) (by omega) (by omega))
  have fh : ∀ u, te_va r s P u → ∀ g, f < g → g < 4 → te_dg r s u g ≤ te_dg r s w g ∧ te_dg r s w' g ≤ te_dg r s u g := by
    intro u hu g g0 g1
    by_cases t : g < r 114 ∧ s (27 + g) = 0
    · rw [te_dg_t t, te_dg_t t, te_dg_t t]
      have k := h.2.2.2.2 g g0 g1 t.1 t.2
      have p := hu g (by have := h.1; omega) t.1 t.2
      have b := hP _ p
      unfold te_Pr at b
      refine ⟨?_, ?_⟩
      · by_cases z : u g ≤ w g
        · exact z
        · exact absurd p (k.1 (u g) (by omega))
      · by_cases z : w' g ≤ u g
        · exact z
        · exact absurd p (k.2.2.2 (u g) (by omega) (by omega))
    · rw [te_dg_n t, te_dg_n t, te_dg_n t]
      omega
  have key : ∀ u, te_va r s P u → te_cd r s w < te_cd r s w' ∧ (te_cd r s w < te_cd r s u → te_cd r s w' ≤ te_cd r s u) := by
    intro u hu
    have a0 := te_dgb c hP hu (f := 0) (by decide)
    have a1 := te_dgb c hP hu (f := 1) (by decide)
    have a2 := te_dgb c hP hu (f := 2) (by decide)
    have a3 := te_dgb c hP hu (f := 3) (by decide)
    have b0 := te_dgb c hP hw (f := 0) (by decide)
    have b1 := te_dgb c hP hw (f := 1) (by decide)
    have b2 := te_dgb c hP hw (f := 2) (by decide)
    have b3 := te_dgb c hP hw (f := 3) (by decide)
    have d0 := te_dgb c hP hw' (f := 0) (by decide)
    have d1 := te_dgb c hP hw' (f := 1) (by decide)
    have d2 := te_dgb c hP hw' (f := 2) (by decide)
    have d3 := te_dgb c hP hw' (f := 3) (by decide)
    have m := fg u hu
    have n := fh u hu
    have q := h.1
    unfold te_cd
    have : f = 0 ∨ f = 1 ∨ f = 2 ∨ f = 3 := by omega
    rcases this with rfl | rfl | rfl | rfl
    · have n1 := n 1 (by decide) (by decide)
      have n2 := n 2 (by decide) (by decide)
      have n3 := n 3 (by decide) (by decide)
      omega
    · have l0 := fl 0 (by decide) (by decide)
      have n2 := n 2 (by decide) (by decide)
      have n3 := n 3 (by decide) (by decide)
      omega
    · have l0 := fl 0 (by decide) (by decide)
      have l1 := fl 1 (by decide) (by decide)
      have n3 := n 3 (by decide) (by decide)
      omega
    · have l0 := fl 0 (by decide) (by decide)
      have l1 := fl 1 (by decide) (by decide)
      have l2 := fl 2 (by decide) (by decide)
      omega
  exact ⟨(key w hw).1, fun u hu => (key u hu).2⟩
/-- no way behind w -/
theorem te_last {w : Int → Int} (h : ∀ g, 0 ≤ g → g < r 114 → s (27 + g) = 0 → te_no P (w g)) (hw : te_va r s P w) (c : r 112 ≤ 8) (c4 : r 114 ≤ 4) (hP : ∀ j, P j → te_Pr r j) : ∀ u, te_va r s P u → te_cd r s u ≤ te_cd r s w := by
  intro u hu
  have d : ∀ g, 0 ≤ g → te_dg r s u g ≤ te_dg r s w g := by
    intro g g0
    by_cases t : g < r 114 ∧ s (27 + g) = 0
    · rw [te_dg_t t, te_dg_t t]
      by_cases z : u g ≤ w g
      · exact z
      · exact absurd (hu g g0 t.1 t.2) (h g g0 t.1 t.2 (u g) (by omega))
    · rw [te_dg_n t, te_dg_n t]
      omega
  have e0 := d 0 (by decide)
  have e1 := d 1 (by decide)
  have e2 := d 2 (by decide)
  have e3 := d 3 (by decide)
  unfold te_cd
  omega
/-- the first way -/
theorem te_first {w : Int → Int} (h : ∀ g, 0 ≤ g → g < r 114 → s (27 + g) = 0 → te_nx P (-1) (w g)) (hP : ∀ j, P j → te_Pr r j) : te_va r s P w ∧ ∀ u, te_va r s P u → te_cd r s w ≤ te_cd r s u := by
  refine ⟨fun g g0 g1 t => (h g g0 g1 t).2.1, fun u hu => ?_⟩
  have d : ∀ g, 0 ≤ g → te_dg r s w g ≤ te_dg r s u g := by
    intro g g0
    by_cases t : g < r 114 ∧ s (27 + g) = 0
    · rw [te_dg_t t, te_dg_t t]
      have p := hu g g0 t.1 t.2
      have b := hP _ p
      unfold te_Pr at b
      by_cases z : w g ≤ u g
      · exact z
      · exact absurd p ((h g g0 t.1 t.2).2.2 (u g) (by omega) (by omega))
    · rw [te_dg_n t, te_dg_n t]
      omega
  have e0 := d 0 (by decide)
  have e1 := d 1 (by decide)
  have e2 := d 2 (by decide)
  have e3 := d 3 (by decide)
  unfold te_cd
  omega
end
end TEMOV
