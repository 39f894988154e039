/-! TYING DOWN 1: the least rope of each scute is a least set of ropes -/
section TEROPE
def te_aoF : Bool := (List.range 64).all fun x => (List.range 64).all fun y =>
  (decide (tb_and x y = 0) == (List.range 6).all fun h => decide (tb_bt x h = 1 → tb_bt y h = 0)) && (List.range 6).all fun h => decide (tb_bt (tb_or x y) h = if tb_bt x h = 1 ∨ tb_bt y h = 1 then 1 else 0)
theorem te_aoF_t : te_aoF = true := by decide +kernel
theorem te_ao {x y : Int} (x0 : 0 ≤ x) (x1 : x < 64) (y0 : 0 ≤ y) (y1 : y < 64) : (tb_and x y = 0 ↔ ∀ h, 0 ≤ h → h < 6 → tb_bt x h = 1 → tb_bt y h = 0) ∧ ∀ h, 0 ≤ h → h < 6 → (tb_bt (tb_or x y) h = 1 ↔ tb_bt x h = 1 ∨ tb_bt y h = 1) := by
  obtain ⟨a, rfl⟩ := Int.eq_ofNat_of_zero_le x0
  obtain ⟨b, rfl⟩ := Int.eq_ofNat_of_zero_le y0
  have t := List.all_eq_true.mp te_aoF_t a (by simp; omega)
  have t := List.all_eq_true.mp t b (by simp; omega)
  simp only [Bool.and_eq_true, beq_iff_eq] at t
  obtain ⟨t3, t2⟩ := t
  refine ⟨?_, fun h h0 h1 => ?_⟩
  · constructor
    · intro q h h0 h1
      obtain ⟨c, rfl⟩ := Int.eq_ofNat_of_zero_le h0
      rw [show decide (tb_and (a : Int) (b : Int) = 0) = true from decide_eq_true q] at t3
      have u := List.all_eq_true.mp t3.symm c (by simp; omega)
      rwa [decide_eq_true_eq] at u
    · intro q
      have : (List.range 6).all (fun h => decide (tb_bt (a : Int) (h : Int) = 1 → tb_bt (b : Int) (h : Int) = 0)) = true := by
        rw [List.all_eq_true]
        intro c hc
        rw [decide_eq_true_eq]
        exact q c (by omega) (by simp at hc; omega)
      rw [this] at t3
      exact of_decide_eq_true t3
  · obtain ⟨c, rfl⟩ := Int.eq_ofNat_of_zero_le h0
    have u := List.all_eq_true.mp t2 c (by simp; omega)
    rw [decide_eq_true_eq] at u
    rw [u]
    by_cases e : tb_bt (a : Int) (c : Int) = 1 ∨ tb_bt (b : Int) (c : Int) = 1
    · rw [if_pos e]; exact ⟨fun _ => e, fun _ => rfl⟩
    · rw [if_neg e]; exact ⟨fun q => absurd q (by decide), fun q => absurd q e⟩
variable {r s w : Int → Int}
/-- a house there on x -/
def te_on (r s : Int → Int) (x h : Int) : Prop := s (15 + h) = 0 ∧ r (33 + h) = x
theorem te_hm_n {x : Int} : ∀ n : Nat, (∀ h : Int, 0 ≤ h → h < n → (0 ≤ r (45 + h) ∧ r (45 + h) ≤ 60)) → ((td_hm r s x n = -2 ∧ ∀ h : Int, 0 ≤ h → h < n → ¬ te_on r s x h) ∨ ((0 ≤ td_hm r s x n ∧ td_hm r s x n ≤ 60) ∧ (∃ h : Int, (0 ≤ h ∧ h < n) ∧ te_on r s x h ∧ td_rp r s h = td_hm r s x n) ∧ ∀ h : Int, 0 ≤ h → h < n → te_on r s x h → td_hm r s x n ≤ td_rp r s h)) := by
  intro n
  induction n with
  | zero => exact fun _ => Or.inl ⟨rfl, fun h a b => absurd b (by omega)⟩
  | succ n ih =>
    intro hb
    have ih := ih (fun h a b => hb h a (by omega))
    have bn := hb n (by omega) (by omega)
    have rb : 0 ≤ td_rp r s n ∧ td_rp r s n ≤ 60 := by
      unfold td_rp
      split <;> omega
    have e : td_hm r s x (n + 1) = if s (15 + n) = 0 ∧ r (33 + n) = x then td_lm (td_hm r s x n) (td_rp r s n) else td_hm r s x n := rfl
    rw [e]
    by_cases c : s (15 + n) = 0 ∧ r (33 + n) = x
    · rw [if_pos c]
      unfold td_lm
      rcases ih with ih | ih
      · rw [if_pos (by omega)]
        refine Or.inr ⟨rb, ⟨n, by omega, c, rfl⟩, fun h a b o => ?_⟩
        by_cases z : h = n
        · rw [z]; omega
        · exact absurd o (ih.2 h a (by omega))
      · obtain ⟨h', h01, ho, he⟩ := ih.2.1
        rw [if_neg (by omega)]
        by_cases l : td_hm r s x n ≤ td_rp r s n
        · rw [if_pos l]
          refine Or.inr ⟨ih.1, ⟨h', by omega, ho, he⟩, fun h a b o => ?_⟩
          by_cases z : h = n
          · rw [z]; exact l
          · exact ih.2.2 h a (by omega) o
        · rw [if_neg l]
          refine Or.inr ⟨rb, ⟨n, by omega, c, rfl⟩, fun h a b o => ?_⟩
          by_cases z : h = n
          · rw [z]; omega
          · have := ih.2.2 h a (by omega) o
            omega
    · rw [if_neg c]
      rcases ih with ih | ih
      · refine Or.inl ⟨ih.1, fun h a b o => ?_⟩
        by_cases z : h = n
        · rw [z] at o; exact c o
        · exact ih.2 h a (by omega) o
      · obtain ⟨h', h01, ho, he⟩ := ih.2.1
        refine Or.inr ⟨ih.1, ⟨h', by omega, ho, he⟩, fun h a b o => ?_⟩
        by_cases z : h = n
        · rw [z] at o; exact absurd o c
        · exact ih.2.2 h a (by omega) o
/-- whether one of the families ahead of i stands on x -/
def te_um (r s w : Int → Int) (x : Int) : Nat → Int
  | 0 => 0
  | n + 1 => if (n : Int) < r 114 ∧ s (27 + n) = 0 ∧ w n = x then 1 else te_um r s w x n
theorem te_um01 (x : Int) : ∀ n : Nat, te_um r s w x n = 0 ∨ te_um r s w x n = 1
  | 0 => Or.inl rfl
  | n + 1 => by
    have := te_um01 x n
    unfold te_um
    split
    · exact Or.inr rfl
    · exact this
theorem te_um_i (x : Int) : ∀ n : Nat, te_um r s w x n = 1 ↔ ∃ f : Int, (0 ≤ f ∧ f < n) ∧ f < r 114 ∧ s (27 + f) = 0 ∧ w f = x
  | 0 => ⟨fun q => absurd (show (0 : Int) = 1 from q) (by decide), fun ⟨f, a, _⟩ => by omega⟩
  | n + 1 => by
    have ih := te_um_i x n
    show (if (n : Int) < r 114 ∧ s (27 + n) = 0 ∧ w n = x then 1 else te_um r s w x n) = 1 ↔ _
    by_cases c : (n : Int) < r 114 ∧ s (27 + n) = 0 ∧ w n = x
    · rw [if_pos c]
      exact ⟨fun _ => ⟨n, by omega, c⟩, fun _ => rfl⟩
    · rw [if_neg c, ih]
      refine ⟨fun ⟨f, a, b⟩ => ⟨f, by omega, b⟩, fun ⟨f, a, b⟩ => ?_⟩
      by_cases z : f = n
      · rw [z] at b; exact absurd b c
      · exact ⟨f, by omega, b⟩
def te_ms (r s w : Int → Int) (n : Nat) (x : Int) : Int := if te_um r s w x n = 1 then td_hm r s x (r 113).toNat else 0
/-- what the class counts for a way -/
def te_M (r s w : Int → Int) (v : Int) : Prop := (v = -2 ∧ ∃ f, (0 ≤ f ∧ f < r 114) ∧ s (27 + f) = 0 ∧ td_hm r s (w f) (r 113).toNat < 0) ∨ ((∀ f, 0 ≤ f → f < r 114 → s (27 + f) = 0 → 0 ≤ td_hm r s (w f) (r 113).toNat) ∧ v = tb_sum (te_ms r s w 4) 8)
/-- sets of ropes that do -/
def te_Fs (r s w : Int → Int) (t : Int) : Prop := (0 ≤ t ∧ t < 64) ∧ (∀ h, 0 ≤ h → h < 6 → tb_bt t h = 1 → h < r 113 ∧ s (15 + h) = 0 ∧ s (21 + h) = 0) ∧ ∀ f, 0 ≤ f → f < r 114 → s (27 + f) = 0 → ∃ h, (0 ≤ h ∧ h < r 113) ∧ te_on r s (w f) h ∧ (s (21 + h) = 1 ∨ tb_bt t h = 1)
def te_T (r s w : Int → Int) (v : Int) : Prop := (v = -2 ∧ ∀ t, ¬ te_Fs r s w t) ∨ (0 ≤ v ∧ (∃ t, te_Fs r s w t ∧ tb_sum (tb_tis r t) (r 113) = v) ∧ ∀ t, te_Fs r s w t → v ≤ tb_sum (tb_tis r t) (r 113))
theorem te_T.u {v v' : Int} (h : te_T r s w v) (h' : te_T r s w v') : v = v' := by
  rcases h with h | h <;> rcases h' with h' | h'
  · exact h.1.trans h'.1.symm
  · obtain ⟨t, a, _⟩ := h'.2.1
    exact absurd a (h.2 t)
  · obtain ⟨t, a, _⟩ := h.2.1
    exact absurd a (h'.2 t)
  · obtain ⟨t, a, b⟩ := h.2.1
    obtain ⟨t', a', b'⟩ := h'.2.1
    have := h.2.2 t' a'
    have := h'.2.2 t a
    omega
theorem te_tis0 (hr : ∀ h, 0 ≤ h → h < r 113 → 0 ≤ r (45 + h) ∧ r (45 + h) ≤ 60) (t : Int) {h : Int} (h0 : 0 ≤ h) (h1 : h < r 113) : 0 ≤ tb_tis r t h := by
  have := hr h h0 h1
  unfold tb_tis
  split <;> omega
/-- a sum with one term that may not be 0 -/
theorem te_one {f : Int → Int} {N a : Int} (a0 : 0 ≤ a) (a1 : a < N) (h : ∀ i, 0 ≤ i → i < N → i ≠ a → f i = 0) : tb_sum f N = f a := by
  have e := te_sum_up (g := fun _ => 0) (h := f) a0 a1 h
  have z := tb_sum_le (f := fun _ => 0) (c := 0) (n := N) (by omega) (fun _ _ _ => Int.le_refl _)
  have z' := tb_sum_ge (f := fun _ => 0) (c := 0) (n := N) (by omega) (fun _ _ _ => Int.le_refl _)
  have e' : tb_sum f N = tb_sum (fun _ => 0) N - 0 + f a := e
  omega
theorem te_sum_mono {f g : Int → Int} {N : Int} (n0 : 0 ≤ N) (h : ∀ i, 0 ≤ i → i < N → f i ≤ g i) : tb_sum f N ≤ tb_sum g N := by
  refine tb_indN (P := fun m => tb_sum f m ≤ tb_sum g m) (N := N) (Int.le_refl _) ?_ N n0 (Int.le_refl _)
  intro i i0 i1 ih
  rw [tb_sum_s i0, tb_sum_s i0]
  have := h i i0 i1
  omega
theorem te_low (c3 : 0 ≤ r 113 ∧ r 113 ≤ 6) (hr : ∀ h, 0 ≤ h → h < r 113 → 0 ≤ r (45 + h) ∧ r (45 + h) ≤ 60) (ho : ∀ h, 0 ≤ h → h < r 113 → 0 ≤ r (33 + h) ∧ r (33 + h) < 8) {t : Int} (F : te_Fs r s w t) (n4 : r 114 ≤ 4) : tb_sum (te_ms r s w 4) 8 ≤ tb_sum (tb_tis r t) (r 113) := by
  have sw := td_sum_swap (f := fun x h => if te_um r s w x 4 = 1 ∧ r (33 + h) = x then tb_tis r t h else 0) (a := 8) (b := r 113) (by decide) c3.1
  have a1 : tb_sum (te_ms r s w 4) 8 ≤ tb_sum (fun x => tb_sum (fun h => if te_um r s w x 4 = 1 ∧ r (33 + h) = x then tb_tis r t h else 0) (r 113)) 8 := by
    refine te_sum_mono (by decide) (fun x x0 x1 => ?_)
    have nn := tb_sum_ge (f := fun h => if te_um r s w x 4 = 1 ∧ r (33 + h) = x then tb_tis r t h else 0) (c := 0) (n := r 113) c3.1 (fun h h0 h1 => by
      have := te_tis0 hr t h0 h1
      show 0 ≤ (if te_um r s w x 4 = 1 ∧ r (33 + h) = x then tb_tis r t h else 0)
      split <;> omega)
    unfold te_ms
    by_cases u : te_um r s w x 4 = 1
    · rw [if_pos u]
      obtain ⟨f, f01, f2, f3, f4⟩ := (te_um_i x 4).mp u
      obtain ⟨h, h01, on, tb⟩ := F.2.2 f f01.1 f2 f3
      rw [f4] at on
      have hm := te_hm_n (r := r) (s := s) (x := x) (r 113).toNat (fun h a b => hr h a (by omega))
      rcases hm with hm | hm
      · exact absurd on (hm.2 h h01.1 (by omega))
      · have le := hm.2.2 h h01.1 (by omega) on
        by_cases ti : s (21 + h) = 0
        · have b1 : tb_bt t h = 1 := by
            rcases tb with q | q
            · omega
            · exact q
          have up := te_sum_up (g := fun h' => if h' = h then 0 else if te_um r s w x 4 = 1 ∧ r (33 + h') = x then tb_tis r t h' else 0) (h := fun h' => if te_um r s w x 4 = 1 ∧ r (33 + h') = x then tb_tis r t h' else 0) h01.1 h01.2 (fun i _ _ ne => (if_neg ne).symm)
          have nn' := tb_sum_ge (f := fun h' => if h' = h then 0 else if te_um r s w x 4 = 1 ∧ r (33 + h') = x then tb_tis r t h' else 0) (c := 0) (n := r 113) c3.1 (fun h' h0 h1 => by
            have := te_tis0 hr t h0 h1
            show 0 ≤ (if h' = h then 0 else if te_um r s w x 4 = 1 ∧ r (33 + h') = x then tb_tis r t h' else 0)
            ((repeat' split) <;> omega))
          rw [if_pos rfl, if_pos ⟨u, on.2⟩] at up
          have e1 : td_rp r s h = r (45 + h) := if_pos ti
          have e2 : tb_tis r t h = r (45 + h) := if_pos b1
          show td_hm r s x (r 113).toNat ≤ tb_sum (fun h => if te_um r s w x 4 = 1 ∧ r (33 + h) = x then tb_tis r t h else 0) (r 113)
          omega
        · have e1 : td_rp r s h = 0 := if_neg ti
          show td_hm r s x (r 113).toNat ≤ tb_sum (fun h => if te_um r s w x 4 = 1 ∧ r (33 + h) = x then tb_tis r t h else 0) (r 113)
          omega
    · rw [if_neg u]
      show (0 : Int) ≤ tb_sum (fun h => if te_um r s w x 4 = 1 ∧ r (33 + h) = x then tb_tis r t h else 0) (r 113)
      omega
  have a2 : tb_sum (fun h => tb_sum (fun x => if te_um r s w x 4 = 1 ∧ r (33 + h) = x then tb_tis r t h else 0) 8) (r 113) ≤ tb_sum (tb_tis r t) (r 113) := by
    refine te_sum_mono c3.1 (fun h h0 h1 => ?_)
    have o := ho h h0 h1
    have t0 := te_tis0 hr t h0 h1
    have e := te_one (f := fun x => if te_um r s w x 4 = 1 ∧ r (33 + h) = x then tb_tis r t h else 0) (N := 8) o.1 o.2 (fun i _ _ ne => if_neg (fun q => ne q.2.symm))
    show tb_sum (fun x => if te_um r s w x 4 = 1 ∧ r (33 + h) = x then tb_tis r t h else 0) 8 ≤ tb_tis r t h
    rw [e]
    show (if te_um r s w (r (33 + h)) 4 = 1 ∧ r (33 + h) = r (33 + h) then tb_tis r t h else 0) ≤ tb_tis r t h
    split <;> omega
  omega
theorem te_bt0 {h : Int} (h0 : 0 ≤ h) (h1 : h < 6) : tb_bt 0 h = 0 := (td_255 h0 (by omega)).2
theorem te_upp (c3 : 0 ≤ r 113 ∧ r 113 ≤ 6) (hr : ∀ h, 0 ≤ h → h < r 113 → 0 ≤ r (45 + h) ∧ r (45 + h) ≤ 60) (hs : ∀ h, 0 ≤ h → h < 6 → 0 ≤ s (21 + h) ∧ s (21 + h) ≤ 1) (hw : ∀ f, 0 ≤ f → f < r 114 → s (27 + f) = 0 → 0 ≤ w f ∧ w f < 8) (n4 : r 114 ≤ 4) (all : ∀ f, 0 ≤ f → f < r 114 → s (27 + f) = 0 → 0 ≤ td_hm r s (w f) (r 113).toNat) : ∃ t, te_Fs r s w t ∧ tb_sum (tb_tis r t) (r 113) = tb_sum (te_ms r s w 4) 8 := by
  have key : ∀ N, 0 ≤ N → N ≤ 8 → ∃ t, (0 ≤ t ∧ t < 64) ∧ (∀ h, 0 ≤ h → h < 6 → tb_bt t h = 1 → (h < r 113 ∧ s (15 + h) = 0 ∧ s (21 + h) = 0) ∧ r (33 + h) < N) ∧ (∀ x, 0 ≤ x → x < N → te_um r s w x 4 = 1 → ∃ h, (0 ≤ h ∧ h < r 113) ∧ te_on r s x h ∧ (s (21 + h) = 1 ∨ tb_bt t h = 1)) ∧ tb_sum (tb_tis r t) (r 113) = tb_sum (te_ms r s w 4) N := by
    refine tb_indN (P := fun N => ∃ t, (0 ≤ t ∧ t < 64) ∧ (∀ h, 0 ≤ h → h < 6 → tb_bt t h = 1 → (h < r 113 ∧ s (15 + h) = 0 ∧ s (21 + h) = 0) ∧ r (33 + h) < N) ∧ (∀ x, 0 ≤ x → x < N → te_um r s w x 4 = 1 → ∃ h, (0 ≤ h ∧ h < r 113) ∧ te_on r s x h ∧ (s (21 + h) = 1 ∨ tb_bt t h = 1)) ∧ tb_sum (tb_tis r t) (r 113) = tb_sum (te_ms r s w 4) N) (N := 8) ?_ ?_
    · refine ⟨0, by decide, fun h h0 h1 q => ?_, fun x x0 x1 => absurd x1 (by omega), ?_⟩
      · rw [te_bt0 h0 h1] at q
        exact absurd q (by decide)
      · have e := tb_sum_congr (f := tb_tis r 0) (g := fun _ => 0) (n := r 113) c3.1 (fun i i0 i1 => by
          unfold tb_tis
          rw [te_bt0 i0 (by omega), if_neg (by decide)])
        have z := tb_sum_le (f := fun _ => 0) (c := 0) (n := r 113) c3.1 (fun _ _ _ => Int.le_refl _)
        have z' := tb_sum_ge (f := fun _ => 0) (c := 0) (n := r 113) c3.1 (fun _ _ _ => Int.le_refl _)
        rw [e, tb_sum_0]
        omega
    · intro x x0 x1 ⟨t, t64, th, tu, ts⟩
      rw [tb_sum_s x0]
      by_cases u : te_um r s w x 4 = 1
      · obtain ⟨f, f01, f2, f3, f4⟩ := (te_um_i x 4).mp u
        have h0' := all f f01.1 f2 f3
        rw [f4] at h0'
        have em : te_ms r s w 4 x = td_hm r s x (r 113).toNat := if_pos u
        rw [em]
        rcases te_hm_n (r := r) (s := s) (x := x) (r 113).toNat (fun h a b => hr h a (by omega)) with hm | hm
        · omega
        · obtain ⟨h, h01, on, he⟩ := hm.2.1
          by_cases ti : s (21 + h) = 0
          · have e1 : td_rp r s h = r (45 + h) := if_pos ti
            have sf := tb_setf t64.1 t64.2 h01.1 (by omega)
            have nb : tb_bt t h = 0 := by
              rcases tb_bt01 t h with z | z
              · exact z
              · have := (th h h01.1 (by omega) z).2
                have := on.2
                omega
            refine ⟨tb_or t (tb_shl 1 h), sf.1, fun g g0 g1 q => ?_, fun y y0 y1 uy => ?_, ?_⟩
            · by_cases e : g = h
              · rw [e]
                exact ⟨⟨by omega, on.1, ti⟩, by rw [on.2]; omega⟩
              · rw [sf.2.2 g g0 g1, if_neg e] at q
                have := th g g0 g1 q
                exact ⟨this.1, by omega⟩
            · by_cases e : y = x
              · rw [e]
                refine ⟨h, by omega, on, Or.inr ?_⟩
                rw [sf.2.2 h h01.1 (by omega), if_pos rfl]
              · obtain ⟨g, g01, o, z⟩ := tu y y0 (by omega) uy
                refine ⟨g, g01, o, ?_⟩
                rcases z with z | z
                · exact Or.inl z
                · refine Or.inr ?_
                  rw [sf.2.2 g g01.1 (by omega)]
                  split
                  · rfl
                  · exact z
            · have up := te_sum_up (g := tb_tis r t) (h := tb_tis r (tb_or t (tb_shl 1 h))) (n := r 113) (f := h) h01.1 (by omega) (fun i i0 i1 ne => by
                unfold tb_tis
                rw [sf.2.2 i i0 (by omega), if_neg ne])
              have e2 : tb_tis r t h = 0 := by
                unfold tb_tis
                rw [nb, if_neg (by decide)]
              have e3 : tb_tis r (tb_or t (tb_shl 1 h)) h = r (45 + h) := by
                unfold tb_tis
                rw [sf.2.2 h h01.1 (by omega), if_pos rfl, if_pos rfl]
              omega
          · have e1 : td_rp r s h = 0 := if_neg ti
            have s1 := hs h h01.1 (by omega)
            refine ⟨t, t64, fun g g0 g1 q => ?_, fun y y0 y1 uy => ?_, by omega⟩
            · have := th g g0 g1 q
              exact ⟨this.1, by omega⟩
            · by_cases e : y = x
              · rw [e]
                exact ⟨h, by omega, on, Or.inl (by omega)⟩
              · exact tu y y0 (by omega) uy
      · have em : te_ms r s w 4 x = 0 := if_neg u
        rw [em]
        refine ⟨t, t64, fun g g0 g1 q => ?_, fun y y0 y1 uy => ?_, by omega⟩
        · have := th g g0 g1 q
          exact ⟨this.1, by omega⟩
        · by_cases e : y = x
          · rw [e] at uy; exact absurd uy u
          · exact tu y y0 (by omega) uy
  obtain ⟨t, t64, th, tu, ts⟩ := key 8 (by decide) (by decide)
  refine ⟨t, ⟨t64, fun h h0 h1 q => (th h h0 h1 q).1, fun f f0 f1 f2 => ?_⟩, ts⟩
  have b := hw f f0 f1 f2
  exact tu (w f) b.1 b.2 ((te_um_i (w f) 4).mpr ⟨f, by omega, f1, f2, rfl⟩)
theorem te_M.t {v : Int} (h : te_M r s w v) (c3 : 0 ≤ r 113 ∧ r 113 ≤ 6) (hr : ∀ h, 0 ≤ h → h < r 113 → 0 ≤ r (45 + h) ∧ r (45 + h) ≤ 60) (ho : ∀ h, 0 ≤ h → h < r 113 → 0 ≤ r (33 + h) ∧ r (33 + h) < 8) (hs : ∀ h, 0 ≤ h → h < 6 → 0 ≤ s (21 + h) ∧ s (21 + h) ≤ 1) (hw : ∀ f, 0 ≤ f → f < r 114 → s (27 + f) = 0 → 0 ≤ w f ∧ w f < 8) (n4 : r 114 ≤ 4) : te_T r s w v := by
  rcases h with h | h
  · refine Or.inl ⟨h.1, fun t F => ?_⟩
    obtain ⟨f, f01, f2, f3⟩ := h.2
    obtain ⟨g, g01, on, _⟩ := F.2.2 f f01.1 f01.2 f2
    rcases te_hm_n (r := r) (s := s) (x := w f) (r 113).toNat (fun h a b => hr h a (by omega)) with hm | hm
    · exact hm.2 g g01.1 (by omega) on
    · omega
  · obtain ⟨t, F, e⟩ := te_upp c3 hr hs hw n4 h.1
    have p0 := tb_sum_ge (f := tb_tis r t) (c := 0) (n := r 113) c3.1 (fun i i0 i1 => te_tis0 hr t i0 i1)
    refine Or.inr ⟨by rw [h.2, ← e]; omega, ⟨t, F, by rw [e, h.2]⟩, fun t' F' => ?_⟩
    rw [h.2]
    exact te_low c3 hr ho F' n4
end TEROPE
