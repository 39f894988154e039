/-! THE PICTURE of the small machine's state in the real one -/
def tb_ok (v : tb_V) : Prop :=
  match v with
  | .inl x => tb_inI x
  | .inr (.inl x) => tb_inL x
  | _ => True
def tb_cv (ρ : Nat → Nat) (fm : Value) (v : tb_V) : Value :=
  match v with
  | .inl x => .int (Int32.ofInt x)
  | .inr (.inl x) => .long (Int64.ofInt x)
  | .inr (.inr (.inl k)) => .ref (ρ k)
  | .inr (.inr (.inr k)) => if k = 2 then fm else .null
def tb_blank (v : tb_V) : Bool :=
  match v with
  | .inr (.inr (.inr k)) => k == 1
  | _ => false
def tb_al (ρ : Nat → Nat) (fm : Value) : Nat → List tb_V → List (Nat × Value)
  | _, [] => []
  | i, v :: l => if tb_blank v then tb_al ρ fm (i + 1) l else (i, tb_cv ρ fm v) :: tb_al ρ fm (i + 1) l
theorem tb_al_mem {ρ : Nat → Nat} {fm : Value} : ∀ (l : List tb_V) (n i : Nat) (w : Value), (i, w) ∈ tb_al ρ fm n l ↔ ∃ v, n ≤ i ∧ l[i - n]? = some v ∧ tb_blank v = false ∧ w = tb_cv ρ fm v
  | [], n, i, w => by simp [tb_al]
  | u :: l, n, i, w => by
    have ih := tb_al_mem (ρ := ρ) (fm := fm) l (n + 1) i w
    have key : (∃ v, n ≤ i ∧ (u :: l)[i - n]? = some v ∧ tb_blank v = false ∧ w = tb_cv ρ fm v) ↔ (i = n ∧ tb_blank u = false ∧ w = tb_cv ρ fm u) ∨ (∃ v, n + 1 ≤ i ∧ l[i - (n + 1)]? = some v ∧ tb_blank v = false ∧ w = tb_cv ρ fm v) := by
      constructor
      · rintro ⟨v, h1, h2, h3, h4⟩
        by_cases hi : i = n
        · left
          subst hi
          rw [Nat.sub_self, List.getElem?_cons_zero] at h2
          cases h2
          exact ⟨rfl, h3, h4⟩
        · right
          refine ⟨v, by omega, ?_, h3, h4⟩
          rw [show i - n = (i - (n + 1)) + 1 by omega, List.getElem?_cons_succ] at h2
          exact h2
      · rintro (⟨rfl, h2, h3⟩ | ⟨v, h1, h2, h3, h4⟩)
        · exact ⟨u, Nat.le_refl _, by rw [Nat.sub_self, List.getElem?_cons_zero], h2, h3⟩
        · refine ⟨v, by omega, ?_, h3, h4⟩
          rw [show i - n = (i - (n + 1)) + 1 by omega, List.getElem?_cons_succ]
          exact h2
    rw [key]
    by_cases hu : tb_blank u = true
    · rw [tb_al, if_pos hu, ih]
      constructor
      · exact Or.inr
      · rintro (⟨-, h, -⟩ | h)
        · rw [hu] at h; cases h
        · exact h
    · rw [tb_al, if_neg hu, List.mem_cons, ih]
      have hu' : tb_blank u = false := by simpa using hu
      constructor
      · rintro (h | h)
        · cases h; exact Or.inl ⟨rfl, hu', rfl⟩
        · exact Or.inr h
      · rintro (⟨rfl, -, rfl⟩ | h)
        · exact Or.inl rfl
        · exact Or.inr h
theorem tb_has_mono {ls : Array Slot} {nL : Nat} {l l' : List (Nat × Value)} (h : lv_has ls nL l) (hl : ∀ q ∈ l', q ∈ l) : lv_has ls nL l' := ⟨h.1, h.2.1, fun q hq => h.2.2 q (hl q hq)⟩
theorem tb_cat_cv {ρ : Nat → Nat} {fm : Value} (hfm : fm = .null ∨ ∃ a, fm = .ref a) (v : tb_V) : (tb_cv ρ fm v).category = tb_cat v := by
  rcases v with x | x | k | k
  · rfl
  · rfl
  · rfl
  · show (if k = 2 then fm else Value.null).category = 1
    split
    · rcases hfm with rfl | ⟨a, rfl⟩ <;> rfl
    · rfl
theorem tb_cats {ρ : Nat → Nat} {fm : Value} (hfm : fm = .null ∨ ∃ a, fm = .ref a) (l : List tb_V) : ((l.map (tb_cv ρ fm)).map fun v => v.category) = l.map tb_cat := by
  rw [List.map_map]
  exact List.map_congr_left (fun v _ => tb_cat_cv hfm v)
/-- a local that is there -/
theorem tb_lv {ρ : Nat → Nat} {fm : Value} {ls : Array Slot} {nL i : Nat} {lv : List tb_V} {v : tb_V} (h : lv_has ls nL (tb_al ρ fm 0 lv)) (hv : lv[i]? = some v) (hb : tb_blank v = false) : ls[i]? = some (.val (tb_cv ρ fm v)) :=
  h.2.2 (i, tb_cv ρ fm v) ((tb_al_mem lv 0 i _).mpr ⟨v, Nat.zero_le _, by simpa using hv, hb, rfl⟩)
theorem tb_wipe_len (lv : List tb_V) (i : Nat) : (tb_wipe lv i).length = lv.length := by
  unfold tb_wipe
  split
  · rfl
  · split
    · rw [List.length_set]
    · rfl
theorem tb_wipe_get {lv : List tb_V} {i j : Nat} {v : tb_V} (h : (tb_wipe lv i)[j]? = some v) (hb : tb_blank v = false) : lv[j]? = some v ∧ ¬ (j + 1 = i ∧ tb_cat v = 2) := by
  unfold tb_wipe at h
  split at h
  · exact ⟨h, fun q => by omega⟩
  · rename_i k
    split at h
    · rename_i x hx
      by_cases hj : k = j
      · subst hj
        have hl := (List.getElem?_eq_some_iff.mp hx).1
        rw [List.getElem?_set_self hl] at h
        cases h
        simp [tb_blank] at hb
      · rw [List.getElem?_set_ne hj] at h
        exact ⟨h, fun q => hj (by omega)⟩
    · rename_i hn
      refine ⟨h, fun q => ?_⟩
      have hk : k = j := by omega
      subst hk
      obtain ⟨-, hc⟩ := q
      rcases v with x | x | a | a
      · simp [tb_cat] at hc
      · exact hn x h
      · simp [tb_cat] at hc
      · simp [tb_cat] at hc
theorem tb_has_set {ρ : Nat → Nat} {fm : Value} (hfm : fm = .null ∨ ∃ a, fm = .ref a) {ls : Array Slot} {nL i : Nat} {lv lv' : List tb_V} {v : tb_V} (h : lv_has ls nL (tb_al ρ fm 0 lv)) (hn : lv.length = nL) (hs : tb_set lv i v = some lv') :
    ∃ ls', storeLocals ls i (tb_cv ρ fm v) = some ls' ∧ lv_has ls' nL (tb_al ρ fm 0 lv') ∧ lv'.length = nL := by
  have hcat := tb_cat_cv (ρ := ρ) hfm v
  have cv1 : tb_cat v = 1 ∨ ∃ x, v = .inr (.inl x) := by
    rcases v with x | x | a | a
    · exact Or.inl rfl
    · exact Or.inr ⟨x, rfl⟩
    · exact Or.inl rfl
    · exact Or.inl rfl
  rcases cv1 with h1 | ⟨x, rfl⟩
  · have hs' : (if i < lv.length then some (tb_set1 lv i v) else none) = some lv' := by
      rcases v with x | x | a | a
      · exact hs
      · simp [tb_cat] at h1
      · exact hs
      · exact hs
    by_cases hi : i < lv.length
    · rw [if_pos hi] at hs'
      cases hs'
      rw [h1] at hcat
      obtain ⟨ls', q1, q2⟩ := lv_store1 h (v := tb_cv ρ fm v) (i := i) (by omega) hcat
      refine ⟨ls', q1, tb_has_mono q2 ?_, by unfold tb_set1; rw [List.length_set, tb_wipe_len]; exact hn⟩
      rintro ⟨j, w⟩ hq
      obtain ⟨u, -, hu, hb, rfl⟩ := (tb_al_mem _ 0 j w).mp hq
      rw [Nat.sub_zero] at hu
      unfold tb_set1 at hu
      by_cases hj : i = j
      · subst hj
        rw [List.getElem?_set_self (by rw [tb_wipe_len]; exact hi)] at hu
        cases hu
        exact List.mem_cons_self
      · rw [List.getElem?_set_ne hj] at hu
        obtain ⟨h3, h4⟩ := tb_wipe_get hu hb
        refine List.mem_cons_of_mem _ (List.mem_filter.mpr ⟨(tb_al_mem _ 0 j _).mpr ⟨u, Nat.zero_le _, by simpa using h3, hb, rfl⟩, ?_⟩)
        have hc := tb_cat_cv (ρ := ρ) hfm u
        by_cases hji : j + 1 = i
        · have : tb_cat u ≠ 2 := fun q => h4 ⟨hji, q⟩
          simp [hc, this, Ne.symm hj]
        · simp [hji, Ne.symm hj]
    · rw [if_neg hi] at hs'; cases hs'
  · have hs' : (if i + 1 < lv.length then some (tb_set2 lv i (.inr (.inl x))) else none) = some lv' := hs
    by_cases hi : i + 1 < lv.length
    · rw [if_pos hi] at hs'
      cases hs'
      obtain ⟨ls', q1, q2⟩ := lv_store2 h (v := tb_cv ρ fm (.inr (.inl x))) (i := i) (by omega) hcat
      refine ⟨ls', q1, tb_has_mono q2 ?_, by unfold tb_set2; rw [List.length_set, List.length_set, tb_wipe_len]; exact hn⟩
      rintro ⟨j, w⟩ hq
      obtain ⟨u, -, hu, hb, rfl⟩ := (tb_al_mem _ 0 j w).mp hq
      rw [Nat.sub_zero] at hu
      unfold tb_set2 at hu
      by_cases hj : i = j
      · subst hj
        rw [List.getElem?_set_self (by rw [List.length_set, tb_wipe_len]; omega)] at hu
        cases hu
        exact List.mem_cons_self
      · rw [List.getElem?_set_ne hj] at hu
        by_cases hj1 : i + 1 = j
        · subst hj1
          rw [List.getElem?_set_self (by rw [tb_wipe_len]; exact hi)] at hu
          cases hu
          simp [tb_blank] at hb
        · rw [List.getElem?_set_ne hj1] at hu
          obtain ⟨h3, h4⟩ := tb_wipe_get hu hb
          refine List.mem_cons_of_mem _ (List.mem_filter.mpr ⟨(tb_al_mem _ 0 j _).mpr ⟨u, Nat.zero_le _, by simpa using h3, hb, rfl⟩, ?_⟩)
          have hc := tb_cat_cv (ρ := ρ) hfm u
          by_cases hji : j + 1 = i
          · have : tb_cat u ≠ 2 := fun q => h4 ⟨hji, q⟩
            simp [hc, this, Ne.symm hj, Ne.symm hj1]
          · simp [hji, Ne.symm hj, Ne.symm hj1]
    · rw [if_neg hi] at hs'; cases hs'
theorem tb_set_ok {lv lv' : List tb_V} {i : Nat} {v : tb_V} (hs : tb_set lv i v = some lv') (hl : ∀ u ∈ lv, tb_ok u) (hv : tb_ok v) : ∀ u ∈ lv', tb_ok u := by
  have hw : ∀ u ∈ tb_wipe lv i, tb_ok u := by
    unfold tb_wipe
    split
    · exact hl
    · split
      · intro u hu
        rcases List.mem_or_eq_of_mem_set hu with h | rfl
        · exact hl u h
        · trivial
      · exact hl
  have h1 : ∀ u ∈ tb_set1 lv i v, tb_ok u := by
    intro u hu
    rcases List.mem_or_eq_of_mem_set hu with h | rfl
    · exact hw u h
    · exact hv
  have h2 : ∀ u ∈ tb_set2 lv i v, tb_ok u := by
    intro u hu
    rcases List.mem_or_eq_of_mem_set hu with h | rfl
    · rcases List.mem_or_eq_of_mem_set h with h | rfl
      · exact hw u h
      · trivial
    · exact hv
  unfold tb_set at hs
  split at hs
  · split at hs
    · cases hs; exact h2
    · cases hs
  · split at hs
    · cases hs; exact h1
    · cases hs
theorem tb_entry_has {ρ : Nat → Nat} {fm : Value} (hfm : fm = .null ∨ ∃ a, fm = .ref a) (as : List tb_V) {n : Nat} (h : (as.map tb_cat).sum ≤ n) :
    lv_has ((lg_sl (as.map (tb_cv ρ fm)) ++ List.replicate (n - (lg_sl (as.map (tb_cv ρ fm))).length) Slot.unset).toArray) n (tb_al ρ fm 0 (tb_entry n as)) ∧ (tb_entry n as).length = n := by
  have hlen : ∀ as : List tb_V, (as.flatMap tb_sp).length = (as.map tb_cat).sum := by
    intro as
    induction as with
    | nil => rfl
    | cons v l ih =>
      rw [List.flatMap_cons, List.length_append, ih, List.map_cons, List.sum_cons]
      rcases v with x | x | a | a <;> rfl
  have hsl : ∀ as : List tb_V, (lg_sl (as.map (tb_cv ρ fm))).length = (as.map tb_cat).sum := by
    intro as
    induction as with
    | nil => rfl
    | cons v l ih =>
      have e : lg_sl ((v :: l).map (tb_cv ρ fm)) = (if (tb_cv ρ fm v).category = 2 then [Slot.val (tb_cv ρ fm v), .second] else [.val (tb_cv ρ fm v)]) ++ lg_sl (l.map (tb_cv ρ fm)) := by
        simp [lg_sl]
      rw [e, List.length_append, ih, List.map_cons, List.sum_cons, tb_cat_cv hfm v]
      rcases v with x | x | a | a <;> rfl
  have hargs : ∀ (as : List tb_V) (k i : Nat) (v : tb_V), (as.flatMap tb_sp)[i]? = some v → tb_blank v = false → (k + i, tb_cv ρ fm v) ∈ lv_args k (as.map (tb_cv ρ fm)) := by
    intro as
    induction as with
    | nil => intro k i v h; simp at h
    | cons u l ih =>
      intro k i v h hb
      rw [List.flatMap_cons] at h
      rw [List.map_cons, lv_args]
      have hc := tb_cat_cv (ρ := ρ) hfm u
      have one : tb_cat u = 1 → tb_sp u = [u] := by
        intro h1
        rcases u with x | x | a | a
        · rfl
        · simp [tb_cat] at h1
        · rfl
        · rfl
      have cu : tb_cat u = 1 ∨ ∃ x, u = .inr (.inl x) := by
        rcases u with x | x | a | a
        · exact Or.inl rfl
        · exact Or.inr ⟨x, rfl⟩
        · exact Or.inl rfl
        · exact Or.inl rfl
      rcases cu with h1 | ⟨x, rfl⟩
      · rw [one h1] at h
        rw [h1] at hc
        rw [if_neg (by rw [hc]; decide)]
        cases i with
        | zero =>
          simp at h
          subst h
          exact List.mem_cons_self
        | succ i =>
          simp at h
          have := ih (k + 1) i v h hb
          rw [show k + (i + 1) = k + 1 + i by omega]
          exact List.mem_cons_of_mem _ this
      · have hc2 : (tb_cv ρ fm (.inr (.inl x))).category = 2 := rfl
        have h2 : tb_sp (.inr (.inl x)) = [.inr (.inl x), tb_s 1] := rfl
        rw [h2] at h
        rw [if_pos hc2]
        match i, h with
        | 0, h =>
          simp at h
          subst h
          exact List.mem_cons_self
        | 1, h =>
          simp at h
          subst h
          simp [tb_blank] at hb
        | i + 2, h =>
          simp at h
          have := ih (k + 2) i v h hb
          rw [show k + (i + 2) = k + 2 + i by omega]
          exact List.mem_cons_of_mem _ this
  have hE := lv_entry (as.map (tb_cv ρ fm)) (n := n) (by rw [hsl]; exact h)
  have hl2 : (tb_entry n as).length = n := by
    unfold tb_entry
    rw [List.length_append, List.length_replicate, hlen]
    omega
  refine ⟨tb_has_mono hE ?_, hl2⟩
  rintro ⟨i, w⟩ hq
  obtain ⟨u, -, hu, hb, rfl⟩ := (tb_al_mem _ 0 i w).mp hq
  rw [Nat.sub_zero] at hu
  unfold tb_entry at hu
  by_cases hi : i < (as.flatMap tb_sp).length
  · rw [List.getElem?_append_left hi] at hu
    have := hargs as 0 i u hu hb
    rw [Nat.zero_add] at this
    exact this
  · rw [List.getElem?_append_right (by omega)] at hu
    have hr := List.mem_of_getElem? hu
    rw [List.mem_replicate] at hr
    rw [hr.2] at hb
    simp [tb_blank] at hb
