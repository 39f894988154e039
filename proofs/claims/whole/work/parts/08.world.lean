/-! the world's cells; what nobody writes; what holds of a method's frame -/
def tb_tys (cT : Nat → ClassId) (cS : ClassId) : List (ClassId × FieldType) := [(cT 0, .int), (cT 1, .boolean), (cT 2, .byte), (cT 3, .long), (cS, .object "TurtleBack$State")]
def tb_ety (t : Nat) : FieldType := if t = 0 then .int else if t = 1 then .boolean else if t = 2 then .byte else .long
def tb_fV (ρ : Nat → Nat) (A : tb_H) (o k t : Nat) : Value :=
  if t < 3 then .int (Int32.ofInt (A.1 o k)) else if t = 3 then .long (Int64.ofInt (A.2.1 o k)) else if t = 4 then .ref (ρ (A.2.2 o k)) else if t < 1000 then .ref (ρ (t - 100)) else .ref (ρ (o + (t - 1000)))
def tb_fVs (ρ : Nat → Nat) (A : tb_H) (o : Nat) (fts : List Nat) : List Value := (List.range fts.length).map (fun k => tb_fV ρ A o k (fts.getD k 0))
def tb_cell (ρ : Nat → Nat) (cT : Nat → ClassId) (cS : ClassId) (A : tb_H) (o : Nat) : va_E :=
  match tb_kd o with
  | (0, ci, fts) => .inr (ci, tb_fVs ρ A o fts)
  | (1, n, t :: _) => if t = 3 then .inl (cT 3, n, .inr (.inl (fun j => Int64.ofInt (A.2.1 o j)))) else .inl (cT t, n, .inl (fun j => Int32.ofInt (A.1 o j)))
  | (2, n, tg) => .inl (cS, n, .inr (.inr (.inr (.inr (fun j => (tg[j]?).map ρ)))))
  | _ => .inl (cT 0, 0, .inl (fun _ => 0))
def tb_ws (ρ : Nat → Nat) (cT : Nat → ClassId) (cS : ClassId) (A : tb_H) : va_W := (List.range tb_NO).map (fun o => (ρ o, tb_cell ρ cT cS A o))
theorem tb_ws_get {ρ : Nat → Nat} {cT : Nat → ClassId} {cS : ClassId} {A : tb_H} {o : Nat} (h : o < tb_NO) : (tb_ws ρ cT cS A)[o]? = some (ρ o, tb_cell ρ cT cS A o) := by
  unfold tb_ws
  rw [List.getElem?_map, List.getElem?_range h]
  rfl
theorem tb_cell_congr {ρ : Nat → Nat} {cT : Nat → ClassId} {cS : ClassId} {A B : tb_H} {o : Nat} (h1 : A.1 o = B.1 o) (h2 : A.2.1 o = B.2.1 o) (h3 : A.2.2 o = B.2.2 o) : tb_cell ρ cT cS A o = tb_cell ρ cT cS B o := by
  unfold tb_cell tb_fVs tb_fV
  rw [h1, h2, h3]
theorem tb_ws_set {ρ : Nat → Nat} {cT : Nat → ClassId} {cS : ClassId} {A B : tb_H} {o : Nat} (ho : o < tb_NO) (h : ∀ j, j ≠ o → A.1 j = B.1 j ∧ A.2.1 j = B.2.1 j ∧ A.2.2 j = B.2.2 j) : tb_ws ρ cT cS B = (tb_ws ρ cT cS A).set o (ρ o, tb_cell ρ cT cS B o) := by
  apply List.ext_getElem?
  intro j
  by_cases hj : j = o
  · subst hj
    rw [List.getElem?_set_self (by unfold tb_ws; simpa using ho), tb_ws_get ho]
  · rw [List.getElem?_set_ne (Ne.symm hj)]
    by_cases hjn : j < tb_NO
    · obtain ⟨h1, h2, h3⟩ := h j hj
      rw [tb_ws_get hjn, tb_ws_get hjn, tb_cell_congr h1 h2 h3]
    · rw [List.getElem?_eq_none (by unfold tb_ws; simpa using hjn), List.getElem?_eq_none (by unfold tb_ws; simpa using hjn)]
/-- the kinds of objects and the classes' fields belong together -/
def tb_fko (t : Nat) (ty : Option FieldType) : Bool :=
  match ty with
  | some .int => t == 0
  | some .boolean => t == 1
  | some .byte => t == 2
  | some .long => t == 3
  | some (.object _) => t == 4 || decide (100 ≤ t)
  | some (.array _) => t == 4 || decide (100 ≤ t)
  | _ => false
def tb_kdo (o : Nat) : Bool :=
  match tb_kd o with
  | (0, ci, fts) => decide (o < tb_NO) && decide (ci < tb_cl.length) && decide (fts.length = (tb_ci ci).2.2) && (List.range fts.length).all (fun k => tb_fko (fts.getD k 0) (parseFieldDescriptor ((tb_ci ci).2.1 k).2.2.1))
  | (1, n, ts) => decide (o < tb_NO) && decide (n < 2147483648) && decide (ts.length = 1) && decide (ts.getD 0 0 < 4)
  | (2, n, tg) => decide (o < tb_NO) && decide (n < 2147483648) && decide (tg.length = n)
  | (3, n, ts) => decide (n < 2147483648) && decide (ts.length = 1) && decide (ts.getD 0 0 < 3)
  | (4, _, fts) => decide (fts.length = 2) && decide (fts.getD 1 0 = 0) && decide (100 ≤ fts.getD 0 0)
  | (5, _, _) => true
  | _ => false
theorem tb_kdo_all : (List.range 184).all (fun o => tb_kdo o || decide (o ≥ tb_kdl.length)) = true := by decide +kernel
theorem tb_kdl_len : tb_kdl.length = 184 := by decide +kernel
theorem tb_kdo_of {o : Nat} (h : (tb_kd o).1 < 9) : tb_kdo o = true := by
  have ho : o < 184 := by
    rcases Nat.lt_or_ge o 184 with q | q
    · exact q
    · unfold tb_kd at h
      rw [List.getD_eq_getElem?_getD, List.getElem?_eq_none (by rw [tb_kdl_len]; exact q)] at h
      exact absurd h (by decide)
  have h1 := List.all_eq_true.mp tb_kdo_all o (List.mem_range.mpr ho)
  simp only [Bool.or_eq_true, decide_eq_true_eq, tb_kdl_len] at h1
  rcases h1 with h1 | h1
  · exact h1
  · omega
/-- the constant arrays' numbers are small -/
theorem tb_cvl_ok : tb_cvl.all (fun l => l.all (fun x => decide (-2147483648 ≤ x) && decide (x < 2147483648))) = true := by decide +kernel
theorem tb_cI_in (o : Nat) (i : Int) : tb_inI (tb_cI o i) := by
  unfold tb_cI
  have h0 : ∀ l ∈ tb_cvl, ∀ x ∈ l, tb_inI x := by
    intro l hl x hx
    have := List.all_eq_true.mp (List.all_eq_true.mp tb_cvl_ok l hl) x hx
    simpa [tb_inI] using this
  rw [List.getD_eq_getElem?_getD, List.getD_eq_getElem?_getD]
  cases hl : tb_cvl[o - tb_NO]? with
  | none =>
    have : tb_cvl[o - 102]? = none := hl
    rw [this]
    have e : ((none : Option (List Int)).getD [])[i.toNat]?.getD 0 = 0 := by simp
    rw [e]
    exact ⟨by decide, by decide⟩
  | some l =>
    have hl' : tb_cvl[o - 102]? = some l := hl
    rw [hl']
    show tb_inI (l[i.toNat]?.getD 0)
    cases hx : l[i.toNat]? with
    | none => exact ⟨by decide, by decide⟩
    | some x => exact h0 l (List.mem_of_getElem? hl') x (List.mem_of_getElem? hx)
theorem tb_clu_in : (List.range tb_cl.length).all (fun ci => (u_ws (tb_ci ci).1 (tb_ci ci).2.1 (tb_ci ci).2.2).all (fun w => decide (w ∈ lw_tbl) && goodWord w)) = true := by decide +kernel
theorem tb_clu {ci : Nat} (h : ci < tb_cl.length) : ∀ w ∈ u_ws (tb_ci ci).1 (tb_ci ci).2.1 (tb_ci ci).2.2, w ∈ tb_gt := by
  intro w hw
  have h1 := List.all_eq_true.mp (List.all_eq_true.mp tb_clu_in ci (List.mem_range.mpr h)) w hw
  simp only [Bool.and_eq_true, decide_eq_true_eq] at h1
  exact List.mem_filter.mpr h1
def tb_ft (ci k : Nat) : FieldType := (parseFieldDescriptor ((tb_ci ci).2.1 k).2.2.1).getD .int
theorem tb_ft_all : (List.range tb_cl.length).all (fun ci => (List.range (tb_ci ci).2.2).all (fun k => (parseFieldDescriptor ((tb_ci ci).2.1 k).2.2.1).isSome && (List.range (tb_ci ci).2.2).all (fun j => decide (j = k) || decide (((tb_ci ci).2.1 k).2.1 ≠ ((tb_ci ci).2.1 j).2.1)))) = true := by decide +kernel
theorem tb_ft_ok {ci : Nat} (h : ci < tb_cl.length) : ∀ k, k < (tb_ci ci).2.2 → parseFieldDescriptor ((tb_ci ci).2.1 k).2.2.1 = some (tb_ft ci k) := by
  intro k hk
  have h1 := List.all_eq_true.mp (List.all_eq_true.mp tb_ft_all ci (List.mem_range.mpr h)) k (List.mem_range.mpr hk)
  simp only [Bool.and_eq_true] at h1
  unfold tb_ft
  cases hq : parseFieldDescriptor ((tb_ci ci).2.1 k).2.2.1 with
  | none => rw [hq] at h1; simp at h1
  | some t => rfl
theorem tb_ft_ne {ci : Nat} (h : ci < tb_cl.length) : ∀ a, a < (tb_ci ci).2.2 → ∀ b, b < (tb_ci ci).2.2 → a ≠ b → ((tb_ci ci).2.1 a).2.1 ≠ ((tb_ci ci).2.1 b).2.1 := by
  intro a ha b hb hab
  have h1 := List.all_eq_true.mp (List.all_eq_true.mp tb_ft_all ci (List.mem_range.mpr h)) a (List.mem_range.mpr ha)
  simp only [Bool.and_eq_true] at h1
  have h2 := List.all_eq_true.mp h1.2 b (List.mem_range.mpr hb)
  simp only [Bool.or_eq_true, decide_eq_true_eq] at h2
  rcases h2 with h2 | h2
  · exact absurd h2.symm hab
  · exact h2
theorem tb_ci_at {ci : Nat} (h : ci < tb_cl.length) : tb_cl[ci]? = some ((tb_ci ci).1, (tb_ci ci).2.1, (tb_ci ci).2.2) := by
  unfold tb_ci
  rw [List.getD_eq_getElem?_getD, List.getElem?_eq_getElem h]
  rfl
/-- what nobody writes: statics, constant arrays, String constants, the script -/
def tb_sfd (k : Nat) : String × String := if k = 0 then ("value", "[B") else ("coder", "B")
def tb_Cst (X : tb_X) (ρ : Nat → Nat) (fm : Value) (n0 : Nat) (U : State) (H : Heap) : Prop :=
  (∀ q ∈ tb_stats, va_Z q.1 q.2.1 q.2.2.1 (tb_cv ρ fm q.2.2.2) (fun q => n0 ≤ q) U H) ∧
  (∀ o n t, tb_kd o = (3, n, [t]) → va_T (tb_ety t) (ρ o) n (fun j => .int (Int32.ofInt (tb_cI o j))) (fun q => n0 ≤ q) U H) ∧
  (∀ o c fts, tb_kd o = (4, c, fts) → va_O "java/lang/String" (ρ o) (fun q => n0 ≤ q) U H ∧ ∀ k t, fts[k]? = some t → va_OF "java/lang/String" (tb_sfd k).1 (tb_sfd k).2 (tb_cv ρ fm (if 100 ≤ t then tb_r (t - 100) else tb_i t)) (ρ o) (fun q => n0 ≤ q) U H) ∧
  (∀ q ∈ tb_str, ∃ tx, vk_R (tb_ow q.1) q.2.1 tx (ρ q.2.2) U) ∧
  (∀ o c fts, tb_kd o = (5, c, fts) → va_T .int (ρ o) X.2 (fun j => .int (Int32.ofInt (X.1 j))) (fun q => n0 ≤ q) U H)
theorem tb_Cst.go {X : tb_X} {ρ : Nat → Nat} {fm : Value} {n0 : Nat} {s U : State} {H H1 : Heap} (h : tb_Cst X ρ fm n0 s H) (hW : s.WarmedH U.vm) (hq : ∀ a : Nat, a < H.size → ¬ n0 ≤ a → H1[a]? = H[a]?) : tb_Cst X ρ fm n0 U H1 := by
  obtain ⟨h1, h2, h3, h4, h5⟩ := h
  exact ⟨fun q hm => va_Z.moved hW.alike ((h1 q hm).kept hq), fun o n t hk => va_T.moved hW.alike ((h2 o n t hk).kept hq),
    fun o c fts hk => ⟨va_O.moved hW.alike ((h3 o c fts hk).1.kept hq), fun k t ht => va_OF.moved hW.alike (((h3 o c fts hk).2 k t ht).kept hq)⟩,
    fun q hm => by obtain ⟨tx, hx⟩ := h4 q hm; exact ⟨tx, vk_R.warm hW hx⟩, fun o c fts hk => va_T.moved hW.alike ((h5 o c fts hk).kept hq)⟩
theorem tb_Cst.same {X : tb_X} {ρ : Nat → Nat} {fm : Value} {n0 : Nat} {s U : State} {H : Heap} (h : tb_Cst X ρ fm n0 s H) (hv : U.vm = s.vm) : tb_Cst X ρ fm n0 U H := by
  obtain ⟨h1, h2, h3, h4, h5⟩ := h
  have ha : s.vm.Alike U.vm := by rw [hv]; exact Vm.Alike.refl _
  exact ⟨fun q hm => va_Z.moved ha (h1 q hm), fun o n t hk => va_T.moved ha (h2 o n t hk),
    fun o c fts hk => ⟨va_O.moved ha (h3 o c fts hk).1, fun k t ht => va_OF.moved ha ((h3 o c fts hk).2 k t ht)⟩,
    fun q hm => by obtain ⟨tx, hx⟩ := h4 q hm; exact ⟨tx, vk_R.same hv hx⟩, fun o c fts hk => va_T.moved ha (h5 o c fts hk)⟩
/-- the places apart -/
def tb_Rho (ρ : Nat → Nat) (n0 : Nat) : Prop := (∀ i j, i < tb_NO → j < tb_NO → ρ i = ρ j → i = j) ∧ ∀ i, i < tb_NO → n0 ≤ ρ i
theorem tb_Rho.D {ρ : Nat → Nat} {n0 : Nat} (h : tb_Rho ρ n0) (cT : Nat → ClassId) (cS : ClassId) (A : tb_H) : va_D (fun q => n0 ≤ q) (tb_ws ρ cT cS A) := by
  have key : ∀ (i : Nat) (p : Nat × va_E), (tb_ws ρ cT cS A)[i]? = some p → i < tb_NO ∧ p.1 = ρ i := by
    intro i p hp
    have hi : i < tb_NO := by
      have := (List.getElem?_eq_some_iff.mp hp).1
      unfold tb_ws at this
      simpa using this
    rw [tb_ws_get hi] at hp
    cases hp
    exact ⟨hi, rfl⟩
  refine ⟨fun i j p q hp hq hpq => ?_, fun i p hp => ?_⟩
  · obtain ⟨h1, h2⟩ := key i p hp
    obtain ⟨h3, h4⟩ := key j q hq
    exact h.1 i j h1 h3 (by rw [← h2, ← h4, hpq])
  · obtain ⟨h1, h2⟩ := key i p hp
    show n0 ≤ p.1
    rw [h2]
    exact h.2 i h1
/-- what stays the same all through a method: the machine, the words, the classes, the constants, the room -/
def tb_Std (X : tb_X) (ρ : Nat → Nat) (fm : Value) (D : va_G) (cT : Nat → ClassId) (cS : ClassId) (n0 : Nat) (y : Nat) (p : Program) (R : Room) (s : State) (m : MethodId) (args : Array Value) (c : Code) : Prop :=
  p.tables.exec = Jvm.exec ∧ c.code = tb_by y ∧ c.maxLocals = tb_mx y ∧ s.vm.findClass (tb_ow (tb_oi y)) = some m.cls ∧ (∀ w ∈ tb_gt, w.before args s = true) ∧ va_K D tb_cl (tb_tys cT cS) s ∧ tb_Cst X ρ fm n0 s s.heap ∧
  (fm = .null ∨ ∃ a, fm = .ref a) ∧ tb_Rho ρ n0 ∧ (∀ i, tb_inI (X.1 i)) ∧ X.2 < 2147483648 ∧ tb_rk y ≤ R.frames ∧ 39 * tb_rk y ≤ R.locals ∧ 1 ≤ tb_rk y
/-- what moves -/
def tb_Dy (ρ : Nat → Nat) (fm : Value) (D : va_G) (cT : Nat → ClassId) (cS : ClassId) (n0 : Nat) (y : Nat) (s : State) (H : Heap) (locs : List Loc) (ls : Array Slot) (lv st : List tb_V) (A : tb_H) : Prop :=
  va_P D tb_cl (tb_ws ρ cT cS A) H ∧ va_S (fun q => n0 ≤ q) s.heap H locs ∧ lv_has ls (tb_mx y) (tb_al ρ fm 0 lv) ∧ lv.length = tb_mx y ∧ (∀ v ∈ lv, tb_ok v) ∧ (∀ v ∈ st, tb_ok v) ∧ (∀ o k, tb_inI (A.1 o k)) ∧ (∀ o k, tb_inL (A.2.1 o k))
