/-! THE CONSTANTS at the law's start: what the claim gives of statics, constant arrays, strings, the script -/
def tf_stm (o : Nat) : String × String := if o = 102 then ("TurtleBack$Beast", "ROOM") else if o = 103 then ("TurtleBack$Reade\x72", "LEAST") else if o = 104 then ("TurtleBack$Reade\x72", "GREATEST") else if o = 105 then ("TurtleBack$Sea", "ACROSS") else ("TurtleBack$Sea", "DOWN")
def tf_sq (k : Nat) : Nat × Nat × Nat := tb_str.getD k (0, 0, 0)
def tf_str (k : Nat) : Term := .string (tb_ow (tf_sq k).1) (tf_sq k).2.1
def tf_tm (o : Nat) : Term := if o < 107 then .static (tf_stm o).1 (tf_stm o).2 "[I" else if o = 183 then .arg 0 else if o % 2 = 1 then tf_str ((o - 107) / 2) else .field (tf_str ((o - 107) / 2)) "java/lang/String" "value" "[B"
def tf_cw (o : Nat) : List Cond :=
  match tb_kd o with
  | (3, n, ts) => .arrayOf (tf_tm o) (tb_ety (ts.getD 0 0)) :: .eq (.length (tf_tm o)) (.int (Int32.ofNat n)) :: (List.range n).map (fun j => .eq (.elem (tf_tm o) (.int (Int32.ofNat j))) (.int (Int32.ofInt (tb_cI o (j : Nat)))))
  | (4, _, _) => [.exactly (tf_tm o) "java/lang/String", .eq (.field (tf_tm o) "java/lang/String" "coder" "B") (.int 0)]
  | _ => []
def tf_cws : List Cond := (List.range 184).flatMap tf_cw
set_option maxRecDepth 100000 in
theorem tf_cws_in : tb_subl tf_cws (flatC (Jvm.Cond.and given_1 narrow_1)) = true := by decide +kernel
def tf_stw : List Cond := [.initialized "TurtleBack$Reade\x72", .initialized "TurtleBack$Beast", .initialized "java/lang/String", .initialized "jdk/internal/util/Preconditions", .initialized "TurtleBack$Sea", .laysStatic "java/lang/String" "COMPACT_STRINGS" "Z", .laysStatic "jdk/internal/util/Preconditions" "SIOOBE_FORMATTER" "Ljava/util/function/BiFunction;", .laysStatic "TurtleBack$Beast" "ROOM" "[I", .laysStatic "TurtleBack$Reade\x72" "LEAST" "[I", .laysStatic "TurtleBack$Reade\x72" "GREATEST" "[I", .laysStatic "TurtleBack$Sea" "ACROSS" "[I", .laysStatic "TurtleBack$Sea" "DOWN" "[I"]
set_option maxRecDepth 100000 in
theorem tf_stw_in : tb_subl tf_stw lw_tbl = true := by decide +kernel
def tf_txt : List String := ["law begins scute house family field weed isle moult young ", "keel#mid#feels#dives#calm#hungry#", "at#,#heads#", "@at#,#holds#", "@on$weighs#ties#worth#", "@on$weighs#", "on$itch#", "at#,#", "@at#,#from#to#buys#", "$day#", "law", "keel", "mid", "feels", "dives", "calm", "hungry", "begins", "at", "heads", "scute", "house", "family", "field", "weed", "isle", "moult", "young", "holds", "on", "weighs", "ties", "worth", "itch", "from", "to", "buys", "day"]
def tf_srw : List Cond := (List.range 38).map (fun k => .stringRef (tb_ow (tf_sq k).1) (tf_sq k).2.1 (tf_txt.getD k ""))
set_option maxRecDepth 100000 in
theorem tf_srw_in : tb_subl tf_srw lw_tbl = true := by decide +kernel
theorem tf_sqs : (List.range 38).all (fun k => decide ((tf_sq k).2.2 = 107 + 2 * k)) = true := by decide +kernel
theorem tf_strl : tb_str.length = 38 := by decide +kernel
theorem tf_kds : (List.range 184).all (fun o => decide (o < 102) || decide ((tb_kd o).1 = 3) || (decide ((tb_kd o).1 = 4) && decide ((tb_kd o).2.2 = [o + 101, 0]) && decide (107 ≤ o) && decide (o % 2 = 1) && decide (o < 182)) || (decide ((tb_kd o).1 = 5) && decide (o = 183))) = true := by decide +kernel
theorem tf_kdo : (List.range 184).all (fun o => decide (102 ≤ o) || decide ((tb_kd o).1 < 3)) = true := by decide +kernel
theorem tf_f4 : (flatC (Jvm.Cond.and given_1 narrow_1))[4]? = some (.eq (.static "java/lang/String" "COMPACT_STRINGS" "Z") (.int 1)) := by decide +kernel
theorem tf_f5 : (flatC (Jvm.Cond.and given_1 narrow_1))[5]? = some (.isRef (.static "jdk/internal/util/Preconditions" "SIOOBE_FORMATTER" "Ljava/util/function/BiFunction;")) := by decide +kernel
theorem tf_lt {o : Nat} (h : (tb_kd o).1 < 9) : o < 184 := by
  rcases Nat.lt_or_ge o 184 with q | q
  · exact q
  · unfold tb_kd at h
    rw [List.getD_eq_getElem?_getD, List.getElem?_eq_none (by rw [tb_kdl_len]; exact q)] at h
    exact absurd h (by decide)
theorem tf_kd {o : Nat} (h0 : 102 ≤ o) (h1 : o < 184) : (tb_kd o).1 = 3 ∨ ((tb_kd o).1 = 4 ∧ (tb_kd o).2.2 = [o + 101, 0] ∧ 107 ≤ o ∧ o % 2 = 1 ∧ o < 182) ∨ ((tb_kd o).1 = 5 ∧ o = 183) := by
  have h := List.all_eq_true.mp tf_kds o (List.mem_range.mpr h1)
  simp only [Bool.or_eq_true, Bool.and_eq_true, decide_eq_true_eq] at h
  rcases h with ((h | h) | h) | h
  · omega
  · exact Or.inl h
  · exact Or.inr (Or.inl ⟨h.1.1.1.1, h.1.1.1.2, h.1.1.2, h.1.2, h.2⟩)
  · exact Or.inr (Or.inr h)
theorem tf_102 {o : Nat} (h : 3 ≤ (tb_kd o).1) (h1 : o < 184) : 102 ≤ o := by
  have h2 := List.all_eq_true.mp tf_kdo o (List.mem_range.mpr h1)
  simp only [Bool.or_eq_true, decide_eq_true_eq] at h2
  omega
section TFK
variable {args : Array Value} {s : State} {A : Nat → Prop}
theorem tf_cw_of (hg : (Jvm.Cond.and given_1 narrow_1).before args s = true) {o : Nat} (ho : o < 184) : ∀ w ∈ tf_cw o, w.before args s = true := fun w hw => flat_of_before _ hg w (tb_subl_mem _ _ tf_cws_in w (List.mem_flatMap.mpr ⟨o, List.mem_range.mpr ho, hw⟩))
theorem tf_arr (hg : (Jvm.Cond.and given_1 narrow_1).before args s = true) (hA : ∀ a : Nat, a < s.heap.size → ¬ A a) {o n : Nat} {ts : List Nat} (hk : tb_kd o = (3, n, ts)) : ∃ t : Nat, (tf_tm o).eval args s none [] s = some (.ref t) ∧ va_T (tb_ety (ts.getD 0 0)) t n (fun j => .int (Int32.ofInt (tb_cI o (j : Nat)))) A s s.heap := by
  have ho : o < 184 := tf_lt (by rw [hk]; exact Nat.le_of_ble_eq_true rfl)
  have h := tf_cw_of hg ho
  unfold tf_cw at h
  rw [hk] at h
  have hok := tb_kdo_of (o := o) (by rw [hk]; exact Nat.le_of_ble_eq_true rfl)
  unfold tb_kdo at hok
  rw [hk] at hok
  simp only [Bool.and_eq_true, decide_eq_true_eq] at hok
  exact va_Tof hok.1.1 (h _ List.mem_cons_self) (va_eqt (h _ (List.mem_cons_of_mem _ List.mem_cons_self))) (fun j hj => va_eqt (h _ (List.mem_cons_of_mem _ (List.mem_cons_of_mem _ (List.mem_map.mpr ⟨j, List.mem_range.mpr hj, rfl⟩))))) hA
theorem tf_s4 (hg : (Jvm.Cond.and given_1 narrow_1).before args s = true) {o c : Nat} {fts : List Nat} (hk : tb_kd o = (4, c, fts)) : (Cond.exactly (tf_tm o) "java/lang/String").before args s = true ∧ (Cond.eq (.field (tf_tm o) "java/lang/String" "coder" "B") (.int 0)).before args s = true := by
  have ho : o < 184 := tf_lt (by rw [hk]; exact Nat.le_of_ble_eq_true rfl)
  have h := tf_cw_of hg ho
  unfold tf_cw at h
  rw [hk] at h
  exact ⟨h _ List.mem_cons_self, h _ (List.mem_cons_of_mem _ List.mem_cons_self)⟩
theorem tf_ex {b : Nat} (hg : (Jvm.Cond.and given_1 narrow_1).before #[Value.ref b] s = true) {o : Nat} (h0 : 102 ≤ o) (h1 : o < 184) : ∃ a : Nat, (tf_tm o).eval #[Value.ref b] s none [] s = some (.ref a) := by
  obtain ⟨k, n, fts, ts⟩ : ∃ (k n : Nat) (fts : List Nat), tb_kd o = (k, n, fts) := ⟨_, _, _, rfl⟩
  rcases tf_kd h0 h1 with h | h | h
  · rw [ts] at h
    have h : k = 3 := h
    subst h
    obtain ⟨t, ht, -⟩ := tf_arr (A := fun q => s.heap.size ≤ q) hg (fun a ha => Nat.not_le.mpr ha) ts
    exact ⟨t, ht⟩
  · rw [ts] at h
    have h : k = 4 := h.1
    subst h
    obtain ⟨a, c, cA, kA, q1, -⟩ := Cond.exactly_spec (args := #[Value.ref b]) (first := s) (o := none) (s := s) (idx := []) (t := tf_tm o) (cls := "java/lang/String") (tf_s4 hg ts).1
    exact ⟨a, q1⟩
  · rw [h.2]
    exact ⟨b, rfl⟩
end TFK
set_option maxHeartbeats 1000000 in
theorem tf_Cst {s : State} {b L : Nat} {xs : Nat → Int32} (hg : (Jvm.Cond.and given_1 narrow_1).before #[Value.ref b] s = true) (hts : ∀ w ∈ lw_tbl, w.before #[Value.ref b] s = true) (hX : va_X b L xs s s.heap) (hbl : b < s.heap.size) :
    ∃ (κ : Nat → Nat) (fm : Value), (fm = .null ∨ ∃ a, fm = .ref a) ∧ ∀ ρ : Nat → Nat, (∀ o, 102 ≤ o → ρ o = κ o) → tb_Cst (fun i => (xs i.toNat).toInt, L) ρ fm s.heap.size s s.heap ∧ ρ 183 = b := by
  have hA : ∀ a : Nat, a < s.heap.size → ¬ s.heap.size ≤ a := fun a h => Nat.not_le.mpr h
  have h0 : ∀ o : Nat, ∃ a : Nat, 102 ≤ o → o < 184 → (tf_tm o).eval #[Value.ref b] s none [] s = some (.ref a) := by
    intro o
    by_cases c : 102 ≤ o ∧ o < 184
    · obtain ⟨a, ha⟩ := tf_ex hg c.1 c.2
      exact ⟨a, fun _ _ => ha⟩
    · exact ⟨0, fun c1 c2 => absurd ⟨c1, c2⟩ c⟩
  obtain ⟨κ, hκ⟩ := Classical.axiomOfChoice h0
  obtain ⟨fm, hfm, hfr⟩ := Cond.isRef_spec (flat_of_before _ hg _ (List.mem_of_getElem? tf_f5))
  refine ⟨κ, fm, ?_, fun ρ hρ => ?_⟩
  · cases fm <;> first | exact Or.inl rfl | exact Or.inr ⟨_, rfl⟩ | (simp [Value.isRef] at hfr)
  have h183 : ρ 183 = b := by
    rw [hρ 183 (by decide)]
    have h := hκ 183 (by decide) (by decide)
    have h2 : (tf_tm 183).eval #[Value.ref b] s none [] s = some (.ref b) := rfl
    have h3 := h.symm.trans h2
    injection h3 with h3
    injection h3
  have hw : ∀ w ∈ tf_stw, w.before #[Value.ref b] s = true := fun w h => hts w (tb_subl_mem _ _ tf_stw_in w h)
  have hst : ∀ (o : Nat) (C n : String) (i j : Nat), 102 ≤ o → o < 184 → tf_tm o = .static C n "[I" → tf_stw[i]? = some (.laysStatic C n "[I") → tf_stw[j]? = some (.initialized C) → va_Z C n "[I" (tb_cv ρ fm (tb_r o)) (fun q => s.heap.size ≤ q) s s.heap := by
    intro o C n i j h1 h2 ht hi hj
    have h := hκ o h1 h2
    rw [ht] at h
    show va_Z C n "[I" (.ref (ρ o)) _ s s.heap
    rw [hρ o h1]
    exact va_Zof (hw _ (List.mem_of_getElem? hi)) (hw _ (List.mem_of_getElem? hj)) h hA
  refine ⟨⟨?_, ?_, ?_, ?_, ?_⟩, h183⟩
  · intro q hq
    unfold tb_stats at hq
    simp only [List.mem_cons, List.not_mem_nil, or_false] at hq
    rcases hq with rfl | rfl | rfl | rfl | rfl | rfl | rfl
    · exact hst 102 _ _ 7 1 (by decide) (by decide) rfl rfl rfl
    · exact hst 103 _ _ 8 0 (by decide) (by decide) rfl rfl rfl
    · exact hst 104 _ _ 9 0 (by decide) (by decide) rfl rfl rfl
    · exact hst 105 _ _ 10 4 (by decide) (by decide) rfl rfl rfl
    · exact hst 106 _ _ 11 4 (by decide) (by decide) rfl rfl rfl
    · exact va_Zof (hw _ (List.mem_of_getElem? (i := 5) rfl)) (hw _ (List.mem_of_getElem? (i := 2) rfl)) (va_eqt (flat_of_before _ hg _ (List.mem_of_getElem? tf_f4))) hA
    · exact va_Zof (hw _ (List.mem_of_getElem? (i := 6) rfl)) (hw _ (List.mem_of_getElem? (i := 3) rfl)) hfm hA
  · intro o n t hk
    have ho : o < 184 := tf_lt (by rw [hk]; exact Nat.le_of_ble_eq_true rfl)
    have h2 := tf_102 (o := o) (by rw [hk]; exact Nat.le_of_ble_eq_true rfl) ho
    obtain ⟨a, ha, hT⟩ := tf_arr (A := fun q => s.heap.size ≤ q) hg hA hk
    have h3 := (hκ o h2 ho).symm.trans ha
    injection h3 with h3
    injection h3 with h3
    rw [hρ o h2, h3]
    exact hT
  · intro o c fts hk
    have ho : o < 184 := tf_lt (by rw [hk]; exact Nat.le_of_ble_eq_true rfl)
    have h2 := tf_102 (o := o) (by rw [hk]; exact Nat.le_of_ble_eq_true rfl) ho
    have h4 := tf_kd h2 ho
    rw [hk] at h4
    rcases h4 with h4 | h4 | h4
    · exact absurd (show (4 : Nat) = 3 from h4) (by decide)
    · obtain ⟨-, h5, h6, h7, h8⟩ := h4
      have h5 : fts = [o + 101, 0] := h5
      subst h5
      have he := hκ o h2 ho
      obtain ⟨g1, g2⟩ := tf_s4 hg hk
      rw [hρ o h2]
      refine ⟨va_Oof g1 he hA, fun k t ht => ?_⟩
      match k, ht with
      | 0, ht =>
        have ht : o + 101 = t := by simpa using ht
        subst ht
        rw [if_pos (show 100 ≤ o + 101 by omega), show o + 101 - 100 = o + 1 by omega]
        show va_OF "java/lang/String" "value" "[B" (.ref (ρ (o + 1))) (κ o) _ s s.heap
        rw [hρ (o + 1) (by omega)]
        have hv := hκ (o + 1) (by omega) (by omega)
        have e1 : tf_tm (o + 1) = .field (tf_tm o) "java/lang/String" "value" "[B" := by
          unfold tf_tm
          rw [if_neg (by omega), if_neg (by omega), if_neg (by omega), if_neg (by omega), if_neg (by omega), if_pos h7, show (o + 1 - 107) / 2 = (o - 107) / 2 by omega]
        rw [e1] at hv
        exact vk_OFof he hv hA
      | 1, ht =>
        have ht : 0 = t := by simpa using ht
        subst ht
        exact vk_OFof he (va_eqt g2) hA
      | k + 2, ht => simp at ht
    · exact absurd (show (4 : Nat) = 5 from h4.1) (by decide)
  · intro q hq
    obtain ⟨k, hk⟩ := List.mem_iff_getElem?.mp hq
    have hk38 : k < 38 := by
      have := (List.getElem?_eq_some_iff.mp hk).1
      rw [tf_strl] at this
      exact this
    have hqk : tf_sq k = q := by unfold tf_sq; rw [List.getD_eq_getElem?_getD, hk]; rfl
    have h7 := List.all_eq_true.mp tf_sqs k (List.mem_range.mpr hk38)
    simp only [decide_eq_true_eq] at h7
    rw [hqk] at h7
    have h8 := hts _ (tb_subl_mem _ _ tf_srw_in _ (List.mem_map.mpr ⟨k, List.mem_range.mpr hk38, rfl⟩))
    rw [hqk] at h8
    refine ⟨_, vk_R.of h8 ?_⟩
    rw [h7, hρ _ (by omega)]
    have he := hκ (107 + 2 * k) (by omega) (by omega)
    have e1 : tf_tm (107 + 2 * k) = tf_str k := by
      unfold tf_tm
      rw [if_neg (by omega), if_neg (by omega), if_pos (by omega), show (107 + 2 * k - 107) / 2 = k by omega]
    rw [e1] at he
    unfold tf_str at he
    rw [hqk] at he
    exact he
  · intro o c fts hk
    have ho : o < 184 := tf_lt (by rw [hk]; exact Nat.le_of_ble_eq_true rfl)
    have h2 := tf_102 (o := o) (by rw [hk]; exact Nat.le_of_ble_eq_true rfl) ho
    have h4 := tf_kd h2 ho
    rw [hk] at h4
    rcases h4 with h4 | h4 | h4
    · exact absurd (show (5 : Nat) = 3 from h4) (by decide)
    · exact absurd (show (5 : Nat) = 4 from h4.1) (by decide)
    · rw [h4.2, h183]
      obtain ⟨scr, g1, g2, g3, g4, g5⟩ := hX
      refine ⟨scr, g1, g2, g3, by show L ≤ _; omega, by rw [g4], fun j hj => ?_, hA b hbl⟩
      rw [g5 j hj]
      show some (Value.int (xs j)) = some (Value.int (Int32.ofInt (xs ((j : Int).toNat)).toInt))
      rw [Int32.ofInt_toInt]
      rfl
