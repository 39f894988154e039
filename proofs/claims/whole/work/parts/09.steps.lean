section TBEQ
variable {X : tb_X} {lv st : List tb_V} {A : tb_H} {a b nx : Nat} {z : Int} {l : List Nat}
theorem tb_e1 : tb_step tb_P X (1, a, b, z, l, nx) lv st A = some (nx, lv, tb_i z :: st, A) := rfl
theorem tb_e2 : tb_step tb_P X (2, a, b, z, l, nx) lv st A = some (nx, lv, tb_j z :: st, A) := rfl
theorem tb_e3 : tb_step tb_P X (3, a, b, z, l, nx) lv st A = (match lv[a]? with | some v => if tb_isk b v then some (nx, lv, v :: st, A) else none | none => none) := rfl
theorem tb_e4 : tb_step tb_P X (4, a, b, z, l, nx) lv st A = (match st with | v :: st' => if tb_isk b v then (match tb_set lv a v with | some lv' => some (nx, lv', st', A) | none => none) else none | [] => none) := rfl
theorem tb_e5 : tb_step tb_P X (5, a, b, z, l, nx) lv st A = (match lv[a]? with | some (.inl x) => (match tb_set lv a (tb_i (tb_w (x + z))) with | some lv' => some (nx, lv', st, A) | none => none) | _ => none) := rfl
theorem tb_e6 : tb_step tb_P X (6, a, b, z, l, nx) lv st A = (match st with | .inl y :: .inl x :: st' => (match tb_bin a x y with | some r => some (nx, lv, tb_i r :: st', A) | none => none) | _ => none) := rfl
theorem tb_e7 : tb_step tb_P X (7, a, b, z, l, nx) lv st A = (match st with | v :: st' => (match tb_un a v with | some r => some (nx, lv, r :: st', A) | none => none) | [] => none) := rfl
theorem tb_e8 : tb_step tb_P X (8, a, b, z, l, nx) lv st A = (match st with | .inr (.inl y) :: .inr (.inl x) :: st' => (match tb_lbin a x y with | some r => some (nx, lv, tb_j r :: st', A) | none => none) | _ => none) := rfl
theorem tb_e9 : tb_step tb_P X (9, a, b, z, l, nx) lv st A = (match st with | .inr (.inl y) :: .inr (.inl x) :: st' => some (nx, lv, tb_i (tb_lcmp x y) :: st', A) | _ => none) := rfl
theorem tb_e10 : tb_step tb_P X (10, a, b, z, l, nx) lv st A = (match st with | v :: st' => if tb_cat v = 1 then some (nx, lv, v :: v :: st', A) else none | [] => none) := rfl
theorem tb_e11 : tb_step tb_P X (11, a, b, z, l, nx) lv st A = (match st with | v :: w :: st' => if tb_cat v = 1 ∧ tb_cat w = 1 then some (nx, lv, v :: w :: v :: w :: st', A) else none | _ => none) := rfl
theorem tb_e12 : tb_step tb_P X (12, a, b, z, l, nx) lv st A = (match st with | v :: st' => if tb_cat v = 1 then some (nx, lv, st', A) else none | [] => none) := rfl
theorem tb_e13 : tb_step tb_P X (13, a, b, z, l, nx) lv st A = some (a, lv, st, A) := rfl
theorem tb_e14 : tb_step tb_P X (14, a, b, z, l, nx) lv st A = (match st with | .inl x :: st' => some (if tb_cmp b x 0 then a else nx, lv, st', A) | _ => none) := rfl
theorem tb_e15 : tb_step tb_P X (15, a, b, z, l, nx) lv st A = (match st with | .inl y :: .inl x :: st' => some (if tb_cmp b x y then a else nx, lv, st', A) | _ => none) := rfl
theorem tb_e16 : tb_step tb_P X (16, a, b, z, l, nx) lv st A = (match st with
      | .inr (.inr (.inl _)) :: st' => some (if b = 1 then a else nx, lv, st', A)
      | .inr (.inr (.inr 0)) :: st' => some (if b = 1 then nx else a, lv, st', A)
      | _ => none) := rfl
theorem tb_e17 : tb_step tb_P X (17, a, b, z, l, nx) lv st A = (match st with | .inl x :: st' => some (if x < z ∨ z + l.length ≤ x then a else l.getD (x - z).toNat 0, lv, st', A) | _ => none) := rfl
theorem tb_e18 : tb_step tb_P X (18, a, b, z, l, nx) lv st A = (match st with | .inr (.inr (.inl q)) :: st' => (match tb_getf tb_P.2.2.1 A q a b with | some v => some (nx, lv, v :: st', A) | none => none) | _ => none) := rfl
theorem tb_e19 : tb_step tb_P X (19, a, b, z, l, nx) lv st A = (match st with | v :: .inr (.inr (.inl q)) :: st' => (match tb_putf tb_P.2.2.1 A q a b v with | some A' => some (nx, lv, st', A') | none => none) | _ => none) := rfl
theorem tb_e20 : tb_step tb_P X (20, a, b, z, l, nx) lv st A = some (nx, lv, (if b = 0 then tb_r a else if b = 1 then tb_i z else tb_s 2) :: st, A) := rfl
theorem tb_e21 : tb_step tb_P X (21, a, b, z, l, nx) lv st A = some (nx, lv, tb_r a :: st, A) := rfl
theorem tb_e22 : tb_step tb_P X (22, a, b, z, l, nx) lv st A = (match st with | .inr (.inr (.inl q)) :: st' => (match tb_len tb_P.2.2.1 X q with | some n => some (nx, lv, tb_i n :: st', A) | none => none) | _ => none) := rfl
theorem tb_e23 : tb_step tb_P X (23, a, b, z, l, nx) lv st A = (match st with | .inl i :: .inr (.inr (.inl q)) :: st' => (match tb_ald tb_P.2.2.1 tb_P.2.2.2 X A a q i with | some v => some (nx, lv, v :: st', A) | none => none) | _ => none) := rfl
theorem tb_e24 : tb_step tb_P X (24, a, b, z, l, nx) lv st A = (match st with | v :: .inl i :: .inr (.inr (.inl q)) :: st' => (match tb_ast tb_P.2.2.1 A a q i v with | some A' => some (nx, lv, st', A') | none => none) | _ => none) := rfl
theorem tb_e25 : tb_step tb_P X (25, a, b, z, l, nx) lv st A = (match st with | .inl i :: .inr (.inr (.inl q)) :: st' => (match tb_aald tb_P.2.2.1 q i with | some v => some (nx, lv, v :: st', A) | none => none) | _ => none) := rfl
theorem tb_e26 : tb_step tb_P X (26, a, b, z, l, nx) lv st A = some (nx, lv, tb_s 0 :: st, A) := rfl
theorem tb_e42 : tb_step tb_P X (42, a, b, z, l, nx) lv st A = (match st with | .inl n :: .inl dp :: .inr (.inr (.inl q)) :: .inl sp :: .inr (.inr (.inl o)) :: st' => if (st'.map tb_cat).sum ≤ 8 then (match tb_acpy tb_P.2.2.1 A o sp q dp n with | some A' => some (nx, lv, st', A') | none => none) else none | _ => none) := rfl
theorem tb_e43 : tb_step tb_P X (43, a, b, z, l, nx) lv st A = (match a, st with
      | 0, .inl y :: .inl x :: st' => if (st'.map tb_cat).sum ≤ 8 then some (nx, lv, tb_i (if y < x then y else x) :: st', A) else none
      | 1, .inl y :: .inl x :: st' => if (st'.map tb_cat).sum ≤ 8 then some (nx, lv, tb_i (if x < y then y else x) :: st', A) else none
      | 2, .inl x :: st' => if (st'.map tb_cat).sum ≤ 8 then some (nx, lv, tb_i (if 0 ≤ x then x else tb_w (0 - x)) :: st', A) else none
      | _, _ => none) := rfl
end TBEQ
/-! ONE STEP: for each instruction, what the small machine's step says holds of the real one -/
section TBST
variable {p : Program} {l : Launch} {e : Env} {R : Room} {s : State} {m : MethodId} {args : Array Value} {below : List Frame} {meth : Method} {c : Code} {H : Heap} {locs : List Loc} {cells slots : Nat} {Q : State → Prop}
variable {X : tb_X} {ρ : Nat → Nat} {fm : Value} {D : va_G} {cT : Nat → ClassId} {cS : ClassId} {n0 y : Nat} {pc : Nat} {ls : Array Slot} {lv st : List tb_V} {A : tb_H}
theorem tb_Dy.stk {st' : List tb_V} (Y : tb_Dy ρ fm D cT cS n0 y s H locs ls lv st A) (h : ∀ v ∈ st', tb_ok v) : tb_Dy ρ fm D cT cS n0 y s H locs ls lv st' A := ⟨Y.1, Y.2.1, Y.2.2.1, Y.2.2.2.1, Y.2.2.2.2.1, h, Y.2.2.2.2.2.2.1, Y.2.2.2.2.2.2.2⟩
theorem tb_Dy.oks (Y : tb_Dy ρ fm D cT cS n0 y s H locs ls lv st A) : ∀ v ∈ st, tb_ok v := Y.2.2.2.2.2.1
theorem tb_Dy.okl (Y : tb_Dy ρ fm D cT cS n0 y s H locs ls lv st A) : ∀ v ∈ lv, tb_ok v := Y.2.2.2.2.1
abbrev tb_G (p : Program) (l : Launch) (e : Env) (R : Room) (s : State) (m : MethodId) (args : Array Value) (below : List Frame) (meth : Method) (c : Code) (cells slots : Nat) (Q : State → Prop) (ρ : Nat → Nat) (fm : Value) (D : va_G) (cT : Nat → ClassId) (cS : ClassId) (n0 y : Nat) (pc' : Nat) (lv' st' : List tb_V) (A' : tb_H) : Prop :=
  ∀ (H1 : Heap) (locs1 : List Loc) (ls1 : Array Slot), tb_Dy ρ fm D cT cS n0 y s H1 locs1 ls1 lv' st' A' → W p l e R s m args below meth c H1 locs1 cells slots Q (F0 m pc' ls1 (st'.map (tb_cv ρ fm)))
variable {pc' : Nat} {lv' st' : List tb_V} {A' : tb_H} {b a nx : Nat} {z : Int} {l0 : List Nat}

section TBROWS
variable {cc : ByteArray} {rest : List Value}
theorem tb_Waload_n (hexec : p.tables.exec = Jvm.exec) (hb : c.code = cc) {k : Fin 4} {v : Value} (hdg : decode cc pc = .ok (.aload_n k, 1)) (hl : ls[(k : Nat)]? = some (.val v)) (hv : v = .null ∨ ∃ a, v = .ref a)
    (kk : W p l e R s m args below meth c H locs cells slots Q (F0 m (pc + 1) ls (v :: rest))) : W p l e R s m args below meth c H locs cells slots Q (F0 m pc ls rest) := by
  intro T hT X
  obtain ⟨t, a, b⟩ := kk T hT X
  refine ⟨t, ?_, b⟩
  rcases hv with rfl | ⟨q, rfl⟩ <;>
  · jvm_step X.here [X.here.top, hexec, hb, hdg, hl, Value.isRef]
    exact a
theorem tb_Waload (hexec : p.tables.exec = Jvm.exec) (hb : c.code = cc) {k : Nat} {v : Value} (hdg : decode cc pc = .ok (.aload k, 2)) (hl : ls[k]? = some (.val v)) (hv : v = .null ∨ ∃ a, v = .ref a)
    (kk : W p l e R s m args below meth c H locs cells slots Q (F0 m (pc + 2) ls (v :: rest))) : W p l e R s m args below meth c H locs cells slots Q (F0 m pc ls rest) := by
  intro T hT X
  obtain ⟨t, a, b⟩ := kk T hT X
  refine ⟨t, ?_, b⟩
  rcases hv with rfl | ⟨q, rfl⟩ <;>
  · jvm_step X.here [X.here.top, hexec, hb, hdg, hl, Value.isRef]
    exact a
theorem tb_Wldcws (hexec : p.tables.exec = Jvm.exec) (hb : c.code = cc) {own text : String} {index a : Nat} (hown : s.vm.findClass own = some m.cls) (hZ : vk_R own index text a s) (hdg : decode cc pc = .ok (.ldc_w index, 3))
    (kk : W p l e R s m args below meth c H locs cells slots Q (F0 m (pc + 3) ls (.ref a :: rest))) : W p l e R s m args below meth c H locs cells slots Q (F0 m pc ls rest) := by
  intro T hT X
  obtain ⟨t, a1, b1⟩ := kk T hT X
  refine ⟨t, ?_, b1⟩
  obtain ⟨k, cf, i, a', hk, hcf, hcp, -, hr, hev'⟩ := Cond.stringRef_spec (args := #[]) hown hZ.1
  cases hZ.2.symm.trans hev'
  obtain ⟨k', hk', he⟩ := X.warmed.alike.2.2 _ _ hk
  have hr' : k'.resolved[index]? = some (some (.string a)) := by
    rcases X.warmed.entry hk hk' index with h | ⟨h, -⟩
    · rw [h]; exact hr
    · rw [hr] at h; cases h
  subst hb
  jvm_step X.here [hexec, hdg, ldc_w.wp_string (e := e) (s := T) (f := F0 m pc ls rest) X.here.top hk' (by rw [he]; exact hcf) hcp hr']
  exact a1
theorem tb_Wistore_n (hexec : p.tables.exec = Jvm.exec) (hb : c.code = cc) {k : Fin 4} {ls2 : Array Slot} {x : Int32} (hdg : decode cc pc = .ok (.istore_n k, 1)) (e' : storeLocals ls (k : Nat) (.int x) = some ls2) 
    (kk : W p l e R s m args below meth c H locs cells slots Q (F0 m (pc + 1) ls2 rest)) : W p l e R s m args below meth c H locs cells slots Q (F0 m pc ls (.int x :: rest)) := by
  intro T hT X
  obtain ⟨t, a, b⟩ := kk T hT X
  refine ⟨t, ?_, b⟩
  jvm_step X.here [X.here.top, ↓top_set X.here.top, hexec, hb, hdg, e', Value.isRef]
  exact a
theorem tb_Wistore (hexec : p.tables.exec = Jvm.exec) (hb : c.code = cc) {k : Nat} {ls2 : Array Slot} {x : Int32} (hdg : decode cc pc = .ok (.istore k, 2)) (e' : storeLocals ls k (.int x) = some ls2) 
    (kk : W p l e R s m args below meth c H locs cells slots Q (F0 m (pc + 2) ls2 rest)) : W p l e R s m args below meth c H locs cells slots Q (F0 m pc ls (.int x :: rest)) := by
  intro T hT X
  obtain ⟨t, a, b⟩ := kk T hT X
  refine ⟨t, ?_, b⟩
  jvm_step X.here [X.here.top, ↓top_set X.here.top, hexec, hb, hdg, e', Value.isRef]
  exact a
theorem tb_Wlstore_n (hexec : p.tables.exec = Jvm.exec) (hb : c.code = cc) {k : Fin 4} {ls2 : Array Slot} {x : Int64} (hdg : decode cc pc = .ok (.lstore_n k, 1)) (e' : storeLocals ls (k : Nat) (.long x) = some ls2) 
    (kk : W p l e R s m args below meth c H locs cells slots Q (F0 m (pc + 1) ls2 rest)) : W p l e R s m args below meth c H locs cells slots Q (F0 m pc ls (.long x :: rest)) := by
  intro T hT X
  obtain ⟨t, a, b⟩ := kk T hT X
  refine ⟨t, ?_, b⟩
  jvm_step X.here [X.here.top, ↓top_set X.here.top, hexec, hb, hdg, e', Value.isRef]
  exact a
theorem tb_Wlstore (hexec : p.tables.exec = Jvm.exec) (hb : c.code = cc) {k : Nat} {ls2 : Array Slot} {x : Int64} (hdg : decode cc pc = .ok (.lstore k, 2)) (e' : storeLocals ls k (.long x) = some ls2) 
    (kk : W p l e R s m args below meth c H locs cells slots Q (F0 m (pc + 2) ls2 rest)) : W p l e R s m args below meth c H locs cells slots Q (F0 m pc ls (.long x :: rest)) := by
  intro T hT X
  obtain ⟨t, a, b⟩ := kk T hT X
  refine ⟨t, ?_, b⟩
  jvm_step X.here [X.here.top, ↓top_set X.here.top, hexec, hb, hdg, e', Value.isRef]
  exact a
theorem tb_Wastore_n (hexec : p.tables.exec = Jvm.exec) (hb : c.code = cc) {k : Fin 4} {ls2 : Array Slot} {v : Value} (hdg : decode cc pc = .ok (.astore_n k, 1)) (hv : v = .null ∨ ∃ a, v = .ref a) (e' : storeLocals ls (k : Nat) v = some ls2)
    (kk : W p l e R s m args below meth c H locs cells slots Q (F0 m (pc + 1) ls2 rest)) : W p l e R s m args below meth c H locs cells slots Q (F0 m pc ls (v :: rest)) := by
  intro T hT X
  obtain ⟨t, a, b⟩ := kk T hT X
  refine ⟨t, ?_, b⟩
  rcases hv with rfl | ⟨q, rfl⟩ <;>
  · jvm_step X.here [X.here.top, ↓top_set X.here.top, hexec, hb, hdg, e', Value.isRef]
    exact a
theorem tb_Wastore (hexec : p.tables.exec = Jvm.exec) (hb : c.code = cc) {k : Nat} {ls2 : Array Slot} {v : Value} (hdg : decode cc pc = .ok (.astore k, 2)) (hv : v = .null ∨ ∃ a, v = .ref a) (e' : storeLocals ls k v = some ls2)
    (kk : W p l e R s m args below meth c H locs cells slots Q (F0 m (pc + 2) ls2 rest)) : W p l e R s m args below meth c H locs cells slots Q (F0 m pc ls (v :: rest)) := by
  intro T hT X
  obtain ⟨t, a, b⟩ := kk T hT X
  refine ⟨t, ?_, b⟩
  rcases hv with rfl | ⟨q, rfl⟩ <;>
  · jvm_step X.here [X.here.top, ↓top_set X.here.top, hexec, hb, hdg, e', Value.isRef]
    exact a
theorem tb_Wiinc (hexec : p.tables.exec = Jvm.exec) (hb : c.code = cc) {k : Nat} {n : Int} {x : Int32} {ls2 : Array Slot} (hdg : decode cc pc = .ok (.iinc k n, 3)) (hg : ls[k]? = some (.val (.int x))) (e' : storeLocals ls k (.int (x + Int32.ofInt n)) = some ls2)
    (kk : W p l e R s m args below meth c H locs cells slots Q (F0 m (pc + 3) ls2 rest)) : W p l e R s m args below meth c H locs cells slots Q (F0 m pc ls rest) := by
  intro T hT X
  obtain ⟨t, a, b⟩ := kk T hT X
  refine ⟨t, ?_, b⟩
  jvm_step X.here [X.here.top, ↓top_set X.here.top, hexec, hb, hdg, hg, e']
  exact a
end TBROWS
theorem tb_cvr {v : tb_V} (hfm : fm = .null ∨ ∃ a, fm = .ref a) (hk : tb_isk 2 v = true) : (tb_cv ρ fm v = .null ∨ ∃ a, tb_cv ρ fm v = .ref a) ∧ tb_blank v = false := by
  rcases v with x | x | x | x
  · simp [tb_isk] at hk
  · simp [tb_isk] at hk
  · exact ⟨Or.inr ⟨_, rfl⟩, rfl⟩
  · match x, hk with
    | 0, _ => exact ⟨Or.inl rfl, rfl⟩
    | 1, hk => simp [tb_isk] at hk
    | 2, _ => exact ⟨hfm, rfl⟩
    | x + 3, hk => simp [tb_isk] at hk

theorem tb_ac_in : (tb_subg [.native arraycopyName] && tb_subg [.static arraycopyName] && tb_subg [.initialized "java/lang/System"] && tb_subg [.initialized "java/lang/Math"] && tb_subg [.static Lib.Math.min.name] && tb_subg [.static Lib.Math.max.name] && tb_subg [.static Lib.Math.abs.name] && tb_subc [.code Lib.Math.min.name Lib.Math.min.code 2 (some .int)] lw_tbl && tb_subc [.code Lib.Math.max.name Lib.Math.max.code 2 (some .int)] lw_tbl && tb_subc [.code Lib.Math.abs.name Lib.Math.abs.code 1 (some .int)] lw_tbl) = true := by decide +kernel
theorem tb_acn : Cond.native arraycopyName ∈ tb_gt := by have h := tb_ac_in; simp only [Bool.and_eq_true] at h; exact tb_subg_in h.1.1.1.1.1.1.1.1.1 _ List.mem_cons_self
theorem tb_acs : Cond.static arraycopyName ∈ tb_gt := by have h := tb_ac_in; simp only [Bool.and_eq_true] at h; exact tb_subg_in h.1.1.1.1.1.1.1.1.2 _ List.mem_cons_self
theorem tb_aci : Cond.initialized "java/lang/System" ∈ tb_gt := by have h := tb_ac_in; simp only [Bool.and_eq_true] at h; exact tb_subg_in h.1.1.1.1.1.1.1.2 _ List.mem_cons_self
theorem tb_mai : Cond.initialized "java/lang/Math" ∈ tb_gt := by have h := tb_ac_in; simp only [Bool.and_eq_true] at h; exact tb_subg_in h.1.1.1.1.1.1.2 _ List.mem_cons_self
theorem tb_ma0 : Cond.static Lib.Math.min.name ∈ tb_gt := by have h := tb_ac_in; simp only [Bool.and_eq_true] at h; exact tb_subg_in h.1.1.1.1.1.2 _ List.mem_cons_self
theorem tb_ma1 : Cond.static Lib.Math.max.name ∈ tb_gt := by have h := tb_ac_in; simp only [Bool.and_eq_true] at h; exact tb_subg_in h.1.1.1.1.2 _ List.mem_cons_self
theorem tb_ma2 : Cond.static Lib.Math.abs.name ∈ tb_gt := by have h := tb_ac_in; simp only [Bool.and_eq_true] at h; exact tb_subg_in h.1.1.1.2 _ List.mem_cons_self
set_option maxRecDepth 20000 in
theorem tb_mb0 : Cond.code Lib.Math.min.name Lib.Math.min.code 2 (some .int) ∈ tb_gt := by have h := tb_ac_in; simp only [Bool.and_eq_true] at h; exact List.mem_filter.mpr ⟨tb_subc_mem _ _ h.1.1.2 _ List.mem_cons_self, rfl⟩
set_option maxRecDepth 20000 in
theorem tb_mb1 : Cond.code Lib.Math.max.name Lib.Math.max.code 2 (some .int) ∈ tb_gt := by have h := tb_ac_in; simp only [Bool.and_eq_true] at h; exact List.mem_filter.mpr ⟨tb_subc_mem _ _ h.1.2 _ List.mem_cons_self, rfl⟩
set_option maxRecDepth 20000 in
theorem tb_mb2 : Cond.code Lib.Math.abs.name Lib.Math.abs.code 1 (some .int) ∈ tb_gt := by have h := tb_ac_in; simp only [Bool.and_eq_true] at h; exact List.mem_filter.mpr ⟨tb_subc_mem _ _ h.2 _ List.mem_cons_self, rfl⟩

theorem tb_c_iadd (C : tb_Std X ρ fm D cT cS n0 y p R s m args c) (Y : tb_Dy ρ fm D cT cS n0 y s H locs ls lv st A) (hdg : decode (tb_by y) pc = .ok (.iadd, 1)) (hs : tb_step tb_P X (6, 0, b, z, l0, pc + 1) lv st A = some (pc', lv', st', A')) (kk : tb_G p l e R s m args below meth c cells slots Q ρ fm D cT cS n0 y pc' lv' st' A') : W p l e R s m args below meth c H locs cells slots Q (F0 m pc ls (st.map (tb_cv ρ fm))) := by
  obtain ⟨hx, hb, -⟩ := C
  rw [tb_e6] at hs
  split at hs
  · rename_i yv xv st1
    have hoy := Y.oks _ List.mem_cons_self
    have hox := Y.oks _ (List.mem_cons_of_mem _ List.mem_cons_self)
    have hor : ∀ v ∈ st1, tb_ok v := fun v h => Y.oks v (List.mem_cons_of_mem _ (List.mem_cons_of_mem _ h))
    cases hs
    have hv : Int32.ofInt xv + Int32.ofInt yv = Int32.ofInt (tb_w (xv + yv)) := by rw [tb_ofw, Int32.ofInt_add]
    refine lv_iadd hx hb hdg ?_
    rw [hv]
    exact kk H locs ls (Y.stk (List.forall_mem_cons.mpr ⟨tb_w_in _, hor⟩))
  · cases hs

theorem tb_c_isub (C : tb_Std X ρ fm D cT cS n0 y p R s m args c) (Y : tb_Dy ρ fm D cT cS n0 y s H locs ls lv st A) (hdg : decode (tb_by y) pc = .ok (.isub, 1)) (hs : tb_step tb_P X (6, 1, b, z, l0, pc + 1) lv st A = some (pc', lv', st', A')) (kk : tb_G p l e R s m args below meth c cells slots Q ρ fm D cT cS n0 y pc' lv' st' A') : W p l e R s m args below meth c H locs cells slots Q (F0 m pc ls (st.map (tb_cv ρ fm))) := by
  obtain ⟨hx, hb, -⟩ := C
  rw [tb_e6] at hs
  split at hs
  · rename_i yv xv st1
    have hoy := Y.oks _ List.mem_cons_self
    have hox := Y.oks _ (List.mem_cons_of_mem _ List.mem_cons_self)
    have hor : ∀ v ∈ st1, tb_ok v := fun v h => Y.oks v (List.mem_cons_of_mem _ (List.mem_cons_of_mem _ h))
    cases hs
    have hv : Int32.ofInt xv - Int32.ofInt yv = Int32.ofInt (tb_w (xv - yv)) := by rw [tb_ofw, Int32.ofInt_sub]
    refine lv_isub hx hb hdg ?_
    rw [hv]
    exact kk H locs ls (Y.stk (List.forall_mem_cons.mpr ⟨tb_w_in _, hor⟩))
  · cases hs

theorem tb_c_imul (C : tb_Std X ρ fm D cT cS n0 y p R s m args c) (Y : tb_Dy ρ fm D cT cS n0 y s H locs ls lv st A) (hdg : decode (tb_by y) pc = .ok (.imul, 1)) (hs : tb_step tb_P X (6, 2, b, z, l0, pc + 1) lv st A = some (pc', lv', st', A')) (kk : tb_G p l e R s m args below meth c cells slots Q ρ fm D cT cS n0 y pc' lv' st' A') : W p l e R s m args below meth c H locs cells slots Q (F0 m pc ls (st.map (tb_cv ρ fm))) := by
  obtain ⟨hx, hb, -⟩ := C
  rw [tb_e6] at hs
  split at hs
  · rename_i yv xv st1
    have hoy := Y.oks _ List.mem_cons_self
    have hox := Y.oks _ (List.mem_cons_of_mem _ List.mem_cons_self)
    have hor : ∀ v ∈ st1, tb_ok v := fun v h => Y.oks v (List.mem_cons_of_mem _ (List.mem_cons_of_mem _ h))
    cases hs
    have hv : Int32.ofInt xv * Int32.ofInt yv = Int32.ofInt (tb_w (xv * yv)) := by rw [tb_ofw, Int32.ofInt_mul]
    refine lv_imul hx hb hdg ?_
    rw [hv]
    exact kk H locs ls (Y.stk (List.forall_mem_cons.mpr ⟨tb_w_in _, hor⟩))
  · cases hs

theorem tb_c_iand (C : tb_Std X ρ fm D cT cS n0 y p R s m args c) (Y : tb_Dy ρ fm D cT cS n0 y s H locs ls lv st A) (hdg : decode (tb_by y) pc = .ok (.iand, 1)) (hs : tb_step tb_P X (6, 3, b, z, l0, pc + 1) lv st A = some (pc', lv', st', A')) (kk : tb_G p l e R s m args below meth c cells slots Q ρ fm D cT cS n0 y pc' lv' st' A') : W p l e R s m args below meth c H locs cells slots Q (F0 m pc ls (st.map (tb_cv ρ fm))) := by
  obtain ⟨hx, hb, -⟩ := C
  rw [tb_e6] at hs
  split at hs
  · rename_i yv xv st1
    have hoy := Y.oks _ List.mem_cons_self
    have hox := Y.oks _ (List.mem_cons_of_mem _ List.mem_cons_self)
    have hor : ∀ v ∈ st1, tb_ok v := fun v h => Y.oks v (List.mem_cons_of_mem _ (List.mem_cons_of_mem _ h))
    cases hs
    have hv : Int32.ofInt xv &&& Int32.ofInt yv = Int32.ofInt (tb_and xv yv) := (Int32.ofInt_toInt _).symm
    refine lv_iand hx hb hdg ?_
    rw [hv]
    exact kk H locs ls (Y.stk (List.forall_mem_cons.mpr ⟨tb_i32_in _, hor⟩))
  · cases hs

theorem tb_c_ior (C : tb_Std X ρ fm D cT cS n0 y p R s m args c) (Y : tb_Dy ρ fm D cT cS n0 y s H locs ls lv st A) (hdg : decode (tb_by y) pc = .ok (.ior, 1)) (hs : tb_step tb_P X (6, 4, b, z, l0, pc + 1) lv st A = some (pc', lv', st', A')) (kk : tb_G p l e R s m args below meth c cells slots Q ρ fm D cT cS n0 y pc' lv' st' A') : W p l e R s m args below meth c H locs cells slots Q (F0 m pc ls (st.map (tb_cv ρ fm))) := by
  obtain ⟨hx, hb, -⟩ := C
  rw [tb_e6] at hs
  split at hs
  · rename_i yv xv st1
    have hoy := Y.oks _ List.mem_cons_self
    have hox := Y.oks _ (List.mem_cons_of_mem _ List.mem_cons_self)
    have hor : ∀ v ∈ st1, tb_ok v := fun v h => Y.oks v (List.mem_cons_of_mem _ (List.mem_cons_of_mem _ h))
    cases hs
    have hv : Int32.ofInt xv ||| Int32.ofInt yv = Int32.ofInt (tb_or xv yv) := (Int32.ofInt_toInt _).symm
    refine lv_ior hx hb hdg ?_
    rw [hv]
    exact kk H locs ls (Y.stk (List.forall_mem_cons.mpr ⟨tb_i32_in _, hor⟩))
  · cases hs

theorem tb_c_ixor (C : tb_Std X ρ fm D cT cS n0 y p R s m args c) (Y : tb_Dy ρ fm D cT cS n0 y s H locs ls lv st A) (hdg : decode (tb_by y) pc = .ok (.ixor, 1)) (hs : tb_step tb_P X (6, 5, b, z, l0, pc + 1) lv st A = some (pc', lv', st', A')) (kk : tb_G p l e R s m args below meth c cells slots Q ρ fm D cT cS n0 y pc' lv' st' A') : W p l e R s m args below meth c H locs cells slots Q (F0 m pc ls (st.map (tb_cv ρ fm))) := by
  obtain ⟨hx, hb, -⟩ := C
  rw [tb_e6] at hs
  split at hs
  · rename_i yv xv st1
    have hoy := Y.oks _ List.mem_cons_self
    have hox := Y.oks _ (List.mem_cons_of_mem _ List.mem_cons_self)
    have hor : ∀ v ∈ st1, tb_ok v := fun v h => Y.oks v (List.mem_cons_of_mem _ (List.mem_cons_of_mem _ h))
    cases hs
    have hv : Int32.ofInt xv ^^^ Int32.ofInt yv = Int32.ofInt (tb_xor xv yv) := (Int32.ofInt_toInt _).symm
    refine lv_ixor hx hb hdg ?_
    rw [hv]
    exact kk H locs ls (Y.stk (List.forall_mem_cons.mpr ⟨tb_i32_in _, hor⟩))
  · cases hs

theorem tb_c_ishl (C : tb_Std X ρ fm D cT cS n0 y p R s m args c) (Y : tb_Dy ρ fm D cT cS n0 y s H locs ls lv st A) (hdg : decode (tb_by y) pc = .ok (.ishl, 1)) (hs : tb_step tb_P X (6, 6, b, z, l0, pc + 1) lv st A = some (pc', lv', st', A')) (kk : tb_G p l e R s m args below meth c cells slots Q ρ fm D cT cS n0 y pc' lv' st' A') : W p l e R s m args below meth c H locs cells slots Q (F0 m pc ls (st.map (tb_cv ρ fm))) := by
  obtain ⟨hx, hb, -⟩ := C
  rw [tb_e6] at hs
  split at hs
  · rename_i yv xv st1
    have hoy := Y.oks _ List.mem_cons_self
    have hox := Y.oks _ (List.mem_cons_of_mem _ List.mem_cons_self)
    have hor : ∀ v ∈ st1, tb_ok v := fun v h => Y.oks v (List.mem_cons_of_mem _ (List.mem_cons_of_mem _ h))
    cases hs
    have hv : Int32.ofInt xv <<< (Int32.ofInt yv &&& 31) = Int32.ofInt (tb_shl xv yv) := (Int32.ofInt_toInt _).symm
    refine lv_ishl hx hb hdg ?_
    rw [hv]
    exact kk H locs ls (Y.stk (List.forall_mem_cons.mpr ⟨tb_i32_in _, hor⟩))
  · cases hs

theorem tb_c_ishr (C : tb_Std X ρ fm D cT cS n0 y p R s m args c) (Y : tb_Dy ρ fm D cT cS n0 y s H locs ls lv st A) (hdg : decode (tb_by y) pc = .ok (.ishr, 1)) (hs : tb_step tb_P X (6, 7, b, z, l0, pc + 1) lv st A = some (pc', lv', st', A')) (kk : tb_G p l e R s m args below meth c cells slots Q ρ fm D cT cS n0 y pc' lv' st' A') : W p l e R s m args below meth c H locs cells slots Q (F0 m pc ls (st.map (tb_cv ρ fm))) := by
  obtain ⟨hx, hb, -⟩ := C
  rw [tb_e6] at hs
  split at hs
  · rename_i yv xv st1
    have hoy := Y.oks _ List.mem_cons_self
    have hox := Y.oks _ (List.mem_cons_of_mem _ List.mem_cons_self)
    have hor : ∀ v ∈ st1, tb_ok v := fun v h => Y.oks v (List.mem_cons_of_mem _ (List.mem_cons_of_mem _ h))
    cases hs
    have hv : Int32.ofInt xv >>> (Int32.ofInt yv &&& 31) = Int32.ofInt (tb_shr xv yv) := (Int32.ofInt_toInt _).symm
    refine lv_ishr hx hb hdg ?_
    rw [hv]
    exact kk H locs ls (Y.stk (List.forall_mem_cons.mpr ⟨tb_i32_in _, hor⟩))
  · cases hs

theorem tb_c_iushr (C : tb_Std X ρ fm D cT cS n0 y p R s m args c) (Y : tb_Dy ρ fm D cT cS n0 y s H locs ls lv st A) (hdg : decode (tb_by y) pc = .ok (.iushr, 1)) (hs : tb_step tb_P X (6, 8, b, z, l0, pc + 1) lv st A = some (pc', lv', st', A')) (kk : tb_G p l e R s m args below meth c cells slots Q ρ fm D cT cS n0 y pc' lv' st' A') : W p l e R s m args below meth c H locs cells slots Q (F0 m pc ls (st.map (tb_cv ρ fm))) := by
  obtain ⟨hx, hb, -⟩ := C
  rw [tb_e6] at hs
  split at hs
  · rename_i yv xv st1
    have hoy := Y.oks _ List.mem_cons_self
    have hox := Y.oks _ (List.mem_cons_of_mem _ List.mem_cons_self)
    have hor : ∀ v ∈ st1, tb_ok v := fun v h => Y.oks v (List.mem_cons_of_mem _ (List.mem_cons_of_mem _ h))
    cases hs
    refine lv_iushr (v := Int32.ofInt (tb_ushr xv yv)) hx hb hdg (Int32.ofInt_toInt _).symm ?_
    exact kk H locs ls (Y.stk (List.forall_mem_cons.mpr ⟨tb_i32_in _, hor⟩))
  · cases hs

theorem tb_c_idiv (C : tb_Std X ρ fm D cT cS n0 y p R s m args c) (Y : tb_Dy ρ fm D cT cS n0 y s H locs ls lv st A) (hdg : decode (tb_by y) pc = .ok (.idiv, 1)) (hs : tb_step tb_P X (6, 9, b, z, l0, pc + 1) lv st A = some (pc', lv', st', A')) (kk : tb_G p l e R s m args below meth c cells slots Q ρ fm D cT cS n0 y pc' lv' st' A') : W p l e R s m args below meth c H locs cells slots Q (F0 m pc ls (st.map (tb_cv ρ fm))) := by
  obtain ⟨hx, hb, -⟩ := C
  rw [tb_e6] at hs
  split at hs
  · rename_i yv xv st1
    have hoy := Y.oks _ List.mem_cons_self
    have hox := Y.oks _ (List.mem_cons_of_mem _ List.mem_cons_self)
    have hor : ∀ v ∈ st1, tb_ok v := fun v h => Y.oks v (List.mem_cons_of_mem _ (List.mem_cons_of_mem _ h))
    by_cases h0 : yv = 0
    · simp [tb_bin, h0] at hs
    · simp only [tb_bin, h0, if_false] at hs
      cases hs
      have hv : Int32.ofInt xv / Int32.ofInt yv = Int32.ofInt (tb_w (xv.tdiv yv)) := tb_tdiv hox hoy
      refine lv_idiv hx hb hdg (fun h => h0 ((tb_eq hoy (y := 0) ⟨by decide, by decide⟩).mp h)) ?_
      rw [hv]
      exact kk H locs ls (Y.stk (List.forall_mem_cons.mpr ⟨tb_w_in _, hor⟩))
  · cases hs

theorem tb_c_irem (C : tb_Std X ρ fm D cT cS n0 y p R s m args c) (Y : tb_Dy ρ fm D cT cS n0 y s H locs ls lv st A) (hdg : decode (tb_by y) pc = .ok (.irem, 1)) (hs : tb_step tb_P X (6, 10, b, z, l0, pc + 1) lv st A = some (pc', lv', st', A')) (kk : tb_G p l e R s m args below meth c cells slots Q ρ fm D cT cS n0 y pc' lv' st' A') : W p l e R s m args below meth c H locs cells slots Q (F0 m pc ls (st.map (tb_cv ρ fm))) := by
  obtain ⟨hx, hb, -⟩ := C
  rw [tb_e6] at hs
  split at hs
  · rename_i yv xv st1
    have hoy := Y.oks _ List.mem_cons_self
    have hox := Y.oks _ (List.mem_cons_of_mem _ List.mem_cons_self)
    have hor : ∀ v ∈ st1, tb_ok v := fun v h => Y.oks v (List.mem_cons_of_mem _ (List.mem_cons_of_mem _ h))
    by_cases h0 : yv = 0
    · simp [tb_bin, h0] at hs
    · simp only [tb_bin, h0, if_false] at hs
      cases hs
      have hv : Int32.ofInt xv - Int32.ofInt xv / Int32.ofInt yv * Int32.ofInt yv = Int32.ofInt (xv.tmod yv) := tb_tmod hox hoy
      refine lv_irem hx hb hdg (fun h => h0 ((tb_eq hoy (y := 0) ⟨by decide, by decide⟩).mp h)) ?_
      rw [hv]
      exact kk H locs ls (Y.stk (List.forall_mem_cons.mpr ⟨tb_tmod_in hox hoy h0, hor⟩))
  · cases hs

theorem tb_c_ladd (C : tb_Std X ρ fm D cT cS n0 y p R s m args c) (Y : tb_Dy ρ fm D cT cS n0 y s H locs ls lv st A) (hdg : decode (tb_by y) pc = .ok (.ladd, 1)) (hs : tb_step tb_P X (8, 0, b, z, l0, pc + 1) lv st A = some (pc', lv', st', A')) (kk : tb_G p l e R s m args below meth c cells slots Q ρ fm D cT cS n0 y pc' lv' st' A') : W p l e R s m args below meth c H locs cells slots Q (F0 m pc ls (st.map (tb_cv ρ fm))) := by
  obtain ⟨hx, hb, -⟩ := C
  rw [tb_e8] at hs
  split at hs
  · rename_i yv xv st1
    have hoy := Y.oks _ List.mem_cons_self
    have hox := Y.oks _ (List.mem_cons_of_mem _ List.mem_cons_self)
    have hor : ∀ v ∈ st1, tb_ok v := fun v h => Y.oks v (List.mem_cons_of_mem _ (List.mem_cons_of_mem _ h))
    cases hs
    have hv : Int64.ofInt xv + Int64.ofInt yv = Int64.ofInt (tb_W (xv + yv)) := by rw [tb_ofW, Int64.ofInt_add]
    refine lv_ladd hx hb hdg ?_
    rw [hv]
    exact kk H locs ls (Y.stk (List.forall_mem_cons.mpr ⟨tb_W_in _, hor⟩))
  · cases hs

theorem tb_c_lsub (C : tb_Std X ρ fm D cT cS n0 y p R s m args c) (Y : tb_Dy ρ fm D cT cS n0 y s H locs ls lv st A) (hdg : decode (tb_by y) pc = .ok (.lsub, 1)) (hs : tb_step tb_P X (8, 1, b, z, l0, pc + 1) lv st A = some (pc', lv', st', A')) (kk : tb_G p l e R s m args below meth c cells slots Q ρ fm D cT cS n0 y pc' lv' st' A') : W p l e R s m args below meth c H locs cells slots Q (F0 m pc ls (st.map (tb_cv ρ fm))) := by
  obtain ⟨hx, hb, -⟩ := C
  rw [tb_e8] at hs
  split at hs
  · rename_i yv xv st1
    have hoy := Y.oks _ List.mem_cons_self
    have hox := Y.oks _ (List.mem_cons_of_mem _ List.mem_cons_self)
    have hor : ∀ v ∈ st1, tb_ok v := fun v h => Y.oks v (List.mem_cons_of_mem _ (List.mem_cons_of_mem _ h))
    cases hs
    have hv : Int64.ofInt xv - Int64.ofInt yv = Int64.ofInt (tb_W (xv - yv)) := by rw [tb_ofW, Int64.ofInt_sub]
    refine lv_lsub hx hb hdg ?_
    rw [hv]
    exact kk H locs ls (Y.stk (List.forall_mem_cons.mpr ⟨tb_W_in _, hor⟩))
  · cases hs

theorem tb_c_lmul (C : tb_Std X ρ fm D cT cS n0 y p R s m args c) (Y : tb_Dy ρ fm D cT cS n0 y s H locs ls lv st A) (hdg : decode (tb_by y) pc = .ok (.lmul, 1)) (hs : tb_step tb_P X (8, 2, b, z, l0, pc + 1) lv st A = some (pc', lv', st', A')) (kk : tb_G p l e R s m args below meth c cells slots Q ρ fm D cT cS n0 y pc' lv' st' A') : W p l e R s m args below meth c H locs cells slots Q (F0 m pc ls (st.map (tb_cv ρ fm))) := by
  obtain ⟨hx, hb, -⟩ := C
  rw [tb_e8] at hs
  split at hs
  · rename_i yv xv st1
    have hoy := Y.oks _ List.mem_cons_self
    have hox := Y.oks _ (List.mem_cons_of_mem _ List.mem_cons_self)
    have hor : ∀ v ∈ st1, tb_ok v := fun v h => Y.oks v (List.mem_cons_of_mem _ (List.mem_cons_of_mem _ h))
    cases hs
    have hv : Int64.ofInt xv * Int64.ofInt yv = Int64.ofInt (tb_W (xv * yv)) := by rw [tb_ofW, Int64.ofInt_mul]
    refine lv_lmul hx hb hdg ?_
    rw [hv]
    exact kk H locs ls (Y.stk (List.forall_mem_cons.mpr ⟨tb_W_in _, hor⟩))
  · cases hs

theorem tb_c_lcmp (C : tb_Std X ρ fm D cT cS n0 y p R s m args c) (Y : tb_Dy ρ fm D cT cS n0 y s H locs ls lv st A) (hdg : decode (tb_by y) pc = .ok (.lcmp, 1)) (hs : tb_step tb_P X (9, a, b, z, l0, pc + 1) lv st A = some (pc', lv', st', A')) (kk : tb_G p l e R s m args below meth c cells slots Q ρ fm D cT cS n0 y pc' lv' st' A') : W p l e R s m args below meth c H locs cells slots Q (F0 m pc ls (st.map (tb_cv ρ fm))) := by
  obtain ⟨hx, hb, -⟩ := C
  rw [tb_e9] at hs
  split at hs
  · rename_i yv xv st1
    have hoy := Y.oks _ List.mem_cons_self
    have hox := Y.oks _ (List.mem_cons_of_mem _ List.mem_cons_self)
    have hor : ∀ v ∈ st1, tb_ok v := fun v h => Y.oks v (List.mem_cons_of_mem _ (List.mem_cons_of_mem _ h))
    cases hs
    have hv : lg_cmp (Int64.ofInt xv) (Int64.ofInt yv) = Int32.ofInt (tb_lcmp xv yv) := by
      unfold lg_cmp tb_lcmp
      have q2 := tb_eqL hox hoy
      have q3 := tb_ltL hoy hox
      by_cases h1 : yv < xv
      · have h3 : ¬ xv < yv := by omega
        have h4 : ¬ xv = yv := by omega
        rw [if_pos (q3.mpr h1), if_neg h3, if_neg h4]
        rfl
      · by_cases h2 : xv = yv
        · have h3 : ¬ xv < yv := by omega
          rw [if_neg (fun h => h1 (q3.mp h)), if_pos (q2.mpr h2), if_neg h3, if_pos h2]
          rfl
        · have h3 : xv < yv := by omega
          rw [if_neg (fun h => h1 (q3.mp h)), if_neg (fun h => h2 (q2.mp h)), if_pos h3]
          rfl
    refine W.lcmp hx hb hdg ?_
    rw [hv]
    exact kk H locs ls (Y.stk (List.forall_mem_cons.mpr ⟨by show tb_inI (tb_lcmp xv yv); unfold tb_lcmp tb_inI; split <;> (try split) <;> omega, hor⟩))
  · cases hs

theorem tb_c_ineg (C : tb_Std X ρ fm D cT cS n0 y p R s m args c) (Y : tb_Dy ρ fm D cT cS n0 y s H locs ls lv st A) (hdg : decode (tb_by y) pc = .ok (.ineg, 1)) (hs : tb_step tb_P X (7, 0, b, z, l0, pc + 1) lv st A = some (pc', lv', st', A')) (kk : tb_G p l e R s m args below meth c cells slots Q ρ fm D cT cS n0 y pc' lv' st' A') : W p l e R s m args below meth c H locs cells slots Q (F0 m pc ls (st.map (tb_cv ρ fm))) := by
  obtain ⟨hx, hb, -⟩ := C
  rw [tb_e7] at hs
  split at hs
  · rename_i v st1
    have hov := Y.oks _ List.mem_cons_self
    have hor : ∀ v ∈ st1, tb_ok v := fun v h => Y.oks v (List.mem_cons_of_mem _ h)
    rcases v with x | x | x | x <;> simp only [tb_un] at hs <;> (try (cases hs; done))
    cases hs
    refine lv_ineg hx hb hdg ?_
    rw [tb_neg]
    exact kk H locs ls (Y.stk (List.forall_mem_cons.mpr ⟨tb_w_in _, hor⟩))
  · cases hs

theorem tb_c_i2l (C : tb_Std X ρ fm D cT cS n0 y p R s m args c) (Y : tb_Dy ρ fm D cT cS n0 y s H locs ls lv st A) (hdg : decode (tb_by y) pc = .ok (.i2l, 1)) (hs : tb_step tb_P X (7, 1, b, z, l0, pc + 1) lv st A = some (pc', lv', st', A')) (kk : tb_G p l e R s m args below meth c cells slots Q ρ fm D cT cS n0 y pc' lv' st' A') : W p l e R s m args below meth c H locs cells slots Q (F0 m pc ls (st.map (tb_cv ρ fm))) := by
  obtain ⟨hx, hb, -⟩ := C
  rw [tb_e7] at hs
  split at hs
  · rename_i v st1
    have hov := Y.oks _ List.mem_cons_self
    have hor : ∀ v ∈ st1, tb_ok v := fun v h => Y.oks v (List.mem_cons_of_mem _ h)
    rcases v with x | x | x | x <;> simp only [tb_un] at hs <;> (try (cases hs; done))
    cases hs
    have hox : tb_inI x := hov
    refine lv_i2l (v := Int64.ofInt x) hx hb hdg (tb_i2l hox) ?_
    exact kk H locs ls (Y.stk (List.forall_mem_cons.mpr ⟨⟨by have := hox.1; omega, by have := hox.2; omega⟩, hor⟩))
  · cases hs

theorem tb_c_l2i (C : tb_Std X ρ fm D cT cS n0 y p R s m args c) (Y : tb_Dy ρ fm D cT cS n0 y s H locs ls lv st A) (hdg : decode (tb_by y) pc = .ok (.l2i, 1)) (hs : tb_step tb_P X (7, 2, b, z, l0, pc + 1) lv st A = some (pc', lv', st', A')) (kk : tb_G p l e R s m args below meth c cells slots Q ρ fm D cT cS n0 y pc' lv' st' A') : W p l e R s m args below meth c H locs cells slots Q (F0 m pc ls (st.map (tb_cv ρ fm))) := by
  obtain ⟨hx, hb, -⟩ := C
  rw [tb_e7] at hs
  split at hs
  · rename_i v st1
    have hov := Y.oks _ List.mem_cons_self
    have hor : ∀ v ∈ st1, tb_ok v := fun v h => Y.oks v (List.mem_cons_of_mem _ h)
    rcases v with x | x | x | x <;> simp only [tb_un] at hs <;> (try (cases hs; done))
    cases hs
    refine lv_l2i (v := Int32.ofInt (tb_w x)) hx hb hdg (tb_l2i x) ?_
    exact kk H locs ls (Y.stk (List.forall_mem_cons.mpr ⟨tb_w_in _, hor⟩))
  · cases hs

theorem tb_c_i2b (C : tb_Std X ρ fm D cT cS n0 y p R s m args c) (Y : tb_Dy ρ fm D cT cS n0 y s H locs ls lv st A) (hdg : decode (tb_by y) pc = .ok (.i2b, 1)) (hs : tb_step tb_P X (7, 3, b, z, l0, pc + 1) lv st A = some (pc', lv', st', A')) (kk : tb_G p l e R s m args below meth c cells slots Q ρ fm D cT cS n0 y pc' lv' st' A') : W p l e R s m args below meth c H locs cells slots Q (F0 m pc ls (st.map (tb_cv ρ fm))) := by
  obtain ⟨hx, hb, -⟩ := C
  rw [tb_e7] at hs
  split at hs
  · rename_i v st1
    have hov := Y.oks _ List.mem_cons_self
    have hor : ∀ v ∈ st1, tb_ok v := fun v h => Y.oks v (List.mem_cons_of_mem _ h)
    rcases v with x | x | x | x <;> simp only [tb_un] at hs <;> (try (cases hs; done))
    cases hs
    refine lv_i2b (v := Int32.ofInt (tb_b8 x)) hx hb hdg (tb_i2b x) ?_
    exact kk H locs ls (Y.stk (List.forall_mem_cons.mpr ⟨tb_b8_in _, hor⟩))
  · cases hs

theorem tb_c_i2c (C : tb_Std X ρ fm D cT cS n0 y p R s m args c) (Y : tb_Dy ρ fm D cT cS n0 y s H locs ls lv st A) (hdg : decode (tb_by y) pc = .ok (.i2c, 1)) (hs : tb_step tb_P X (7, 4, b, z, l0, pc + 1) lv st A = some (pc', lv', st', A')) (kk : tb_G p l e R s m args below meth c cells slots Q ρ fm D cT cS n0 y pc' lv' st' A') : W p l e R s m args below meth c H locs cells slots Q (F0 m pc ls (st.map (tb_cv ρ fm))) := by
  obtain ⟨hx, hb, -⟩ := C
  rw [tb_e7] at hs
  split at hs
  · rename_i v st1
    have hov := Y.oks _ List.mem_cons_self
    have hor : ∀ v ∈ st1, tb_ok v := fun v h => Y.oks v (List.mem_cons_of_mem _ h)
    rcases v with x | x | x | x <;> simp only [tb_un] at hs <;> (try (cases hs; done))
    cases hs
    refine lv_i2c (v := Int32.ofInt (x % 65536)) hx hb hdg (tb_i2c x) ?_
    exact kk H locs ls (Y.stk (List.forall_mem_cons.mpr ⟨⟨by omega, by omega⟩, hor⟩))
  · cases hs

theorem tb_c_iconst (C : tb_Std X ρ fm D cT cS n0 y p R s m args c) (Y : tb_Dy ρ fm D cT cS n0 y s H locs ls lv st A) {n : Int} (hz : Int32.ofInt n = Int32.ofInt z) (hr : tb_inI z) (hdg : decode (tb_by y) pc = .ok (.iconst n, 1)) (hs : tb_step tb_P X (1, a, b, z, l0, pc + 1) lv st A = some (pc', lv', st', A')) (kk : tb_G p l e R s m args below meth c cells slots Q ρ fm D cT cS n0 y pc' lv' st' A') : W p l e R s m args below meth c H locs cells slots Q (F0 m pc ls (st.map (tb_cv ρ fm))) := by
  obtain ⟨hx, hb, -, hown, hts, -⟩ := C
  rw [tb_e1] at hs
  cases hs
  refine lv_iconst hx hb hdg hz ?_
  exact kk H locs ls (Y.stk (List.forall_mem_cons.mpr ⟨hr, Y.oks⟩))

theorem tb_c_bipush (C : tb_Std X ρ fm D cT cS n0 y p R s m args c) (Y : tb_Dy ρ fm D cT cS n0 y s H locs ls lv st A) {n : Int} (hz : (Int8.ofInt n).toInt32 = Int32.ofInt z) (hr : tb_inI z) (hdg : decode (tb_by y) pc = .ok (.bipush n, 2)) (hs : tb_step tb_P X (1, a, b, z, l0, pc + 2) lv st A = some (pc', lv', st', A')) (kk : tb_G p l e R s m args below meth c cells slots Q ρ fm D cT cS n0 y pc' lv' st' A') : W p l e R s m args below meth c H locs cells slots Q (F0 m pc ls (st.map (tb_cv ρ fm))) := by
  obtain ⟨hx, hb, -, hown, hts, -⟩ := C
  rw [tb_e1] at hs
  cases hs
  refine lv_bipush hx hb hdg hz ?_
  exact kk H locs ls (Y.stk (List.forall_mem_cons.mpr ⟨hr, Y.oks⟩))

theorem tb_c_sipush (C : tb_Std X ρ fm D cT cS n0 y p R s m args c) (Y : tb_Dy ρ fm D cT cS n0 y s H locs ls lv st A) {n : Int} (hz : (Int16.ofInt n).toInt32 = Int32.ofInt z) (hr : tb_inI z) (hdg : decode (tb_by y) pc = .ok (.sipush n, 3)) (hs : tb_step tb_P X (1, a, b, z, l0, pc + 3) lv st A = some (pc', lv', st', A')) (kk : tb_G p l e R s m args below meth c cells slots Q ρ fm D cT cS n0 y pc' lv' st' A') : W p l e R s m args below meth c H locs cells slots Q (F0 m pc ls (st.map (tb_cv ρ fm))) := by
  obtain ⟨hx, hb, -, hown, hts, -⟩ := C
  rw [tb_e1] at hs
  cases hs
  refine lv_sipush hx hb hdg hz ?_
  exact kk H locs ls (Y.stk (List.forall_mem_cons.mpr ⟨hr, Y.oks⟩))

theorem tb_c_ldcI (C : tb_Std X ρ fm D cT cS n0 y p R s m args c) (Y : tb_Dy ρ fm D cT cS n0 y s H locs ls lv st A) {i : Nat} (hw : Cond.constant (tb_ow (tb_oi y)) i (Int32.ofInt z) ∈ tb_gt) (hr : tb_inI z) (hdg : decode (tb_by y) pc = .ok (.ldc i, 2)) (hs : tb_step tb_P X (1, a, b, z, l0, pc + 2) lv st A = some (pc', lv', st', A')) (kk : tb_G p l e R s m args below meth c cells slots Q ρ fm D cT cS n0 y pc' lv' st' A') : W p l e R s m args below meth c H locs cells slots Q (F0 m pc ls (st.map (tb_cv ρ fm))) := by
  obtain ⟨hx, hb, -, hown, hts, -⟩ := C
  rw [tb_e1] at hs
  cases hs
  refine lv_ldc hx hb hown (hts _ hw) hdg ?_
  exact kk H locs ls (Y.stk (List.forall_mem_cons.mpr ⟨hr, Y.oks⟩))

theorem tb_c_ldcwI (C : tb_Std X ρ fm D cT cS n0 y p R s m args c) (Y : tb_Dy ρ fm D cT cS n0 y s H locs ls lv st A) {i : Nat} (hw : Cond.constant (tb_ow (tb_oi y)) i (Int32.ofInt z) ∈ tb_gt) (hr : tb_inI z) (hdg : decode (tb_by y) pc = .ok (.ldc_w i, 3)) (hs : tb_step tb_P X (1, a, b, z, l0, pc + 3) lv st A = some (pc', lv', st', A')) (kk : tb_G p l e R s m args below meth c cells slots Q ρ fm D cT cS n0 y pc' lv' st' A') : W p l e R s m args below meth c H locs cells slots Q (F0 m pc ls (st.map (tb_cv ρ fm))) := by
  obtain ⟨hx, hb, -, hown, hts, -⟩ := C
  rw [tb_e1] at hs
  cases hs
  refine lv_ldcw hx hb hown (hts _ hw) hdg ?_
  exact kk H locs ls (Y.stk (List.forall_mem_cons.mpr ⟨hr, Y.oks⟩))

theorem tb_c_ldc2 (C : tb_Std X ρ fm D cT cS n0 y p R s m args c) (Y : tb_Dy ρ fm D cT cS n0 y s H locs ls lv st A) {i : Nat} (hw : Cond.constantLong (tb_ow (tb_oi y)) i (Int64.ofInt z) ∈ tb_gt) (hr : tb_inL z) (hdg : decode (tb_by y) pc = .ok (.ldc2_w i, 3)) (hs : tb_step tb_P X (2, a, b, z, l0, pc + 3) lv st A = some (pc', lv', st', A')) (kk : tb_G p l e R s m args below meth c cells slots Q ρ fm D cT cS n0 y pc' lv' st' A') : W p l e R s m args below meth c H locs cells slots Q (F0 m pc ls (st.map (tb_cv ρ fm))) := by
  obtain ⟨hx, hb, -, hown, hts, -⟩ := C
  rw [tb_e2] at hs
  cases hs
  refine lv_ldc2 hx hb hown (hts _ hw) hdg ?_
  exact kk H locs ls (Y.stk (List.forall_mem_cons.mpr ⟨hr, Y.oks⟩))

theorem tb_c_lconst (C : tb_Std X ρ fm D cT cS n0 y p R s m args c) (Y : tb_Dy ρ fm D cT cS n0 y s H locs ls lv st A) {n : Fin 2} (hz : Int64.ofNat (n : Nat) = Int64.ofInt z) (hr : tb_inL z) (hdg : decode (tb_by y) pc = .ok (.lconst n, 1)) (hs : tb_step tb_P X (2, a, b, z, l0, pc + 1) lv st A = some (pc', lv', st', A')) (kk : tb_G p l e R s m args below meth c cells slots Q ρ fm D cT cS n0 y pc' lv' st' A') : W p l e R s m args below meth c H locs cells slots Q (F0 m pc ls (st.map (tb_cv ρ fm))) := by
  obtain ⟨hx, hb, -, hown, hts, -⟩ := C
  rw [tb_e2] at hs
  cases hs
  refine lv_lconst hx hb hdg hz ?_
  exact kk H locs ls (Y.stk (List.forall_mem_cons.mpr ⟨hr, Y.oks⟩))

theorem tb_c_null (C : tb_Std X ρ fm D cT cS n0 y p R s m args c) (Y : tb_Dy ρ fm D cT cS n0 y s H locs ls lv st A) (hdg : decode (tb_by y) pc = .ok (.aconst_null, 1)) (hs : tb_step tb_P X (26, a, b, z, l0, pc + 1) lv st A = some (pc', lv', st', A')) (kk : tb_G p l e R s m args below meth c cells slots Q ρ fm D cT cS n0 y pc' lv' st' A') : W p l e R s m args below meth c H locs cells slots Q (F0 m pc ls (st.map (tb_cv ρ fm))) := by
  obtain ⟨hx, hb, -, hown, hts, -⟩ := C
  rw [tb_e26] at hs
  cases hs
  refine lv_null hx hb hdg ?_
  exact kk H locs ls (Y.stk (List.forall_mem_cons.mpr ⟨trivial, Y.oks⟩))

theorem tb_c_iload_n (C : tb_Std X ρ fm D cT cS n0 y p R s m args c) (Y : tb_Dy ρ fm D cT cS n0 y s H locs ls lv st A) {k : Fin 4} (hdg : decode (tb_by y) pc = .ok (.iload_n k, 1)) (hs : tb_step tb_P X (3, (k : Nat), 0, z, l0, pc + 1) lv st A = some (pc', lv', st', A')) (kk : tb_G p l e R s m args below meth c cells slots Q ρ fm D cT cS n0 y pc' lv' st' A') : W p l e R s m args below meth c H locs cells slots Q (F0 m pc ls (st.map (tb_cv ρ fm))) := by
  obtain ⟨hx, hb, -, -, -, -, -, hfm, -⟩ := C
  rw [tb_e3] at hs
  split at hs
  · rename_i v hv
    by_cases hk : tb_isk 0 v = true
    · rw [if_pos hk] at hs
      cases hs
      have hov := Y.okl v (List.mem_of_getElem? hv)
      have hY := Y.2.2.1
      rcases v with x | x | x | x <;> simp only [tb_isk] at hk <;> (try (cases hk; done))
      refine lv_iload_n hx hb hdg rfl (tb_lv hY hv rfl) ?_
      exact kk H locs ls (Y.stk (List.forall_mem_cons.mpr ⟨hov, Y.oks⟩))
    · rw [if_neg hk] at hs; cases hs
  · cases hs

theorem tb_c_iload (C : tb_Std X ρ fm D cT cS n0 y p R s m args c) (Y : tb_Dy ρ fm D cT cS n0 y s H locs ls lv st A) {k : Nat} (hdg : decode (tb_by y) pc = .ok (.iload k, 2)) (hs : tb_step tb_P X (3, k, 0, z, l0, pc + 2) lv st A = some (pc', lv', st', A')) (kk : tb_G p l e R s m args below meth c cells slots Q ρ fm D cT cS n0 y pc' lv' st' A') : W p l e R s m args below meth c H locs cells slots Q (F0 m pc ls (st.map (tb_cv ρ fm))) := by
  obtain ⟨hx, hb, -, -, -, -, -, hfm, -⟩ := C
  rw [tb_e3] at hs
  split at hs
  · rename_i v hv
    by_cases hk : tb_isk 0 v = true
    · rw [if_pos hk] at hs
      cases hs
      have hov := Y.okl v (List.mem_of_getElem? hv)
      have hY := Y.2.2.1
      rcases v with x | x | x | x <;> simp only [tb_isk] at hk <;> (try (cases hk; done))
      refine lv_iload hx hb hdg (tb_lv hY hv rfl) ?_
      exact kk H locs ls (Y.stk (List.forall_mem_cons.mpr ⟨hov, Y.oks⟩))
    · rw [if_neg hk] at hs; cases hs
  · cases hs

theorem tb_c_lload_n (C : tb_Std X ρ fm D cT cS n0 y p R s m args c) (Y : tb_Dy ρ fm D cT cS n0 y s H locs ls lv st A) {k : Fin 4} (hdg : decode (tb_by y) pc = .ok (.lload_n k, 1)) (hs : tb_step tb_P X (3, (k : Nat), 1, z, l0, pc + 1) lv st A = some (pc', lv', st', A')) (kk : tb_G p l e R s m args below meth c cells slots Q ρ fm D cT cS n0 y pc' lv' st' A') : W p l e R s m args below meth c H locs cells slots Q (F0 m pc ls (st.map (tb_cv ρ fm))) := by
  obtain ⟨hx, hb, -, -, -, -, -, hfm, -⟩ := C
  rw [tb_e3] at hs
  split at hs
  · rename_i v hv
    by_cases hk : tb_isk 1 v = true
    · rw [if_pos hk] at hs
      cases hs
      have hov := Y.okl v (List.mem_of_getElem? hv)
      have hY := Y.2.2.1
      rcases v with x | x | x | x <;> simp only [tb_isk] at hk <;> (try (cases hk; done))
      refine lv_lload_n hx hb hdg rfl (tb_lv hY hv rfl) ?_
      exact kk H locs ls (Y.stk (List.forall_mem_cons.mpr ⟨hov, Y.oks⟩))
    · rw [if_neg hk] at hs; cases hs
  · cases hs

theorem tb_c_lload (C : tb_Std X ρ fm D cT cS n0 y p R s m args c) (Y : tb_Dy ρ fm D cT cS n0 y s H locs ls lv st A) {k : Nat} (hdg : decode (tb_by y) pc = .ok (.lload k, 2)) (hs : tb_step tb_P X (3, k, 1, z, l0, pc + 2) lv st A = some (pc', lv', st', A')) (kk : tb_G p l e R s m args below meth c cells slots Q ρ fm D cT cS n0 y pc' lv' st' A') : W p l e R s m args below meth c H locs cells slots Q (F0 m pc ls (st.map (tb_cv ρ fm))) := by
  obtain ⟨hx, hb, -, -, -, -, -, hfm, -⟩ := C
  rw [tb_e3] at hs
  split at hs
  · rename_i v hv
    by_cases hk : tb_isk 1 v = true
    · rw [if_pos hk] at hs
      cases hs
      have hov := Y.okl v (List.mem_of_getElem? hv)
      have hY := Y.2.2.1
      rcases v with x | x | x | x <;> simp only [tb_isk] at hk <;> (try (cases hk; done))
      refine lv_lload hx hb hdg (tb_lv hY hv rfl) ?_
      exact kk H locs ls (Y.stk (List.forall_mem_cons.mpr ⟨hov, Y.oks⟩))
    · rw [if_neg hk] at hs; cases hs
  · cases hs

theorem tb_c_istore_n (C : tb_Std X ρ fm D cT cS n0 y p R s m args c) (Y : tb_Dy ρ fm D cT cS n0 y s H locs ls lv st A) {k : Fin 4} (hdg : decode (tb_by y) pc = .ok (.istore_n k, 1)) (hs : tb_step tb_P X (4, (k : Nat), 0, z, l0, pc + 1) lv st A = some (pc', lv', st', A')) (kk : tb_G p l e R s m args below meth c cells slots Q ρ fm D cT cS n0 y pc' lv' st' A') : W p l e R s m args below meth c H locs cells slots Q (F0 m pc ls (st.map (tb_cv ρ fm))) := by
  obtain ⟨hx, hb, hml, -, -, -, -, hfm, -⟩ := C
  rw [tb_e4] at hs
  split at hs
  · rename_i v st1
    by_cases hk : tb_isk 0 v = true
    · rw [if_pos hk] at hs
      have hov := Y.oks _ List.mem_cons_self
      have hor : ∀ v ∈ st1, tb_ok v := fun v h => Y.oks v (List.mem_cons_of_mem _ h)
      split at hs
      · rename_i lv2 hv
        cases hs
        obtain ⟨hP, hS, hL, hn, hol, -, hA1, hA2⟩ := Y
        rcases v with x | x | x | x <;> simp only [tb_isk] at hk <;> (try (cases hk; done))
        obtain ⟨ls', e1, e2, e3⟩ := tb_has_set hfm hL hn hv
        refine tb_Wistore_n hx hb hdg e1 ?_
        exact kk H locs ls' ⟨hP, hS, e2, e3, tb_set_ok hv hol hov, hor, hA1, hA2⟩
      · cases hs
    · rw [if_neg hk] at hs; cases hs
  · cases hs

theorem tb_c_lstore_n (C : tb_Std X ρ fm D cT cS n0 y p R s m args c) (Y : tb_Dy ρ fm D cT cS n0 y s H locs ls lv st A) {k : Fin 4} (hdg : decode (tb_by y) pc = .ok (.lstore_n k, 1)) (hs : tb_step tb_P X (4, (k : Nat), 1, z, l0, pc + 1) lv st A = some (pc', lv', st', A')) (kk : tb_G p l e R s m args below meth c cells slots Q ρ fm D cT cS n0 y pc' lv' st' A') : W p l e R s m args below meth c H locs cells slots Q (F0 m pc ls (st.map (tb_cv ρ fm))) := by
  obtain ⟨hx, hb, hml, -, -, -, -, hfm, -⟩ := C
  rw [tb_e4] at hs
  split at hs
  · rename_i v st1
    by_cases hk : tb_isk 1 v = true
    · rw [if_pos hk] at hs
      have hov := Y.oks _ List.mem_cons_self
      have hor : ∀ v ∈ st1, tb_ok v := fun v h => Y.oks v (List.mem_cons_of_mem _ h)
      split at hs
      · rename_i lv2 hv
        cases hs
        obtain ⟨hP, hS, hL, hn, hol, -, hA1, hA2⟩ := Y
        rcases v with x | x | x | x <;> simp only [tb_isk] at hk <;> (try (cases hk; done))
        obtain ⟨ls', e1, e2, e3⟩ := tb_has_set hfm hL hn hv
        refine tb_Wlstore_n hx hb hdg e1 ?_
        exact kk H locs ls' ⟨hP, hS, e2, e3, tb_set_ok hv hol hov, hor, hA1, hA2⟩
      · cases hs
    · rw [if_neg hk] at hs; cases hs
  · cases hs

theorem tb_c_astore_n (C : tb_Std X ρ fm D cT cS n0 y p R s m args c) (Y : tb_Dy ρ fm D cT cS n0 y s H locs ls lv st A) {k : Fin 4} (hdg : decode (tb_by y) pc = .ok (.astore_n k, 1)) (hs : tb_step tb_P X (4, (k : Nat), 2, z, l0, pc + 1) lv st A = some (pc', lv', st', A')) (kk : tb_G p l e R s m args below meth c cells slots Q ρ fm D cT cS n0 y pc' lv' st' A') : W p l e R s m args below meth c H locs cells slots Q (F0 m pc ls (st.map (tb_cv ρ fm))) := by
  obtain ⟨hx, hb, hml, -, -, -, -, hfm, -⟩ := C
  rw [tb_e4] at hs
  split at hs
  · rename_i v st1
    by_cases hk : tb_isk 2 v = true
    · rw [if_pos hk] at hs
      have hov := Y.oks _ List.mem_cons_self
      have hor : ∀ v ∈ st1, tb_ok v := fun v h => Y.oks v (List.mem_cons_of_mem _ h)
      split at hs
      · rename_i lv2 hv
        cases hs
        obtain ⟨hP, hS, hL, hn, hol, -, hA1, hA2⟩ := Y
        obtain ⟨ls', e1, e2, e3⟩ := tb_has_set hfm hL hn hv
        refine tb_Wastore_n hx hb hdg (tb_cvr hfm hk).1 e1 ?_
        exact kk H locs ls' ⟨hP, hS, e2, e3, tb_set_ok hv hol hov, hor, hA1, hA2⟩
      · cases hs
    · rw [if_neg hk] at hs; cases hs
  · cases hs

theorem tb_c_aload_n (C : tb_Std X ρ fm D cT cS n0 y p R s m args c) (Y : tb_Dy ρ fm D cT cS n0 y s H locs ls lv st A) {k : Fin 4} (hdg : decode (tb_by y) pc = .ok (.aload_n k, 1)) (hs : tb_step tb_P X (3, (k : Nat), 2, z, l0, pc + 1) lv st A = some (pc', lv', st', A')) (kk : tb_G p l e R s m args below meth c cells slots Q ρ fm D cT cS n0 y pc' lv' st' A') : W p l e R s m args below meth c H locs cells slots Q (F0 m pc ls (st.map (tb_cv ρ fm))) := by
  obtain ⟨hx, hb, -, -, -, -, -, hfm, -⟩ := C
  rw [tb_e3] at hs
  split at hs
  · rename_i v hv
    by_cases hk : tb_isk 2 v = true
    · rw [if_pos hk] at hs
      cases hs
      have hov := Y.okl v (List.mem_of_getElem? hv)
      have hY := Y.2.2.1
      refine tb_Waload_n hx hb hdg (tb_lv hY hv (tb_cvr (ρ := ρ) hfm hk).2) (tb_cvr hfm hk).1 ?_
      exact kk H locs ls (Y.stk (List.forall_mem_cons.mpr ⟨hov, Y.oks⟩))
    · rw [if_neg hk] at hs; cases hs
  · cases hs

theorem tb_c_istore (C : tb_Std X ρ fm D cT cS n0 y p R s m args c) (Y : tb_Dy ρ fm D cT cS n0 y s H locs ls lv st A) {k : Nat} (hdg : decode (tb_by y) pc = .ok (.istore k, 2)) (hs : tb_step tb_P X (4, k, 0, z, l0, pc + 2) lv st A = some (pc', lv', st', A')) (kk : tb_G p l e R s m args below meth c cells slots Q ρ fm D cT cS n0 y pc' lv' st' A') : W p l e R s m args below meth c H locs cells slots Q (F0 m pc ls (st.map (tb_cv ρ fm))) := by
  obtain ⟨hx, hb, hml, -, -, -, -, hfm, -⟩ := C
  rw [tb_e4] at hs
  split at hs
  · rename_i v st1
    by_cases hk : tb_isk 0 v = true
    · rw [if_pos hk] at hs
      have hov := Y.oks _ List.mem_cons_self
      have hor : ∀ v ∈ st1, tb_ok v := fun v h => Y.oks v (List.mem_cons_of_mem _ h)
      split at hs
      · rename_i lv2 hv
        cases hs
        obtain ⟨hP, hS, hL, hn, hol, -, hA1, hA2⟩ := Y
        rcases v with x | x | x | x <;> simp only [tb_isk] at hk <;> (try (cases hk; done))
        obtain ⟨ls', e1, e2, e3⟩ := tb_has_set hfm hL hn hv
        refine tb_Wistore hx hb hdg e1 ?_
        exact kk H locs ls' ⟨hP, hS, e2, e3, tb_set_ok hv hol hov, hor, hA1, hA2⟩
      · cases hs
    · rw [if_neg hk] at hs; cases hs
  · cases hs

theorem tb_c_lstore (C : tb_Std X ρ fm D cT cS n0 y p R s m args c) (Y : tb_Dy ρ fm D cT cS n0 y s H locs ls lv st A) {k : Nat} (hdg : decode (tb_by y) pc = .ok (.lstore k, 2)) (hs : tb_step tb_P X (4, k, 1, z, l0, pc + 2) lv st A = some (pc', lv', st', A')) (kk : tb_G p l e R s m args below meth c cells slots Q ρ fm D cT cS n0 y pc' lv' st' A') : W p l e R s m args below meth c H locs cells slots Q (F0 m pc ls (st.map (tb_cv ρ fm))) := by
  obtain ⟨hx, hb, hml, -, -, -, -, hfm, -⟩ := C
  rw [tb_e4] at hs
  split at hs
  · rename_i v st1
    by_cases hk : tb_isk 1 v = true
    · rw [if_pos hk] at hs
      have hov := Y.oks _ List.mem_cons_self
      have hor : ∀ v ∈ st1, tb_ok v := fun v h => Y.oks v (List.mem_cons_of_mem _ h)
      split at hs
      · rename_i lv2 hv
        cases hs
        obtain ⟨hP, hS, hL, hn, hol, -, hA1, hA2⟩ := Y
        rcases v with x | x | x | x <;> simp only [tb_isk] at hk <;> (try (cases hk; done))
        obtain ⟨ls', e1, e2, e3⟩ := tb_has_set hfm hL hn hv
        refine tb_Wlstore hx hb hdg e1 ?_
        exact kk H locs ls' ⟨hP, hS, e2, e3, tb_set_ok hv hol hov, hor, hA1, hA2⟩
      · cases hs
    · rw [if_neg hk] at hs; cases hs
  · cases hs

theorem tb_c_astore (C : tb_Std X ρ fm D cT cS n0 y p R s m args c) (Y : tb_Dy ρ fm D cT cS n0 y s H locs ls lv st A) {k : Nat} (hdg : decode (tb_by y) pc = .ok (.astore k, 2)) (hs : tb_step tb_P X (4, k, 2, z, l0, pc + 2) lv st A = some (pc', lv', st', A')) (kk : tb_G p l e R s m args below meth c cells slots Q ρ fm D cT cS n0 y pc' lv' st' A') : W p l e R s m args below meth c H locs cells slots Q (F0 m pc ls (st.map (tb_cv ρ fm))) := by
  obtain ⟨hx, hb, hml, -, -, -, -, hfm, -⟩ := C
  rw [tb_e4] at hs
  split at hs
  · rename_i v st1
    by_cases hk : tb_isk 2 v = true
    · rw [if_pos hk] at hs
      have hov := Y.oks _ List.mem_cons_self
      have hor : ∀ v ∈ st1, tb_ok v := fun v h => Y.oks v (List.mem_cons_of_mem _ h)
      split at hs
      · rename_i lv2 hv
        cases hs
        obtain ⟨hP, hS, hL, hn, hol, -, hA1, hA2⟩ := Y
        obtain ⟨ls', e1, e2, e3⟩ := tb_has_set hfm hL hn hv
        refine tb_Wastore hx hb hdg (tb_cvr hfm hk).1 e1 ?_
        exact kk H locs ls' ⟨hP, hS, e2, e3, tb_set_ok hv hol hov, hor, hA1, hA2⟩
      · cases hs
    · rw [if_neg hk] at hs; cases hs
  · cases hs

theorem tb_c_aload (C : tb_Std X ρ fm D cT cS n0 y p R s m args c) (Y : tb_Dy ρ fm D cT cS n0 y s H locs ls lv st A) {k : Nat} (hdg : decode (tb_by y) pc = .ok (.aload k, 2)) (hs : tb_step tb_P X (3, k, 2, z, l0, pc + 2) lv st A = some (pc', lv', st', A')) (kk : tb_G p l e R s m args below meth c cells slots Q ρ fm D cT cS n0 y pc' lv' st' A') : W p l e R s m args below meth c H locs cells slots Q (F0 m pc ls (st.map (tb_cv ρ fm))) := by
  obtain ⟨hx, hb, -, -, -, -, -, hfm, -⟩ := C
  rw [tb_e3] at hs
  split at hs
  · rename_i v hv
    by_cases hk : tb_isk 2 v = true
    · rw [if_pos hk] at hs
      cases hs
      have hov := Y.okl v (List.mem_of_getElem? hv)
      have hY := Y.2.2.1
      refine tb_Waload hx hb hdg (tb_lv hY hv (tb_cvr (ρ := ρ) hfm hk).2) (tb_cvr hfm hk).1 ?_
      exact kk H locs ls (Y.stk (List.forall_mem_cons.mpr ⟨hov, Y.oks⟩))
    · rw [if_neg hk] at hs; cases hs
  · cases hs

theorem tb_c_iinc (C : tb_Std X ρ fm D cT cS n0 y p R s m args c) (Y : tb_Dy ρ fm D cT cS n0 y s H locs ls lv st A) (hdg : decode (tb_by y) pc = .ok (.iinc a z, 3)) (hs : tb_step tb_P X (5, a, b, z, l0, pc + 3) lv st A = some (pc', lv', st', A')) (kk : tb_G p l e R s m args below meth c cells slots Q ρ fm D cT cS n0 y pc' lv' st' A') : W p l e R s m args below meth c H locs cells slots Q (F0 m pc ls (st.map (tb_cv ρ fm))) := by
  obtain ⟨hx, hb, hml, -, -, -, -, hfm, -⟩ := C
  rw [tb_e5] at hs
  split at hs
  · rename_i x hv
    split at hs
    · rename_i lv2 hv2
      cases hs
      have hg := tb_lv Y.2.2.1 hv rfl
      have hor := Y.oks
      obtain ⟨hP, hS, hL, hn, hol, -, hA1, hA2⟩ := Y
      obtain ⟨ls', e1, e2, e3⟩ := tb_has_set hfm hL hn hv2
      refine tb_Wiinc hx hb hdg hg (ls2 := ls') ?_ ?_
      · rw [← Int32.ofInt_add, ← tb_ofw]
        exact e1
      · exact kk H locs ls' ⟨hP, hS, e2, e3, tb_set_ok hv2 hol (tb_w_in _), hor, hA1, hA2⟩
    · cases hs
  · cases hs

theorem tb_c_dup (C : tb_Std X ρ fm D cT cS n0 y p R s m args c) (Y : tb_Dy ρ fm D cT cS n0 y s H locs ls lv st A) (hdg : decode (tb_by y) pc = .ok (.dup, 1)) (hs : tb_step tb_P X (10, a, b, z, l0, pc + 1) lv st A = some (pc', lv', st', A')) (kk : tb_G p l e R s m args below meth c cells slots Q ρ fm D cT cS n0 y pc' lv' st' A') : W p l e R s m args below meth c H locs cells slots Q (F0 m pc ls (st.map (tb_cv ρ fm))) := by
  have hfm := C.2.2.2.2.2.2.2.1
  obtain ⟨hx, hb, -⟩ := C
  rw [tb_e10] at hs
  split at hs
  · rename_i v st1
    have hov := Y.oks _ List.mem_cons_self
    have hor : ∀ v ∈ st1, tb_ok v := fun v h => Y.oks v (List.mem_cons_of_mem _ h)
    by_cases hc : tb_cat v = 1
    · rw [if_pos hc] at hs
      cases hs
      refine lv_dup hx hb hdg (by rw [tb_cat_cv hfm]; exact hc) ?_
      exact kk H locs ls (Y.stk (List.forall_mem_cons.mpr ⟨hov, List.forall_mem_cons.mpr ⟨hov, hor⟩⟩))
    · rw [if_neg hc] at hs; cases hs
  · cases hs

theorem tb_c_pop (C : tb_Std X ρ fm D cT cS n0 y p R s m args c) (Y : tb_Dy ρ fm D cT cS n0 y s H locs ls lv st A) (hdg : decode (tb_by y) pc = .ok (.pop, 1)) (hs : tb_step tb_P X (12, a, b, z, l0, pc + 1) lv st A = some (pc', lv', st', A')) (kk : tb_G p l e R s m args below meth c cells slots Q ρ fm D cT cS n0 y pc' lv' st' A') : W p l e R s m args below meth c H locs cells slots Q (F0 m pc ls (st.map (tb_cv ρ fm))) := by
  have hfm := C.2.2.2.2.2.2.2.1
  obtain ⟨hx, hb, -⟩ := C
  rw [tb_e12] at hs
  split at hs
  · rename_i v st1
    have hov := Y.oks _ List.mem_cons_self
    have hor : ∀ v ∈ st1, tb_ok v := fun v h => Y.oks v (List.mem_cons_of_mem _ h)
    by_cases hc : tb_cat v = 1
    · rw [if_pos hc] at hs
      cases hs
      refine lv_pop hx hb hdg (by rw [tb_cat_cv hfm]; exact hc) ?_
      exact kk H locs ls (Y.stk hor)
    · rw [if_neg hc] at hs; cases hs
  · cases hs

theorem tb_c_dup2 (C : tb_Std X ρ fm D cT cS n0 y p R s m args c) (Y : tb_Dy ρ fm D cT cS n0 y s H locs ls lv st A) (hdg : decode (tb_by y) pc = .ok (.dup2, 1)) (hs : tb_step tb_P X (11, a, b, z, l0, pc + 1) lv st A = some (pc', lv', st', A')) (kk : tb_G p l e R s m args below meth c cells slots Q ρ fm D cT cS n0 y pc' lv' st' A') : W p l e R s m args below meth c H locs cells slots Q (F0 m pc ls (st.map (tb_cv ρ fm))) := by
  have hfm := C.2.2.2.2.2.2.2.1
  obtain ⟨hx, hb, -⟩ := C
  rw [tb_e11] at hs
  split at hs
  · rename_i yv xv st1
    have hoy := Y.oks _ List.mem_cons_self
    have hox := Y.oks _ (List.mem_cons_of_mem _ List.mem_cons_self)
    have hor : ∀ v ∈ st1, tb_ok v := fun v h => Y.oks v (List.mem_cons_of_mem _ (List.mem_cons_of_mem _ h))
    by_cases hc : tb_cat yv = 1 ∧ tb_cat xv = 1
    · rw [if_pos hc] at hs
      cases hs
      refine lv_dup2_11 hx hb hdg (by rw [tb_cat_cv hfm]; exact hc.1) (by rw [tb_cat_cv hfm]; exact hc.2) ?_
      exact kk H locs ls (Y.stk (List.forall_mem_cons.mpr ⟨hoy, List.forall_mem_cons.mpr ⟨hox, List.forall_mem_cons.mpr ⟨hoy, List.forall_mem_cons.mpr ⟨hox, hor⟩⟩⟩⟩))
    · rw [if_neg hc] at hs; cases hs
  · cases hs

theorem tb_c_goto (C : tb_Std X ρ fm D cT cS n0 y p R s m args c) (Y : tb_Dy ρ fm D cT cS n0 y s H locs ls lv st A) {off : Int} (ht : (pc : Int) + off = (a : Int)) (hdg : decode (tb_by y) pc = .ok (.goto off, 3)) (hs : tb_step tb_P X (13, a, b, z, l0, nx) lv st A = some (pc', lv', st', A')) (kk : tb_G p l e R s m args below meth c cells slots Q ρ fm D cT cS n0 y pc' lv' st' A') : W p l e R s m args below meth c H locs cells slots Q (F0 m pc ls (st.map (tb_cv ρ fm))) := by
  obtain ⟨hx, hb, -⟩ := C
  rw [tb_e13] at hs
  cases hs
  refine lv_goto hx hb hdg ht ?_
  exact kk H locs ls Y

theorem tb_c_if_eq (C : tb_Std X ρ fm D cT cS n0 y p R s m args c) (Y : tb_Dy ρ fm D cT cS n0 y s H locs ls lv st A) {off : Int} (ht : (pc : Int) + off = (a : Int)) (hdg : decode (tb_by y) pc = .ok (.ifCond .eq off, 3)) (hs : tb_step tb_P X (14, a, 0, z, l0, pc + 3) lv st A = some (pc', lv', st', A')) (kk : tb_G p l e R s m args below meth c cells slots Q ρ fm D cT cS n0 y pc' lv' st' A') : W p l e R s m args below meth c H locs cells slots Q (F0 m pc ls (st.map (tb_cv ρ fm))) := by
  obtain ⟨hx, hb, -⟩ := C
  rw [tb_e14] at hs
  split at hs
  · rename_i xv st1
    have hox := Y.oks _ List.mem_cons_self
    have hor : ∀ v ∈ st1, tb_ok v := fun v h => Y.oks v (List.mem_cons_of_mem _ h)
    cases hs
    have hox' : tb_inI xv := hox
    have hi := tb_eq hox (⟨by decide, by decide⟩ : tb_inI 0)
    refine lv_if_eq hx hb hdg ht (fun h => ?_) (fun h => ?_)
    · have h' : xv = 0 := hi.mp h
      rw [show (if tb_cmp 0 xv 0 = true then a else pc + 3) = a from if_pos (by simp only [tb_cmp]; simp; omega)] at kk
      exact kk H locs ls (Y.stk hor)
    · have h' : ¬ (xv = 0) := fun q => h (hi.mpr q)
      rw [show (if tb_cmp 0 xv 0 = true then a else pc + 3) = pc + 3 from if_neg (by simp only [tb_cmp]; simp; omega)] at kk
      exact kk H locs ls (Y.stk hor)
  · cases hs

theorem tb_c_icmp_eq (C : tb_Std X ρ fm D cT cS n0 y p R s m args c) (Y : tb_Dy ρ fm D cT cS n0 y s H locs ls lv st A) {off : Int} (ht : (pc : Int) + off = (a : Int)) (hdg : decode (tb_by y) pc = .ok (.if_icmp .eq off, 3)) (hs : tb_step tb_P X (15, a, 0, z, l0, pc + 3) lv st A = some (pc', lv', st', A')) (kk : tb_G p l e R s m args below meth c cells slots Q ρ fm D cT cS n0 y pc' lv' st' A') : W p l e R s m args below meth c H locs cells slots Q (F0 m pc ls (st.map (tb_cv ρ fm))) := by
  obtain ⟨hx, hb, -⟩ := C
  rw [tb_e15] at hs
  split at hs
  · rename_i yv xv st1
    have hoy := Y.oks _ List.mem_cons_self
    have hox := Y.oks _ (List.mem_cons_of_mem _ List.mem_cons_self)
    have hor : ∀ v ∈ st1, tb_ok v := fun v h => Y.oks v (List.mem_cons_of_mem _ (List.mem_cons_of_mem _ h))
    cases hs
    have hox' : tb_inI xv := hox
    have hi := tb_eq hox hoy
    refine lv_icmp_eq hx hb hdg ht (fun h => ?_) (fun h => ?_)
    · have h' : xv = yv := hi.mp h
      rw [show (if tb_cmp 0 xv yv = true then a else pc + 3) = a from if_pos (by simp only [tb_cmp]; simp; omega)] at kk
      exact kk H locs ls (Y.stk hor)
    · have h' : ¬ (xv = yv) := fun q => h (hi.mpr q)
      rw [show (if tb_cmp 0 xv yv = true then a else pc + 3) = pc + 3 from if_neg (by simp only [tb_cmp]; simp; omega)] at kk
      exact kk H locs ls (Y.stk hor)
  · cases hs

theorem tb_c_if_ne (C : tb_Std X ρ fm D cT cS n0 y p R s m args c) (Y : tb_Dy ρ fm D cT cS n0 y s H locs ls lv st A) {off : Int} (ht : (pc : Int) + off = (a : Int)) (hdg : decode (tb_by y) pc = .ok (.ifCond .ne off, 3)) (hs : tb_step tb_P X (14, a, 1, z, l0, pc + 3) lv st A = some (pc', lv', st', A')) (kk : tb_G p l e R s m args below meth c cells slots Q ρ fm D cT cS n0 y pc' lv' st' A') : W p l e R s m args below meth c H locs cells slots Q (F0 m pc ls (st.map (tb_cv ρ fm))) := by
  obtain ⟨hx, hb, -⟩ := C
  rw [tb_e14] at hs
  split at hs
  · rename_i xv st1
    have hox := Y.oks _ List.mem_cons_self
    have hor : ∀ v ∈ st1, tb_ok v := fun v h => Y.oks v (List.mem_cons_of_mem _ h)
    cases hs
    have hox' : tb_inI xv := hox
    have hi := not_congr (tb_eq hox (⟨by decide, by decide⟩ : tb_inI 0))
    refine lv_if_ne hx hb hdg ht (fun h => ?_) (fun h => ?_)
    · have h' : ¬ xv = 0 := hi.mp h
      rw [show (if tb_cmp 1 xv 0 = true then a else pc + 3) = a from if_pos (by simp only [tb_cmp]; simp; omega)] at kk
      exact kk H locs ls (Y.stk hor)
    · have h' : ¬ (¬ xv = 0) := fun q => (hi.mpr q) h
      rw [show (if tb_cmp 1 xv 0 = true then a else pc + 3) = pc + 3 from if_neg (by simp only [tb_cmp]; simp; omega)] at kk
      exact kk H locs ls (Y.stk hor)
  · cases hs

theorem tb_c_icmp_ne (C : tb_Std X ρ fm D cT cS n0 y p R s m args c) (Y : tb_Dy ρ fm D cT cS n0 y s H locs ls lv st A) {off : Int} (ht : (pc : Int) + off = (a : Int)) (hdg : decode (tb_by y) pc = .ok (.if_icmp .ne off, 3)) (hs : tb_step tb_P X (15, a, 1, z, l0, pc + 3) lv st A = some (pc', lv', st', A')) (kk : tb_G p l e R s m args below meth c cells slots Q ρ fm D cT cS n0 y pc' lv' st' A') : W p l e R s m args below meth c H locs cells slots Q (F0 m pc ls (st.map (tb_cv ρ fm))) := by
  obtain ⟨hx, hb, -⟩ := C
  rw [tb_e15] at hs
  split at hs
  · rename_i yv xv st1
    have hoy := Y.oks _ List.mem_cons_self
    have hox := Y.oks _ (List.mem_cons_of_mem _ List.mem_cons_self)
    have hor : ∀ v ∈ st1, tb_ok v := fun v h => Y.oks v (List.mem_cons_of_mem _ (List.mem_cons_of_mem _ h))
    cases hs
    have hox' : tb_inI xv := hox
    have hi := not_congr (tb_eq hox hoy)
    refine lv_icmp_ne hx hb hdg ht (fun h => ?_) (fun h => ?_)
    · have h' : ¬ xv = yv := hi.mp h
      rw [show (if tb_cmp 1 xv yv = true then a else pc + 3) = a from if_pos (by simp only [tb_cmp]; simp; omega)] at kk
      exact kk H locs ls (Y.stk hor)
    · have h' : ¬ (¬ xv = yv) := fun q => (hi.mpr q) h
      rw [show (if tb_cmp 1 xv yv = true then a else pc + 3) = pc + 3 from if_neg (by simp only [tb_cmp]; simp; omega)] at kk
      exact kk H locs ls (Y.stk hor)
  · cases hs

theorem tb_c_if_lt (C : tb_Std X ρ fm D cT cS n0 y p R s m args c) (Y : tb_Dy ρ fm D cT cS n0 y s H locs ls lv st A) {off : Int} (ht : (pc : Int) + off = (a : Int)) (hdg : decode (tb_by y) pc = .ok (.ifCond .lt off, 3)) (hs : tb_step tb_P X (14, a, 2, z, l0, pc + 3) lv st A = some (pc', lv', st', A')) (kk : tb_G p l e R s m args below meth c cells slots Q ρ fm D cT cS n0 y pc' lv' st' A') : W p l e R s m args below meth c H locs cells slots Q (F0 m pc ls (st.map (tb_cv ρ fm))) := by
  obtain ⟨hx, hb, -⟩ := C
  rw [tb_e14] at hs
  split at hs
  · rename_i xv st1
    have hox := Y.oks _ List.mem_cons_self
    have hor : ∀ v ∈ st1, tb_ok v := fun v h => Y.oks v (List.mem_cons_of_mem _ h)
    cases hs
    have hox' : tb_inI xv := hox
    have hi := tb_lt hox (⟨by decide, by decide⟩ : tb_inI 0)
    refine lv_if_lt hx hb hdg ht (fun h => ?_) (fun h => ?_)
    · have h' : xv < 0 := hi.mp h
      rw [show (if tb_cmp 2 xv 0 = true then a else pc + 3) = a from if_pos (by simp only [tb_cmp]; simp; omega)] at kk
      exact kk H locs ls (Y.stk hor)
    · have h' : ¬ (xv < 0) := fun q => h (hi.mpr q)
      rw [show (if tb_cmp 2 xv 0 = true then a else pc + 3) = pc + 3 from if_neg (by simp only [tb_cmp]; simp; omega)] at kk
      exact kk H locs ls (Y.stk hor)
  · cases hs

theorem tb_c_icmp_lt (C : tb_Std X ρ fm D cT cS n0 y p R s m args c) (Y : tb_Dy ρ fm D cT cS n0 y s H locs ls lv st A) {off : Int} (ht : (pc : Int) + off = (a : Int)) (hdg : decode (tb_by y) pc = .ok (.if_icmp .lt off, 3)) (hs : tb_step tb_P X (15, a, 2, z, l0, pc + 3) lv st A = some (pc', lv', st', A')) (kk : tb_G p l e R s m args below meth c cells slots Q ρ fm D cT cS n0 y pc' lv' st' A') : W p l e R s m args below meth c H locs cells slots Q (F0 m pc ls (st.map (tb_cv ρ fm))) := by
  obtain ⟨hx, hb, -⟩ := C
  rw [tb_e15] at hs
  split at hs
  · rename_i yv xv st1
    have hoy := Y.oks _ List.mem_cons_self
    have hox := Y.oks _ (List.mem_cons_of_mem _ List.mem_cons_self)
    have hor : ∀ v ∈ st1, tb_ok v := fun v h => Y.oks v (List.mem_cons_of_mem _ (List.mem_cons_of_mem _ h))
    cases hs
    have hox' : tb_inI xv := hox
    have hi := tb_lt hox hoy
    refine lv_icmp_lt hx hb hdg ht (fun h => ?_) (fun h => ?_)
    · have h' : xv < yv := hi.mp h
      rw [show (if tb_cmp 2 xv yv = true then a else pc + 3) = a from if_pos (by simp only [tb_cmp]; simp; omega)] at kk
      exact kk H locs ls (Y.stk hor)
    · have h' : ¬ (xv < yv) := fun q => h (hi.mpr q)
      rw [show (if tb_cmp 2 xv yv = true then a else pc + 3) = pc + 3 from if_neg (by simp only [tb_cmp]; simp; omega)] at kk
      exact kk H locs ls (Y.stk hor)
  · cases hs

theorem tb_c_if_ge (C : tb_Std X ρ fm D cT cS n0 y p R s m args c) (Y : tb_Dy ρ fm D cT cS n0 y s H locs ls lv st A) {off : Int} (ht : (pc : Int) + off = (a : Int)) (hdg : decode (tb_by y) pc = .ok (.ifCond .ge off, 3)) (hs : tb_step tb_P X (14, a, 3, z, l0, pc + 3) lv st A = some (pc', lv', st', A')) (kk : tb_G p l e R s m args below meth c cells slots Q ρ fm D cT cS n0 y pc' lv' st' A') : W p l e R s m args below meth c H locs cells slots Q (F0 m pc ls (st.map (tb_cv ρ fm))) := by
  obtain ⟨hx, hb, -⟩ := C
  rw [tb_e14] at hs
  split at hs
  · rename_i xv st1
    have hox := Y.oks _ List.mem_cons_self
    have hor : ∀ v ∈ st1, tb_ok v := fun v h => Y.oks v (List.mem_cons_of_mem _ h)
    cases hs
    have hox' : tb_inI xv := hox
    have hi := tb_le (⟨by decide, by decide⟩ : tb_inI 0) hox
    refine lv_if_ge hx hb hdg ht (fun h => ?_) (fun h => ?_)
    · have h' : 0 ≤ xv := hi.mp h
      rw [show (if tb_cmp 3 xv 0 = true then a else pc + 3) = a from if_pos (by simp only [tb_cmp]; simp; omega)] at kk
      exact kk H locs ls (Y.stk hor)
    · have h' : ¬ (0 ≤ xv) := fun q => h (hi.mpr q)
      rw [show (if tb_cmp 3 xv 0 = true then a else pc + 3) = pc + 3 from if_neg (by simp only [tb_cmp]; simp; omega)] at kk
      exact kk H locs ls (Y.stk hor)
  · cases hs

theorem tb_c_icmp_ge (C : tb_Std X ρ fm D cT cS n0 y p R s m args c) (Y : tb_Dy ρ fm D cT cS n0 y s H locs ls lv st A) {off : Int} (ht : (pc : Int) + off = (a : Int)) (hdg : decode (tb_by y) pc = .ok (.if_icmp .ge off, 3)) (hs : tb_step tb_P X (15, a, 3, z, l0, pc + 3) lv st A = some (pc', lv', st', A')) (kk : tb_G p l e R s m args below meth c cells slots Q ρ fm D cT cS n0 y pc' lv' st' A') : W p l e R s m args below meth c H locs cells slots Q (F0 m pc ls (st.map (tb_cv ρ fm))) := by
  obtain ⟨hx, hb, -⟩ := C
  rw [tb_e15] at hs
  split at hs
  · rename_i yv xv st1
    have hoy := Y.oks _ List.mem_cons_self
    have hox := Y.oks _ (List.mem_cons_of_mem _ List.mem_cons_self)
    have hor : ∀ v ∈ st1, tb_ok v := fun v h => Y.oks v (List.mem_cons_of_mem _ (List.mem_cons_of_mem _ h))
    cases hs
    have hox' : tb_inI xv := hox
    have hi := tb_le hoy hox
    refine lv_icmp_ge hx hb hdg ht (fun h => ?_) (fun h => ?_)
    · have h' : yv ≤ xv := hi.mp h
      rw [show (if tb_cmp 3 xv yv = true then a else pc + 3) = a from if_pos (by simp only [tb_cmp]; simp; omega)] at kk
      exact kk H locs ls (Y.stk hor)
    · have h' : ¬ (yv ≤ xv) := fun q => h (hi.mpr q)
      rw [show (if tb_cmp 3 xv yv = true then a else pc + 3) = pc + 3 from if_neg (by simp only [tb_cmp]; simp; omega)] at kk
      exact kk H locs ls (Y.stk hor)
  · cases hs

theorem tb_c_if_gt (C : tb_Std X ρ fm D cT cS n0 y p R s m args c) (Y : tb_Dy ρ fm D cT cS n0 y s H locs ls lv st A) {off : Int} (ht : (pc : Int) + off = (a : Int)) (hdg : decode (tb_by y) pc = .ok (.ifCond .gt off, 3)) (hs : tb_step tb_P X (14, a, 4, z, l0, pc + 3) lv st A = some (pc', lv', st', A')) (kk : tb_G p l e R s m args below meth c cells slots Q ρ fm D cT cS n0 y pc' lv' st' A') : W p l e R s m args below meth c H locs cells slots Q (F0 m pc ls (st.map (tb_cv ρ fm))) := by
  obtain ⟨hx, hb, -⟩ := C
  rw [tb_e14] at hs
  split at hs
  · rename_i xv st1
    have hox := Y.oks _ List.mem_cons_self
    have hor : ∀ v ∈ st1, tb_ok v := fun v h => Y.oks v (List.mem_cons_of_mem _ h)
    cases hs
    have hox' : tb_inI xv := hox
    have hi := tb_lt (⟨by decide, by decide⟩ : tb_inI 0) hox
    refine lv_if_gt hx hb hdg ht (fun h => ?_) (fun h => ?_)
    · have h' : 0 < xv := hi.mp h
      rw [show (if tb_cmp 4 xv 0 = true then a else pc + 3) = a from if_pos (by simp only [tb_cmp]; simp; omega)] at kk
      exact kk H locs ls (Y.stk hor)
    · have h' : ¬ (0 < xv) := fun q => h (hi.mpr q)
      rw [show (if tb_cmp 4 xv 0 = true then a else pc + 3) = pc + 3 from if_neg (by simp only [tb_cmp]; simp; omega)] at kk
      exact kk H locs ls (Y.stk hor)
  · cases hs

theorem tb_c_icmp_gt (C : tb_Std X ρ fm D cT cS n0 y p R s m args c) (Y : tb_Dy ρ fm D cT cS n0 y s H locs ls lv st A) {off : Int} (ht : (pc : Int) + off = (a : Int)) (hdg : decode (tb_by y) pc = .ok (.if_icmp .gt off, 3)) (hs : tb_step tb_P X (15, a, 4, z, l0, pc + 3) lv st A = some (pc', lv', st', A')) (kk : tb_G p l e R s m args below meth c cells slots Q ρ fm D cT cS n0 y pc' lv' st' A') : W p l e R s m args below meth c H locs cells slots Q (F0 m pc ls (st.map (tb_cv ρ fm))) := by
  obtain ⟨hx, hb, -⟩ := C
  rw [tb_e15] at hs
  split at hs
  · rename_i yv xv st1
    have hoy := Y.oks _ List.mem_cons_self
    have hox := Y.oks _ (List.mem_cons_of_mem _ List.mem_cons_self)
    have hor : ∀ v ∈ st1, tb_ok v := fun v h => Y.oks v (List.mem_cons_of_mem _ (List.mem_cons_of_mem _ h))
    cases hs
    have hox' : tb_inI xv := hox
    have hi := tb_lt hoy hox
    refine lv_icmp_gt hx hb hdg ht (fun h => ?_) (fun h => ?_)
    · have h' : yv < xv := hi.mp h
      rw [show (if tb_cmp 4 xv yv = true then a else pc + 3) = a from if_pos (by simp only [tb_cmp]; simp; omega)] at kk
      exact kk H locs ls (Y.stk hor)
    · have h' : ¬ (yv < xv) := fun q => h (hi.mpr q)
      rw [show (if tb_cmp 4 xv yv = true then a else pc + 3) = pc + 3 from if_neg (by simp only [tb_cmp]; simp; omega)] at kk
      exact kk H locs ls (Y.stk hor)
  · cases hs

theorem tb_c_if_le (C : tb_Std X ρ fm D cT cS n0 y p R s m args c) (Y : tb_Dy ρ fm D cT cS n0 y s H locs ls lv st A) {off : Int} (ht : (pc : Int) + off = (a : Int)) (hdg : decode (tb_by y) pc = .ok (.ifCond .le off, 3)) (hs : tb_step tb_P X (14, a, 5, z, l0, pc + 3) lv st A = some (pc', lv', st', A')) (kk : tb_G p l e R s m args below meth c cells slots Q ρ fm D cT cS n0 y pc' lv' st' A') : W p l e R s m args below meth c H locs cells slots Q (F0 m pc ls (st.map (tb_cv ρ fm))) := by
  obtain ⟨hx, hb, -⟩ := C
  rw [tb_e14] at hs
  split at hs
  · rename_i xv st1
    have hox := Y.oks _ List.mem_cons_self
    have hor : ∀ v ∈ st1, tb_ok v := fun v h => Y.oks v (List.mem_cons_of_mem _ h)
    cases hs
    have hox' : tb_inI xv := hox
    have hi := tb_le hox (⟨by decide, by decide⟩ : tb_inI 0)
    refine lv_if_le hx hb hdg ht (fun h => ?_) (fun h => ?_)
    · have h' : xv ≤ 0 := hi.mp h
      rw [show (if tb_cmp 5 xv 0 = true then a else pc + 3) = a from if_pos (by simp only [tb_cmp]; simp; omega)] at kk
      exact kk H locs ls (Y.stk hor)
    · have h' : ¬ (xv ≤ 0) := fun q => h (hi.mpr q)
      rw [show (if tb_cmp 5 xv 0 = true then a else pc + 3) = pc + 3 from if_neg (by simp only [tb_cmp]; simp; omega)] at kk
      exact kk H locs ls (Y.stk hor)
  · cases hs

theorem tb_c_icmp_le (C : tb_Std X ρ fm D cT cS n0 y p R s m args c) (Y : tb_Dy ρ fm D cT cS n0 y s H locs ls lv st A) {off : Int} (ht : (pc : Int) + off = (a : Int)) (hdg : decode (tb_by y) pc = .ok (.if_icmp .le off, 3)) (hs : tb_step tb_P X (15, a, 5, z, l0, pc + 3) lv st A = some (pc', lv', st', A')) (kk : tb_G p l e R s m args below meth c cells slots Q ρ fm D cT cS n0 y pc' lv' st' A') : W p l e R s m args below meth c H locs cells slots Q (F0 m pc ls (st.map (tb_cv ρ fm))) := by
  obtain ⟨hx, hb, -⟩ := C
  rw [tb_e15] at hs
  split at hs
  · rename_i yv xv st1
    have hoy := Y.oks _ List.mem_cons_self
    have hox := Y.oks _ (List.mem_cons_of_mem _ List.mem_cons_self)
    have hor : ∀ v ∈ st1, tb_ok v := fun v h => Y.oks v (List.mem_cons_of_mem _ (List.mem_cons_of_mem _ h))
    cases hs
    have hox' : tb_inI xv := hox
    have hi := tb_le hox hoy
    refine lv_icmp_le hx hb hdg ht (fun h => ?_) (fun h => ?_)
    · have h' : xv ≤ yv := hi.mp h
      rw [show (if tb_cmp 5 xv yv = true then a else pc + 3) = a from if_pos (by simp only [tb_cmp]; simp; omega)] at kk
      exact kk H locs ls (Y.stk hor)
    · have h' : ¬ (xv ≤ yv) := fun q => h (hi.mpr q)
      rw [show (if tb_cmp 5 xv yv = true then a else pc + 3) = pc + 3 from if_neg (by simp only [tb_cmp]; simp; omega)] at kk
      exact kk H locs ls (Y.stk hor)
  · cases hs

theorem tb_c_ifnonnull (C : tb_Std X ρ fm D cT cS n0 y p R s m args c) (Y : tb_Dy ρ fm D cT cS n0 y s H locs ls lv st A) {off : Int} (ht : (pc : Int) + off = (a : Int)) (hdg : decode (tb_by y) pc = .ok (.ifnonnull off, 3)) (hs : tb_step tb_P X (16, a, 1, z, l0, pc + 3) lv st A = some (pc', lv', st', A')) (kk : tb_G p l e R s m args below meth c cells slots Q ρ fm D cT cS n0 y pc' lv' st' A') : W p l e R s m args below meth c H locs cells slots Q (F0 m pc ls (st.map (tb_cv ρ fm))) := by
  obtain ⟨hx, hb, -⟩ := C
  rw [tb_e16] at hs
  split at hs
  · cases hs
    refine lv_ifnonnull hx hb hdg ht ?_
    exact kk H locs ls (Y.stk (fun v h => Y.oks v (List.mem_cons_of_mem _ h)))
  · cases hs
    refine lv_ifnonnullN hx hb hdg ?_
    exact kk H locs ls (Y.stk (fun v h => Y.oks v (List.mem_cons_of_mem _ h)))
  · cases hs

theorem tb_c_ifnull (C : tb_Std X ρ fm D cT cS n0 y p R s m args c) (Y : tb_Dy ρ fm D cT cS n0 y s H locs ls lv st A) {off : Int} (ht : (pc : Int) + off = (a : Int)) (hdg : decode (tb_by y) pc = .ok (.ifnull off, 3)) (hs : tb_step tb_P X (16, a, 0, z, l0, pc + 3) lv st A = some (pc', lv', st', A')) (kk : tb_G p l e R s m args below meth c cells slots Q ρ fm D cT cS n0 y pc' lv' st' A') : W p l e R s m args below meth c H locs cells slots Q (F0 m pc ls (st.map (tb_cv ρ fm))) := by
  obtain ⟨hx, hb, -⟩ := C
  rw [tb_e16] at hs
  split at hs
  · cases hs
    refine lv_ifnull hx hb hdg ?_
    exact kk H locs ls (Y.stk (fun v h => Y.oks v (List.mem_cons_of_mem _ h)))
  · cases hs
    refine lv_ifnullN hx hb hdg ht ?_
    exact kk H locs ls (Y.stk (fun v h => Y.oks v (List.mem_cons_of_mem _ h)))
  · cases hs

theorem tb_c_tswitch (C : tb_Std X ρ fm D cT cS n0 y p R s m args c) (Y : tb_Dy ρ fm D cT cS n0 y s H locs ls lv st A) {dflt lo hi : Int} {offs : Array Int} {len : Nat} (hd : (pc : Int) + dflt = (a : Int)) (hlo : lo = z) (hhi : hi = z + l0.length - 1) (hsz : offs.size = l0.length) (hall : ∀ j, j < l0.length → (pc : Int) + offs.getD j 0 = ((l0.getD j 0 : Nat) : Int)) (hdg : decode (tb_by y) pc = .ok (.tableswitch dflt lo hi offs, len)) (hs : tb_step tb_P X (17, a, b, z, l0, nx) lv st A = some (pc', lv', st', A')) (kk : tb_G p l e R s m args below meth c cells slots Q ρ fm D cT cS n0 y pc' lv' st' A') : W p l e R s m args below meth c H locs cells slots Q (F0 m pc ls (st.map (tb_cv ρ fm))) := by
  obtain ⟨hx, hb, -⟩ := C
  rw [tb_e17] at hs
  split at hs
  · rename_i xv st1
    have hox := Y.oks _ List.mem_cons_self
    have hor : ∀ v ∈ st1, tb_ok v := fun v h => Y.oks v (List.mem_cons_of_mem _ h)
    cases hs
    have hox' : tb_inI xv := hox
    have e0 : (Int32.ofInt xv).toInt = xv := tb_toInt hox'
    by_cases h0 : xv < z ∨ z + l0.length ≤ xv
    · rw [if_pos h0] at kk
      refine lv_tableOut hx hb hdg (tgt := a) (by rw [e0, hlo, hhi]; omega) hd ?_
      exact kk H locs ls (Y.stk hor)
    · rw [if_neg h0] at kk
      have hj : (xv - z).toNat < l0.length := by omega
      have h1 := hall (xv - z).toNat hj
      refine lv_tableIn hx hb hdg (by rw [e0, hlo]; omega) (by rw [e0, hhi]; omega) (off := offs.getD (xv - z).toNat 0) (by rw [e0, hlo]; rw [Array.getD_eq_getD_getElem?, Array.getElem?_eq_getElem (by rw [hsz]; exact hj)]; rfl) h1 ?_
      exact kk H locs ls (Y.stk hor)
  · cases hs

theorem tb_c_getfield (C : tb_Std X ρ fm D cT cS n0 y p R s m args c) (Y : tb_Dy ρ fm D cT cS n0 y s H locs ls lv st A) {i j : Nat} (hj : tb_flr[j]? = some (tb_oi y, i, b, a)) (hdg : decode (tb_by y) pc = .ok (.getfield i, 3)) (hs : tb_step tb_P X (18, a, b, z, l0, pc + 3) lv st A = some (pc', lv', st', A')) (kk : tb_G p l e R s m args below meth c cells slots Q ρ fm D cT cS n0 y pc' lv' st' A') : W p l e R s m args below meth c H locs cells slots Q (F0 m pc ls (st.map (tb_cv ρ fm))) := by
  obtain ⟨hx, hb, hml, hown, hts, hK, hC, hfm, hR, hX, hXl, -⟩ := C
  rw [tb_e18] at hs
  split at hs
  · rename_i q st1
    have hor : ∀ v ∈ st1, tb_ok v := fun v h => Y.oks v (List.mem_cons_of_mem _ h)
    split at hs
    · rename_i v hv
      cases hs
      have hv' : tb_getf tb_kd A q a b = some v := hv
      unfold tb_getf at hv'
      split at hv'
      · rename_i ci fts hkd
        by_cases hcb : ci = b
        · rw [if_pos hcb] at hv'
          subst hcb
          split at hv'
          · rename_i t ht
            have hok := tb_kdo_of (o := q) (by rw [hkd]; exact Nat.le_of_ble_eq_true rfl)
            unfold tb_kdo at hok
            rw [hkd] at hok
            simp only [Bool.and_eq_true, decide_eq_true_eq] at hok
            obtain ⟨⟨⟨hq, hci⟩, hlen⟩, -⟩ := hok
            have hal : a < fts.length := (List.getElem?_eq_some_iff.mp ht).1
            have hne : ci ≠ 99 := by
              have : tb_cl.length = 13 := by decide +kernel
              omega
            have he : (tb_ws ρ cT cS A)[q]? = some (ρ q, .inr (ci, tb_fVs ρ A q fts)) := by
              rw [tb_ws_get hq]
              unfold tb_cell
              rw [hkd]
              rfl
            have hw := tb_subg_in tb_flr_in _ (List.mem_map.mpr ⟨(tb_oi y, i, ci, a), List.mem_of_getElem? hj, rfl⟩)
            unfold tb_fw at hw
            rw [if_neg hne] at hw
            have hsame : ((tb_ci ci).2.1 a).1 = (tb_ci ci).1 := by
              have h9 := List.all_eq_true.mp tb_flr_ok _ (List.mem_of_getElem? hj)
              unfold tb_fok at h9
              rw [if_neg hne] at h9
              simp only [Bool.and_eq_true, decide_eq_true_eq] at h9
              exact h9.2
            have hval : (tb_fVs ρ A q fts)[a]? = some (tb_cv ρ fm v) ∧ tb_ok v := by
              unfold tb_fVs
              rw [List.getElem?_map, List.getElem?_range hal]
              have htd : fts.getD a 0 = t := by rw [List.getD_eq_getElem?_getD, ht]; rfl
              show some (tb_fV ρ A q a (fts.getD a 0)) = some (tb_cv ρ fm v) ∧ tb_ok v
              rw [htd]
              unfold tb_fld at hv'
              unfold tb_fV
              by_cases h3 : t < 3
              · rw [if_pos h3] at hv' ⊢
                cases hv'
                exact ⟨rfl, Y.2.2.2.2.2.2.1 _ _⟩
              · rw [if_neg h3] at hv' ⊢
                by_cases h4 : t = 3
                · rw [if_pos h4] at hv' ⊢
                  cases hv'
                  exact ⟨rfl, Y.2.2.2.2.2.2.2 _ _⟩
                · rw [if_neg h4] at hv' ⊢
                  by_cases h5 : t = 4
                  · rw [if_pos h5] at hv' ⊢
                    cases hv'
                    exact ⟨rfl, trivial⟩
                  · rw [if_neg h5] at hv' ⊢
                    by_cases h6 : t < 100
                    · rw [if_pos h6] at hv'; cases hv'
                    · rw [if_neg h6] at hv'
                      by_cases h7 : t < 1000
                      · rw [if_pos h7] at hv' ⊢
                        cases hv'
                        exact ⟨rfl, trivial⟩
                      · rw [if_neg h7] at hv' ⊢
                        cases hv'
                        exact ⟨rfl, trivial⟩
            refine va_get (D := D) hx hb hts (tb_clu hci) hown hK Y.1 q he (tb_ci_at hci) a (by rw [← hlen]; exact hal) (hts _ hw) (fun x h => by rw [hsame] at h; exact h) hval.1 hdg ?_
            exact kk H locs ls (Y.stk (List.forall_mem_cons.mpr ⟨hval.2, hor⟩))
          · cases hv'
        · rw [if_neg hcb] at hv'; cases hv'
      · rename_i ci fts hkd
        by_cases hcb : b = 99
        · rw [if_pos hcb] at hv'
          subst hcb
          split at hv'
          · rename_i t ht
            cases hv'
            have hok := tb_kdo_of (o := q) (by rw [hkd]; exact Nat.le_of_ble_eq_true rfl)
            unfold tb_kdo at hok
            rw [hkd] at hok
            simp only [Bool.and_eq_true, decide_eq_true_eq] at hok
            obtain ⟨⟨hl2, hz0⟩, h100⟩ := hok
            have hal : a < fts.length := (List.getElem?_eq_some_iff.mp ht).1
            have hOF := (hC.2.2.1 q ci fts hkd).2 a t ht
            have hw := tb_subg_in tb_flr_in _ (List.mem_map.mpr ⟨(tb_oi y, i, 99, a), List.mem_of_getElem? hj, rfl⟩)
            have hw2 : Cond.fieldLink (tb_ow (tb_oi y)) i "java/lang/String" (tb_sfd a).1 (tb_sfd a).2 ∈ tb_gt := by
              unfold tb_fw at hw
              rw [if_pos rfl] at hw
              unfold tb_sfd
              by_cases ha : a = 0
              · rw [if_pos ha] at hw ⊢
                exact hw
              · rw [if_neg ha] at hw ⊢
                exact hw
            refine vk_getf hx hb hOF Y.2.1 hown (hts _ hw2) (fun x h => h) hdg ?_
            have hoki : tb_ok (if 100 ≤ t then tb_r (t - 100) else tb_i t) := by
              by_cases h1 : 100 ≤ t
              · rw [if_pos h1]; trivial
              · rw [if_neg h1]
                exact ⟨by omega, by omega⟩
            exact kk H locs ls (Y.stk (List.forall_mem_cons.mpr ⟨hoki, hor⟩))
          · cases hv'
        · rw [if_neg hcb] at hv'; cases hv'
      · cases hv'
    · cases hs
  · cases hs

theorem tb_c_putfield (C : tb_Std X ρ fm D cT cS n0 y p R s m args c) (Y : tb_Dy ρ fm D cT cS n0 y s H locs ls lv st A) {i j : Nat} (hj : tb_flr[j]? = some (tb_oi y, i, b, a)) (hfin : ((tb_ci b).2.1 a).2.2.2 = false) (hdg : decode (tb_by y) pc = .ok (.putfield i, 3)) (hs : tb_step tb_P X (19, a, b, z, l0, pc + 3) lv st A = some (pc', lv', st', A')) (kk : tb_G p l e R s m args below meth c cells slots Q ρ fm D cT cS n0 y pc' lv' st' A') : W p l e R s m args below meth c H locs cells slots Q (F0 m pc ls (st.map (tb_cv ρ fm))) := by
  obtain ⟨hx, hb, hml, hown, hts, hK, hC, hfm, hR, hX, hXl, -⟩ := C
  rw [tb_e19] at hs
  split at hs
  · rename_i v q st1
    have hov := Y.oks _ List.mem_cons_self
    have hor : ∀ v ∈ st1, tb_ok v := fun v h => Y.oks v (List.mem_cons_of_mem _ (List.mem_cons_of_mem _ h))
    split at hs
    · rename_i A2 hv
      cases hs
      have hv' : tb_putf tb_kd A q a b v = some A' := hv
      unfold tb_putf at hv'
      split at hv'
      · rename_i ci fts hkd
        by_cases hcb : ci = b
        · rw [if_pos hcb] at hv'
          subst hcb
          have hok := tb_kdo_of (o := q) (by rw [hkd]; exact Nat.le_of_ble_eq_true rfl)
          unfold tb_kdo at hok
          rw [hkd] at hok
          simp only [Bool.and_eq_true, decide_eq_true_eq] at hok
          obtain ⟨⟨⟨hq, hci⟩, hlen⟩, hall⟩ := hok
          have hne : ci ≠ 99 := by
            have : tb_cl.length = 13 := by decide +kernel
            omega
          have he : (tb_ws ρ cT cS A)[q]? = some (ρ q, .inr (ci, tb_fVs ρ A q fts)) := by
            rw [tb_ws_get hq]
            unfold tb_cell
            rw [hkd]
            rfl
          have hw := tb_subg_in tb_flr_in _ (List.mem_map.mpr ⟨(tb_oi y, i, ci, a), List.mem_of_getElem? hj, rfl⟩)
          unfold tb_fw at hw
          rw [if_neg hne] at hw
          have h9 := List.all_eq_true.mp tb_flr_ok _ (List.mem_of_getElem? hj)
          unfold tb_fok at h9
          rw [if_neg hne] at h9
          simp only [Bool.and_eq_true, decide_eq_true_eq] at h9
          have hsame : ((tb_ci ci).2.1 a).1 = (tb_ci ci).1 := h9.2
          have hak : a < (tb_ci ci).2.2 := h9.1.2
          have hal : a < fts.length := by rw [hlen]; exact hak
          have hfk := List.all_eq_true.mp hall a (List.mem_range.mpr hal)
          have hft := tb_ft_ok hci a hak
          rw [hft] at hfk
          have hvs : (tb_fVs ρ A q fts).length = fts.length := by unfold tb_fVs; simp
          -- the new cell
          have key : ∀ (B : tb_H) (ty : FieldType), parseFieldDescriptor ((tb_ci ci).2.1 a).2.2.1 = some ty → (∀ j, j ≠ q → A.1 j = B.1 j ∧ A.2.1 j = B.2.1 j ∧ A.2.2 j = B.2.2 j) → tb_cell ρ cT cS B q = .inr (ci, (tb_fVs ρ A q fts).set a (tb_cv ρ fm v)) → narrow ty (tb_cv ρ fm v) = tb_cv ρ fm v → fits ty (tb_cv ρ fm v) = true → (∀ o k, tb_inI (B.1 o k)) → (∀ o k, tb_inL (B.2.1 o k)) → tb_G p l e R s m args below meth c cells slots Q ρ fm D cT cS n0 y (pc + 3) lv st' B → W p l e R s m args below meth c H locs cells slots Q (F0 m pc ls ((v :: tb_r q :: st').map (tb_cv ρ fm))) := by
            intro B ty hd hag hcell hn hf hB1 hB2 kk
            obtain ⟨hP, hS, hL, hn2, hol, -, -, -⟩ := Y
            refine va_put (D := D) hx hb hts (tb_clu hci) (tb_ft ci) (tb_ft_ok hci) (tb_ft_ne hci) hown hK hP (hR.D cT cS A) hS q he (tb_ci_at hci) a hak (hts _ hw) (fun x h => by rw [hsame] at h; exact h) hfin hd hn hf (by rw [hvs]; exact hal) hdg (fun H1 locs1 hP1 hD1 hS1 => ?_)
            refine kk H1 locs1 ls ⟨?_, hS1, hL, hn2, hol, hor, hB1, hB2⟩
            rw [tb_ws_set (A := A) hq hag, hcell]
            exact hP1
          have ext : ∀ (B : tb_H), (∀ j, j < fts.length → tb_fV ρ B q j (fts.getD j 0) = if j = a then tb_cv ρ fm v else tb_fV ρ A q j (fts.getD j 0)) → tb_cell ρ cT cS B q = .inr (ci, (tb_fVs ρ A q fts).set a (tb_cv ρ fm v)) := by
            intro B hB
            unfold tb_cell
            rw [hkd]
            show (Sum.inr (ci, tb_fVs ρ B q fts) : va_E) = _
            refine congrArg (fun l => (Sum.inr (ci, l) : va_E)) (List.ext_getElem? (fun j => ?_))
            by_cases hja : a = j
            · subst hja
              rw [List.getElem?_set_self (by rw [hvs]; exact hal)]
              unfold tb_fVs
              rw [List.getElem?_map, List.getElem?_range hal]
              show some (tb_fV ρ B q a (fts.getD a 0)) = _
              rw [hB a hal, if_pos rfl]
            · rw [List.getElem?_set_ne hja]
              unfold tb_fVs
              rw [List.getElem?_map, List.getElem?_map]
              by_cases hjl : j < fts.length
              · rw [List.getElem?_range hjl]
                show some (tb_fV ρ B q j (fts.getD j 0)) = some (tb_fV ρ A q j (fts.getD j 0))
                rw [hB j hjl, if_neg (fun e => hja e.symm)]
              · rw [List.getElem?_eq_none (by simpa using hjl)]
                rfl
          split at hv'
          · rename_i x ht
            cases hv'
            have htd : fts.getD a 0 = 0 := by rw [List.getD_eq_getElem?_getD, ht]; rfl
            rw [htd] at hfk
            have hty : tb_ft ci a = .int := by
              revert hfk
              cases tb_ft ci a <;> simp [tb_fko]
            refine key (tb_upI A q a x) .int (by rw [hft, hty]) (fun j hj => ⟨by funext k; simp [tb_upI, hj], rfl, rfl⟩) (ext _ (fun j hjl => ?_)) rfl rfl (fun o k => by unfold tb_upI; dsimp only; split; exact hov; exact Y.2.2.2.2.2.2.1 o k) Y.2.2.2.2.2.2.2 kk
            by_cases hja : j = a
            · subst hja
              rw [if_pos rfl, htd]
              simp [tb_fV, tb_upI, tb_cv]
            · rw [if_neg hja]
              have hja2 : ¬ ((j : Int) = (a : Int)) := by omega
              unfold tb_fV tb_upI
              simp [hja2]
          · rename_i x ht
            split at hv'
            · rename_i hx01
              cases hv'
              have htd : fts.getD a 0 = 1 := by rw [List.getD_eq_getElem?_getD, ht]; rfl
              rw [htd] at hfk
              have hty : tb_ft ci a = .boolean := by
                revert hfk
                cases tb_ft ci a <;> simp [tb_fko]
              refine key (tb_upI A q a x) .boolean (by rw [hft, hty]) (fun j hj => ⟨by funext k; simp [tb_upI, hj], rfl, rfl⟩) (ext _ (fun j hjl => ?_)) (by rcases hx01 with rfl | rfl <;> rfl) (by rcases hx01 with rfl | rfl <;> rfl) (fun o k => by unfold tb_upI; dsimp only; split; exact hov; exact Y.2.2.2.2.2.2.1 o k) Y.2.2.2.2.2.2.2 kk
              by_cases hja : j = a
              · subst hja
                rw [if_pos rfl, htd]
                simp [tb_fV, tb_upI, tb_cv]
              · rw [if_neg hja]
                have hja2 : ¬ ((j : Int) = (a : Int)) := by omega
                unfold tb_fV tb_upI
                simp [hja2]
            · cases hv'
          · rename_i x ht
            cases hv'
            have htd : fts.getD a 0 = 3 := by rw [List.getD_eq_getElem?_getD, ht]; rfl
            rw [htd] at hfk
            have hty : tb_ft ci a = .long := by
              revert hfk
              cases tb_ft ci a <;> simp [tb_fko]
            refine key (tb_upL A q a x) .long (by rw [hft, hty]) (fun j hj => ⟨rfl, by funext k; simp [tb_upL, hj], rfl⟩) (ext _ (fun j hjl => ?_)) rfl rfl Y.2.2.2.2.2.2.1 (fun o k => by unfold tb_upL; dsimp only; split; exact hov; exact Y.2.2.2.2.2.2.2 o k) kk
            by_cases hja : j = a
            · subst hja
              rw [if_pos rfl, htd]
              simp [tb_fV, tb_upL, tb_cv]
            · rw [if_neg hja]
              have hja2 : ¬ ((j : Int) = (a : Int)) := by omega
              unfold tb_fV tb_upL
              simp [hja2]
          · rename_i x ht
            cases hv'
            have htd : fts.getD a 0 = 4 := by rw [List.getD_eq_getElem?_getD, ht]; rfl
            rw [htd] at hfk
            have hty : (∃ n, tb_ft ci a = .object n) ∨ ∃ t, tb_ft ci a = .array t := by
              revert hfk
              cases tb_ft ci a <;> simp [tb_fko]
            refine key (tb_upP A q a x) (tb_ft ci a) hft (fun j hj => ⟨rfl, rfl, by funext k; simp [tb_upP, hj]⟩) (ext _ (fun j hjl => ?_)) (by rcases hty with ⟨n, h⟩ | ⟨n, h⟩ <;> rw [h] <;> rfl) (by rcases hty with ⟨n, h⟩ | ⟨n, h⟩ <;> rw [h] <;> rfl) Y.2.2.2.2.2.2.1 Y.2.2.2.2.2.2.2 kk
            by_cases hja : j = a
            · subst hja
              rw [if_pos rfl, htd]
              simp [tb_fV, tb_upP, tb_cv]
            · rw [if_neg hja]
              have hja2 : ¬ ((j : Int) = (a : Int)) := by omega
              unfold tb_fV tb_upP
              simp [hja2]
          · cases hv'
        · rw [if_neg hcb] at hv'; cases hv'
      · cases hv'
    · cases hs
  · cases hs

theorem tb_c_getstatic (C : tb_Std X ρ fm D cT cS n0 y p R s m args c) (Y : tb_Dy ρ fm D cT cS n0 y s H locs ls lv st A) {i j q : Nat} (hj : tb_slr[j]? = some (tb_oi y, i, q)) (hq : q < tb_stats.length) (hv : (tb_st q).2.2.2 = if b = 0 then tb_r a else if b = 1 then tb_i z else tb_s 2) (hr : tb_inI z) (hdg : decode (tb_by y) pc = .ok (.getstatic i, 3)) (hs : tb_step tb_P X (20, a, b, z, l0, pc + 3) lv st A = some (pc', lv', st', A')) (kk : tb_G p l e R s m args below meth c cells slots Q ρ fm D cT cS n0 y pc' lv' st' A') : W p l e R s m args below meth c H locs cells slots Q (F0 m pc ls (st.map (tb_cv ρ fm))) := by
  obtain ⟨hx, hb, hml, hown, hts, hK, hC, hfm, hR, hX, hXl, -⟩ := C
  rw [tb_e20] at hs
  cases hs
  have hw := tb_subg_in tb_slr_in _ (List.mem_map.mpr ⟨(tb_oi y, i, q), List.mem_of_getElem? hj, rfl⟩)
  have hq2 : tb_st q ∈ tb_stats := by
    unfold tb_st
    rw [List.getD_eq_getElem?_getD, List.getElem?_eq_getElem hq]
    exact List.getElem_mem hq
  have hZ := hC.1 _ hq2
  rw [hv] at hZ
  refine va_gets hx hb hZ Y.2.1 hown (hts _ hw) (fun x h => h) hdg ?_
  refine kk H locs ls (Y.stk (List.forall_mem_cons.mpr ⟨?_, Y.oks⟩))
  split
  · trivial
  · split
    · exact hr
    · trivial

theorem tb_c_ldcS (C : tb_Std X ρ fm D cT cS n0 y p R s m args c) (Y : tb_Dy ρ fm D cT cS n0 y s H locs ls lv st A) {i j : Nat} (hj : tb_str[j]? = some (tb_oi y, i, a)) (hdg : decode (tb_by y) pc = .ok (.ldc i, 2)) (hs : tb_step tb_P X (21, a, b, z, l0, pc + 2) lv st A = some (pc', lv', st', A')) (kk : tb_G p l e R s m args below meth c cells slots Q ρ fm D cT cS n0 y pc' lv' st' A') : W p l e R s m args below meth c H locs cells slots Q (F0 m pc ls (st.map (tb_cv ρ fm))) := by
  obtain ⟨hx, hb, hml, hown, hts, hK, hC, -⟩ := C
  rw [tb_e21] at hs
  cases hs
  obtain ⟨tx, hZ⟩ := hC.2.2.2.1 _ (List.mem_of_getElem? hj)
  refine va_ldcS hx hb hown hZ hdg ?_
  exact kk H locs ls (Y.stk (List.forall_mem_cons.mpr ⟨trivial, Y.oks⟩))

theorem tb_c_ldcwS (C : tb_Std X ρ fm D cT cS n0 y p R s m args c) (Y : tb_Dy ρ fm D cT cS n0 y s H locs ls lv st A) {i j : Nat} (hj : tb_str[j]? = some (tb_oi y, i, a)) (hdg : decode (tb_by y) pc = .ok (.ldc_w i, 3)) (hs : tb_step tb_P X (21, a, b, z, l0, pc + 3) lv st A = some (pc', lv', st', A')) (kk : tb_G p l e R s m args below meth c cells slots Q ρ fm D cT cS n0 y pc' lv' st' A') : W p l e R s m args below meth c H locs cells slots Q (F0 m pc ls (st.map (tb_cv ρ fm))) := by
  obtain ⟨hx, hb, hml, hown, hts, hK, hC, -⟩ := C
  rw [tb_e21] at hs
  cases hs
  obtain ⟨tx, hZ⟩ := hC.2.2.2.1 _ (List.mem_of_getElem? hj)
  refine tb_Wldcws hx hb hown hZ hdg ?_
  exact kk H locs ls (Y.stk (List.forall_mem_cons.mpr ⟨trivial, Y.oks⟩))

theorem tb_c_arraylength (C : tb_Std X ρ fm D cT cS n0 y p R s m args c) (Y : tb_Dy ρ fm D cT cS n0 y s H locs ls lv st A) (hdg : decode (tb_by y) pc = .ok (.arraylength, 1)) (hs : tb_step tb_P X (22, a, b, z, l0, pc + 1) lv st A = some (pc', lv', st', A')) (kk : tb_G p l e R s m args below meth c cells slots Q ρ fm D cT cS n0 y pc' lv' st' A') : W p l e R s m args below meth c H locs cells slots Q (F0 m pc ls (st.map (tb_cv ρ fm))) := by
  obtain ⟨hx, hb, hml, hown, hts, hK, hC, hfm, hR, hX, hXl, -⟩ := C
  rw [tb_e22] at hs
  split at hs
  · rename_i q st1
    have hor : ∀ v ∈ st1, tb_ok v := fun v h => Y.oks v (List.mem_cons_of_mem _ h)
    split at hs
    · rename_i n hv
      cases hs
      have hv' : tb_len tb_kd X q = some n := hv
      unfold tb_len at hv'
      have hi : ∀ n : Nat, Int32.ofNat n = Int32.ofInt n := fun n => (Int32.ofInt_eq_ofNat).symm
      split at hv'
      · rename_i n' ts hkd
        cases hv'
        have hok := tb_kdo_of (o := q) (by rw [hkd]; exact Nat.le_of_ble_eq_true rfl)
        unfold tb_kdo at hok
        rw [hkd] at hok
        simp only [Bool.and_eq_true, decide_eq_true_eq] at hok
        obtain ⟨⟨⟨hq, hn⟩, hl1⟩, ht4⟩ := hok
        match ts, hl1, ht4, hkd with
        | [t], _, ht4, hkd =>
          have ht4 : t < 4 := ht4
          have okn : tb_ok (tb_i n) := ⟨by omega, by omega⟩
          by_cases h3 : t = 3
          · have he : (tb_ws ρ cT cS A)[q]? = some (ρ q, .inl (cT 3, n, .inr (.inl (fun j => Int64.ofInt (A.2.1 q j))))) := by
              rw [tb_ws_get hq]
              unfold tb_cell
              rw [hkd]
              simp [h3]
            refine va_alen (D := D) hx hb hK Y.1 q 3 he rfl (hi n) hdg ?_
            exact kk H locs ls (Y.stk (List.forall_mem_cons.mpr ⟨okn, hor⟩))
          · have he : (tb_ws ρ cT cS A)[q]? = some (ρ q, .inl (cT t, n, .inl (fun j => Int32.ofInt (A.1 q j)))) := by
              rw [tb_ws_get hq]
              unfold tb_cell
              rw [hkd]
              simp [h3]
            have htt : ∃ ty, (tb_tys cT cS)[t]? = some (cT t, ty) := by
              match t, ht4, h3 with
              | 0, _, _ => exact ⟨_, rfl⟩
              | 1, _, _ => exact ⟨_, rfl⟩
              | 2, _, _ => exact ⟨_, rfl⟩
              | 3, _, h3 => exact absurd rfl h3
              | t + 4, ht4, _ => omega
            obtain ⟨ty, hty⟩ := htt
            refine va_alen (D := D) hx hb hK Y.1 q t he hty (hi n) hdg ?_
            exact kk H locs ls (Y.stk (List.forall_mem_cons.mpr ⟨okn, hor⟩))
      · rename_i n' tg hkd
        cases hv'
        have hok := tb_kdo_of (o := q) (by rw [hkd]; exact Nat.le_of_ble_eq_true rfl)
        unfold tb_kdo at hok
        rw [hkd] at hok
        simp only [Bool.and_eq_true, decide_eq_true_eq] at hok
        obtain ⟨⟨hq, hn⟩, hl1⟩ := hok
        have he : (tb_ws ρ cT cS A)[q]? = some (ρ q, .inl (cS, n, .inr (.inr (.inr (.inr (fun j => (tg[j]?).map ρ)))))) := by
          rw [tb_ws_get hq]
          unfold tb_cell
          rw [hkd]
          rfl
        refine va_alen (D := D) hx hb hK Y.1 q 4 he rfl (hi n) hdg ?_
        exact kk H locs ls (Y.stk (List.forall_mem_cons.mpr ⟨⟨by omega, by omega⟩, hor⟩))
      · rename_i n' ts hkd
        cases hv'
        have hok := tb_kdo_of (o := q) (by rw [hkd]; exact Nat.le_of_ble_eq_true rfl)
        unfold tb_kdo at hok
        rw [hkd] at hok
        simp only [Bool.and_eq_true, decide_eq_true_eq] at hok
        obtain ⟨⟨hn, hl1⟩, -⟩ := hok
        match ts, hl1, hkd with
        | [t], _, hkd =>
          refine va_tlen hx hb (hC.2.1 q n t hkd) Y.2.1 (hi n) hdg ?_
          exact kk H locs ls (Y.stk (List.forall_mem_cons.mpr ⟨⟨by omega, by omega⟩, hor⟩))
      · rename_i c' ts hkd
        cases hv'
        refine va_tlen hx hb (hC.2.2.2.2 q _ _ hkd) Y.2.1 (hi X.2) hdg ?_
        exact kk H locs ls (Y.stk (List.forall_mem_cons.mpr ⟨⟨by omega, by omega⟩, hor⟩))
      · cases hv'
    · cases hs
  · cases hs

theorem tb_c_iaload (C : tb_Std X ρ fm D cT cS n0 y p R s m args c) (Y : tb_Dy ρ fm D cT cS n0 y s H locs ls lv st A) (hdg : decode (tb_by y) pc = .ok (.iaload, 1)) (hs : tb_step tb_P X (23, 0, b, z, l0, pc + 1) lv st A = some (pc', lv', st', A')) (kk : tb_G p l e R s m args below meth c cells slots Q ρ fm D cT cS n0 y pc' lv' st' A') : W p l e R s m args below meth c H locs cells slots Q (F0 m pc ls (st.map (tb_cv ρ fm))) := by
  obtain ⟨hx, hb, hml, hown, hts, hK, hC, hfm, hR, hX, hXl, -⟩ := C
  rw [tb_e23] at hs
  split at hs
  · rename_i i q st1
    have hoi : tb_inI i := Y.oks _ List.mem_cons_self
    have hor : ∀ v ∈ st1, tb_ok v := fun v h => Y.oks v (List.mem_cons_of_mem _ (List.mem_cons_of_mem _ h))
    split at hs
    · rename_i v hv
      cases hs
      have hv' : tb_ald tb_kd tb_cI X A 0 q i = some v := hv
      unfold tb_ald at hv'
      split at hv'
      · rename_i n t hkd
        by_cases hc : tb_akd 0 t = true ∧ 0 ≤ i ∧ i < n
        · rw [if_pos hc] at hv'
          cases hv'
          obtain ⟨hak, h0, h1⟩ := hc
          have hok := tb_kdo_of (o := q) (by rw [hkd]; exact Nat.le_of_ble_eq_true rfl)
          unfold tb_kdo at hok
          rw [hkd] at hok
          simp only [Bool.and_eq_true, decide_eq_true_eq] at hok
          obtain ⟨⟨⟨hq, hn⟩, -⟩, -⟩ := hok
          have hin := tb_vpin h0 h1 hn
          have hnat := tb_nat h0 (by omega : i < 2147483648)
          have hcast : ((i.toNat : Nat) : Int) = i := Int.toNat_of_nonneg h0
          have ht : t = 0 := by simpa [tb_akd] using hak
          subst ht
          have he : (tb_ws ρ cT cS A)[q]? = some (ρ q, .inl (cT 0, n, .inl (fun j => Int32.ofInt (A.1 q j)))) := by
            rw [tb_ws_get hq]
            unfold tb_cell
            rw [hkd]
            rfl
          refine va_iald (D := D) hx hb hK Y.1 q 0 he rfl hin hdg ?_
          rw [hnat, hcast]
          exact kk H locs ls (Y.stk (List.forall_mem_cons.mpr ⟨Y.2.2.2.2.2.2.1 _ _, hor⟩))
        · rw [if_neg hc] at hv'; cases hv'
      · rename_i n t hkd
        by_cases hc : tb_akd 0 t = true ∧ 0 ≠ 3 ∧ 0 ≤ i ∧ i < n
        · rw [if_pos hc] at hv'
          cases hv'
          obtain ⟨hak, hb3, h0, h1⟩ := hc
          have hok := tb_kdo_of (o := q) (by rw [hkd]; exact Nat.le_of_ble_eq_true rfl)
          unfold tb_kdo at hok
          rw [hkd] at hok
          simp only [Bool.and_eq_true, decide_eq_true_eq] at hok
          obtain ⟨⟨hn, -⟩, -⟩ := hok
          have hin := tb_vpin h0 h1 hn
          have hnat := tb_nat h0 (by omega : i < 2147483648)
          have hcast : ((i.toNat : Nat) : Int) = i := Int.toNat_of_nonneg h0
          have hT := hC.2.1 q n t hkd
          have ht : t = 0 := by simpa [tb_akd] using hak
          subst ht
          refine va_ti hx hb hT Y.2.1 hin (v := .int (Int32.ofInt (tb_cI q i))) (by rw [hnat, hcast]) hdg ?_
          exact kk H locs ls (Y.stk (List.forall_mem_cons.mpr ⟨tb_cI_in _ _, hor⟩))
        · rw [if_neg hc] at hv'; cases hv'
      · rename_i c' ts hkd
        by_cases hc : 0 = 0 ∧ 0 ≤ i ∧ i < X.2
        · rw [if_pos hc] at hv'
          cases hv'
          obtain ⟨hb0, h0, h1⟩ := hc
          refine va_ti hx hb (hC.2.2.2.2 q _ _ hkd) Y.2.1 (tb_vpin h0 h1 hXl) (v := .int (Int32.ofInt (X.1 i))) (by rw [tb_nat h0 (by omega), Int.toNat_of_nonneg h0]) hdg ?_
          exact kk H locs ls (Y.stk (List.forall_mem_cons.mpr ⟨hX i, hor⟩))
        · rw [if_neg hc] at hv'; cases hv'
      · cases hv'
    · cases hs
  · cases hs

theorem tb_c_baload (C : tb_Std X ρ fm D cT cS n0 y p R s m args c) (Y : tb_Dy ρ fm D cT cS n0 y s H locs ls lv st A) (hdg : decode (tb_by y) pc = .ok (.baload, 1)) (hs : tb_step tb_P X (23, 2, b, z, l0, pc + 1) lv st A = some (pc', lv', st', A')) (kk : tb_G p l e R s m args below meth c cells slots Q ρ fm D cT cS n0 y pc' lv' st' A') : W p l e R s m args below meth c H locs cells slots Q (F0 m pc ls (st.map (tb_cv ρ fm))) := by
  obtain ⟨hx, hb, hml, hown, hts, hK, hC, hfm, hR, hX, hXl, -⟩ := C
  rw [tb_e23] at hs
  split at hs
  · rename_i i q st1
    have hoi : tb_inI i := Y.oks _ List.mem_cons_self
    have hor : ∀ v ∈ st1, tb_ok v := fun v h => Y.oks v (List.mem_cons_of_mem _ (List.mem_cons_of_mem _ h))
    split at hs
    · rename_i v hv
      cases hs
      have hv' : tb_ald tb_kd tb_cI X A 2 q i = some v := hv
      unfold tb_ald at hv'
      split at hv'
      · rename_i n t hkd
        by_cases hc : tb_akd 2 t = true ∧ 0 ≤ i ∧ i < n
        · rw [if_pos hc] at hv'
          cases hv'
          obtain ⟨hak, h0, h1⟩ := hc
          have hok := tb_kdo_of (o := q) (by rw [hkd]; exact Nat.le_of_ble_eq_true rfl)
          unfold tb_kdo at hok
          rw [hkd] at hok
          simp only [Bool.and_eq_true, decide_eq_true_eq] at hok
          obtain ⟨⟨⟨hq, hn⟩, -⟩, -⟩ := hok
          have hin := tb_vpin h0 h1 hn
          have hnat := tb_nat h0 (by omega : i < 2147483648)
          have hcast : ((i.toNat : Nat) : Int) = i := Int.toNat_of_nonneg h0
          have ht : t = 1 ∨ t = 2 := by simpa [tb_akd] using hak
          have he : (tb_ws ρ cT cS A)[q]? = some (ρ q, .inl (cT t, n, .inl (fun j => Int32.ofInt (A.1 q j)))) := by
            rw [tb_ws_get hq]
            unfold tb_cell
            rw [hkd]
            have : t ≠ 3 := by omega
            simp [this]
          rcases ht with rfl | rfl
          · refine va_zald (D := D) hx hb hK Y.1 q 1 he rfl hin hdg ?_
            rw [hnat, hcast]
            exact kk H locs ls (Y.stk (List.forall_mem_cons.mpr ⟨Y.2.2.2.2.2.2.1 _ _, hor⟩))
          · refine va_bald (D := D) hx hb hK Y.1 q 2 he rfl hin hdg ?_
            rw [hnat, hcast]
            exact kk H locs ls (Y.stk (List.forall_mem_cons.mpr ⟨Y.2.2.2.2.2.2.1 _ _, hor⟩))
        · rw [if_neg hc] at hv'; cases hv'
      · rename_i n t hkd
        by_cases hc : tb_akd 2 t = true ∧ 2 ≠ 3 ∧ 0 ≤ i ∧ i < n
        · rw [if_pos hc] at hv'
          cases hv'
          obtain ⟨hak, hb3, h0, h1⟩ := hc
          have hok := tb_kdo_of (o := q) (by rw [hkd]; exact Nat.le_of_ble_eq_true rfl)
          unfold tb_kdo at hok
          rw [hkd] at hok
          simp only [Bool.and_eq_true, decide_eq_true_eq] at hok
          obtain ⟨⟨hn, -⟩, -⟩ := hok
          have hin := tb_vpin h0 h1 hn
          have hnat := tb_nat h0 (by omega : i < 2147483648)
          have hcast : ((i.toNat : Nat) : Int) = i := Int.toNat_of_nonneg h0
          have hT := hC.2.1 q n t hkd
          have ht : t = 1 ∨ t = 2 := by simpa [tb_akd] using hak
          rcases ht with rfl | rfl
          · refine va_tz hx hb hT Y.2.1 hin (v := .int (Int32.ofInt (tb_cI q i))) (by rw [hnat, hcast]) hdg ?_
            exact kk H locs ls (Y.stk (List.forall_mem_cons.mpr ⟨tb_cI_in _ _, hor⟩))
          · refine va_tb hx hb hT Y.2.1 hin (v := .int (Int32.ofInt (tb_cI q i))) (by rw [hnat, hcast]) hdg ?_
            exact kk H locs ls (Y.stk (List.forall_mem_cons.mpr ⟨tb_cI_in _ _, hor⟩))
        · rw [if_neg hc] at hv'; cases hv'
      · rename_i c' ts hkd
        by_cases hc : 2 = 0 ∧ 0 ≤ i ∧ i < X.2
        · rw [if_pos hc] at hv'
          cases hv'
          obtain ⟨hb0, h0, h1⟩ := hc
          exact absurd hb0 (by decide)
        · rw [if_neg hc] at hv'; cases hv'
      · cases hv'
    · cases hs
  · cases hs

theorem tb_c_laload (C : tb_Std X ρ fm D cT cS n0 y p R s m args c) (Y : tb_Dy ρ fm D cT cS n0 y s H locs ls lv st A) (hdg : decode (tb_by y) pc = .ok (.laload, 1)) (hs : tb_step tb_P X (23, 3, b, z, l0, pc + 1) lv st A = some (pc', lv', st', A')) (kk : tb_G p l e R s m args below meth c cells slots Q ρ fm D cT cS n0 y pc' lv' st' A') : W p l e R s m args below meth c H locs cells slots Q (F0 m pc ls (st.map (tb_cv ρ fm))) := by
  obtain ⟨hx, hb, hml, hown, hts, hK, hC, hfm, hR, hX, hXl, -⟩ := C
  rw [tb_e23] at hs
  split at hs
  · rename_i i q st1
    have hoi : tb_inI i := Y.oks _ List.mem_cons_self
    have hor : ∀ v ∈ st1, tb_ok v := fun v h => Y.oks v (List.mem_cons_of_mem _ (List.mem_cons_of_mem _ h))
    split at hs
    · rename_i v hv
      cases hs
      have hv' : tb_ald tb_kd tb_cI X A 3 q i = some v := hv
      unfold tb_ald at hv'
      split at hv'
      · rename_i n t hkd
        by_cases hc : tb_akd 3 t = true ∧ 0 ≤ i ∧ i < n
        · rw [if_pos hc] at hv'
          cases hv'
          obtain ⟨hak, h0, h1⟩ := hc
          have hok := tb_kdo_of (o := q) (by rw [hkd]; exact Nat.le_of_ble_eq_true rfl)
          unfold tb_kdo at hok
          rw [hkd] at hok
          simp only [Bool.and_eq_true, decide_eq_true_eq] at hok
          obtain ⟨⟨⟨hq, hn⟩, -⟩, -⟩ := hok
          have hin := tb_vpin h0 h1 hn
          have hnat := tb_nat h0 (by omega : i < 2147483648)
          have hcast : ((i.toNat : Nat) : Int) = i := Int.toNat_of_nonneg h0
          have ht : t = 3 := by simpa [tb_akd] using hak
          subst ht
          have he : (tb_ws ρ cT cS A)[q]? = some (ρ q, .inl (cT 3, n, .inr (.inl (fun j => Int64.ofInt (A.2.1 q j))))) := by
            rw [tb_ws_get hq]
            unfold tb_cell
            rw [hkd]
            rfl
          refine va_lald (D := D) hx hb hK Y.1 q 3 he rfl hin hdg ?_
          rw [hnat, hcast]
          exact kk H locs ls (Y.stk (List.forall_mem_cons.mpr ⟨Y.2.2.2.2.2.2.2 _ _, hor⟩))
        · rw [if_neg hc] at hv'; cases hv'
      · rename_i n t hkd
        by_cases hc : tb_akd 3 t = true ∧ 3 ≠ 3 ∧ 0 ≤ i ∧ i < n
        · rw [if_pos hc] at hv'
          cases hv'
          obtain ⟨hak, hb3, h0, h1⟩ := hc
          have hok := tb_kdo_of (o := q) (by rw [hkd]; exact Nat.le_of_ble_eq_true rfl)
          unfold tb_kdo at hok
          rw [hkd] at hok
          simp only [Bool.and_eq_true, decide_eq_true_eq] at hok
          obtain ⟨⟨hn, -⟩, -⟩ := hok
          have hin := tb_vpin h0 h1 hn
          have hnat := tb_nat h0 (by omega : i < 2147483648)
          have hcast : ((i.toNat : Nat) : Int) = i := Int.toNat_of_nonneg h0
          have hT := hC.2.1 q n t hkd
          exact absurd rfl hb3
        · rw [if_neg hc] at hv'; cases hv'
      · rename_i c' ts hkd
        by_cases hc : 3 = 0 ∧ 0 ≤ i ∧ i < X.2
        · rw [if_pos hc] at hv'
          cases hv'
          obtain ⟨hb0, h0, h1⟩ := hc
          exact absurd hb0 (by decide)
        · rw [if_neg hc] at hv'; cases hv'
      · cases hv'
    · cases hs
  · cases hs

theorem tb_c_aaload (C : tb_Std X ρ fm D cT cS n0 y p R s m args c) (Y : tb_Dy ρ fm D cT cS n0 y s H locs ls lv st A) (hdg : decode (tb_by y) pc = .ok (.aaload, 1)) (hs : tb_step tb_P X (25, a, b, z, l0, pc + 1) lv st A = some (pc', lv', st', A')) (kk : tb_G p l e R s m args below meth c cells slots Q ρ fm D cT cS n0 y pc' lv' st' A') : W p l e R s m args below meth c H locs cells slots Q (F0 m pc ls (st.map (tb_cv ρ fm))) := by
  obtain ⟨hx, hb, hml, hown, hts, hK, hC, hfm, hR, hX, hXl, -⟩ := C
  rw [tb_e25] at hs
  split at hs
  · rename_i i q st1
    have hor : ∀ v ∈ st1, tb_ok v := fun v h => Y.oks v (List.mem_cons_of_mem _ (List.mem_cons_of_mem _ h))
    split at hs
    · rename_i v hv
      cases hs
      have hv' : tb_aald tb_kd q i = some v := hv
      unfold tb_aald at hv'
      split at hv'
      · rename_i n tg hkd
        by_cases hc : 0 ≤ i ∧ i < n
        · rw [if_pos hc] at hv'
          obtain ⟨h0, h1⟩ := hc
          split at hv'
          · rename_i o ho
            cases hv'
            have hok := tb_kdo_of (o := q) (by rw [hkd]; exact Nat.le_of_ble_eq_true rfl)
            unfold tb_kdo at hok
            rw [hkd] at hok
            simp only [Bool.and_eq_true, decide_eq_true_eq] at hok
            obtain ⟨⟨hq, hn⟩, hl1⟩ := hok
            have he : (tb_ws ρ cT cS A)[q]? = some (ρ q, .inl (cS, n, .inr (.inr (.inr (.inr (fun j => (tg[j]?).map ρ)))))) := by
              rw [tb_ws_get hq]
              unfold tb_cell
              rw [hkd]
              rfl
            refine va_aldq (D := D) hx hb hK Y.1 q 4 he rfl (tb_vpin h0 h1 hn) hdg ?_
            rw [tb_nat h0 (by omega), ho]
            exact kk H locs ls (Y.stk (List.forall_mem_cons.mpr ⟨trivial, hor⟩))
          · cases hv'
        · rw [if_neg hc] at hv'; cases hv'
      · cases hv'
    · cases hs
  · cases hs

theorem tb_c_iastore (C : tb_Std X ρ fm D cT cS n0 y p R s m args c) (Y : tb_Dy ρ fm D cT cS n0 y s H locs ls lv st A) (hdg : decode (tb_by y) pc = .ok (.iastore, 1)) (hs : tb_step tb_P X (24, 0, b, z, l0, pc + 1) lv st A = some (pc', lv', st', A')) (kk : tb_G p l e R s m args below meth c cells slots Q ρ fm D cT cS n0 y pc' lv' st' A') : W p l e R s m args below meth c H locs cells slots Q (F0 m pc ls (st.map (tb_cv ρ fm))) := by
  obtain ⟨hx, hb, hml, hown, hts, hK, hC, hfm, hR, hX, hXl, -⟩ := C
  rw [tb_e24] at hs
  split at hs
  · rename_i v i q st1
    have hov := Y.oks _ List.mem_cons_self
    have hor : ∀ v ∈ st1, tb_ok v := fun v h => Y.oks v (List.mem_cons_of_mem _ (List.mem_cons_of_mem _ (List.mem_cons_of_mem _ h)))
    split at hs
    · rename_i A2 hv
      cases hs
      have hv' : tb_ast tb_kd A 0 q i v = some A' := hv
      unfold tb_ast at hv'
      split at hv'
      · rename_i n t hkd
        by_cases hc : tb_akd 0 t = true ∧ 0 ≤ i ∧ i < n
        · rw [if_pos hc] at hv'
          obtain ⟨hak, h0, h1⟩ := hc
          have hok := tb_kdo_of (o := q) (by rw [hkd]; exact Nat.le_of_ble_eq_true rfl)
          unfold tb_kdo at hok
          rw [hkd] at hok
          simp only [Bool.and_eq_true, decide_eq_true_eq] at hok
          obtain ⟨⟨⟨hq, hn⟩, -⟩, -⟩ := hok
          have hin := tb_vpin h0 h1 hn
          have hnat := tb_nat h0 (by omega : i < 2147483648)
          have hcast : ((i.toNat : Nat) : Int) = i := Int.toNat_of_nonneg h0
          obtain ⟨hP, hS, hL, hn2, hol, -, hA1, hA2⟩ := Y
          have ht : t = 0 := by simpa [tb_akd] using hak
          subst ht
          rcases v with x | x | x | x <;> (try (cases hv'; done))
          cases hv'
          have he : (tb_ws ρ cT cS A)[q]? = some (ρ q, .inl (cT 0, n, .inl (fun j => Int32.ofInt (A.1 q j)))) := by
            rw [tb_ws_get hq]
            unfold tb_cell
            rw [hkd]
            rfl
          have hcell : tb_cell ρ cT cS (tb_upI A q i (x)) q = .inl (cT 0, n, .inl (upd (fun j => Int32.ofInt (A.1 q j)) i.toNat (Int32.ofInt (x)))) := by
            unfold tb_cell
            rw [hkd]
            show (Sum.inl (cT 0, n, Sum.inl (fun j : Nat => Int32.ofInt ((tb_upI A q i (x)).1 q j))) : va_E) = _
            refine congrArg (fun f => (Sum.inl (cT 0, n, Sum.inl f) : va_E)) (funext (fun j => ?_))
            unfold tb_upI upd
            by_cases hj : j = i.toNat
            · simp [hj, hcast]
            · have : ¬ ((j : Int) = i) := by omega
              simp [hj, this]
          refine va_iast (D := D) hx hb hK hP (hR.D cT cS A) hS q 0 he rfl hin hdg (fun H1 locs1 hP1 hD1 hS1 => ?_)
          refine kk H1 locs1 ls ⟨?_, hS1, hL, hn2, hol, hor, fun o k => by unfold tb_upI; dsimp only; split; exact hov; exact hA1 o k, hA2⟩
          rw [tb_ws_set (A := A) (B := tb_upI A q i (x)) hq (fun j hj => ⟨by funext k; simp [tb_upI, hj], rfl, rfl⟩), hcell]
          rw [hnat] at hP1
          exact hP1
        · rw [if_neg hc] at hv'; cases hv'
      · cases hv'
    · cases hs
  · cases hs

theorem tb_c_bastore (C : tb_Std X ρ fm D cT cS n0 y p R s m args c) (Y : tb_Dy ρ fm D cT cS n0 y s H locs ls lv st A) (hdg : decode (tb_by y) pc = .ok (.bastore, 1)) (hs : tb_step tb_P X (24, 2, b, z, l0, pc + 1) lv st A = some (pc', lv', st', A')) (kk : tb_G p l e R s m args below meth c cells slots Q ρ fm D cT cS n0 y pc' lv' st' A') : W p l e R s m args below meth c H locs cells slots Q (F0 m pc ls (st.map (tb_cv ρ fm))) := by
  obtain ⟨hx, hb, hml, hown, hts, hK, hC, hfm, hR, hX, hXl, -⟩ := C
  rw [tb_e24] at hs
  split at hs
  · rename_i v i q st1
    have hov := Y.oks _ List.mem_cons_self
    have hor : ∀ v ∈ st1, tb_ok v := fun v h => Y.oks v (List.mem_cons_of_mem _ (List.mem_cons_of_mem _ (List.mem_cons_of_mem _ h)))
    split at hs
    · rename_i A2 hv
      cases hs
      have hv' : tb_ast tb_kd A 2 q i v = some A' := hv
      unfold tb_ast at hv'
      split at hv'
      · rename_i n t hkd
        by_cases hc : tb_akd 2 t = true ∧ 0 ≤ i ∧ i < n
        · rw [if_pos hc] at hv'
          obtain ⟨hak, h0, h1⟩ := hc
          have hok := tb_kdo_of (o := q) (by rw [hkd]; exact Nat.le_of_ble_eq_true rfl)
          unfold tb_kdo at hok
          rw [hkd] at hok
          simp only [Bool.and_eq_true, decide_eq_true_eq] at hok
          obtain ⟨⟨⟨hq, hn⟩, -⟩, -⟩ := hok
          have hin := tb_vpin h0 h1 hn
          have hnat := tb_nat h0 (by omega : i < 2147483648)
          have hcast : ((i.toNat : Nat) : Int) = i := Int.toNat_of_nonneg h0
          obtain ⟨hP, hS, hL, hn2, hol, -, hA1, hA2⟩ := Y
          have ht : t = 1 ∨ t = 2 := by simpa [tb_akd] using hak
          rcases v with x | x | x | x <;> (try (rcases ht with rfl | rfl <;> cases hv'; done))
          have hox : tb_inI x := hov
          rcases ht with rfl | rfl
          · have hv3 : (if x = 0 ∨ x = 1 then some (tb_upI A q i x) else none) = some A' := hv'
            by_cases h01 : x = 0 ∨ x = 1
            · rw [if_pos h01] at hv3
              cases hv3
              have hnar : vp_nar .boolean (Int32.ofInt x) = Int32.ofInt x := by rcases h01 with rfl | rfl <;> rfl
              have he : (tb_ws ρ cT cS A)[q]? = some (ρ q, .inl (cT 1, n, .inl (fun j => Int32.ofInt (A.1 q j)))) := by
                rw [tb_ws_get hq]
                unfold tb_cell
                rw [hkd]
                rfl
              have hcell : tb_cell ρ cT cS (tb_upI A q i (x)) q = .inl (cT 1, n, .inl (upd (fun j => Int32.ofInt (A.1 q j)) i.toNat (Int32.ofInt (x)))) := by
                unfold tb_cell
                rw [hkd]
                show (Sum.inl (cT 1, n, Sum.inl (fun j : Nat => Int32.ofInt ((tb_upI A q i (x)).1 q j))) : va_E) = _
                refine congrArg (fun f => (Sum.inl (cT 1, n, Sum.inl f) : va_E)) (funext (fun j => ?_))
                unfold tb_upI upd
                by_cases hj : j = i.toNat
                · simp [hj, hcast]
                · have : ¬ ((j : Int) = i) := by omega
                  simp [hj, this]
              refine va_zast (D := D) hx hb hK hP (hR.D cT cS A) hS q 1 he rfl hin hdg (fun H1 locs1 hP1 hD1 hS1 => ?_)
              refine kk H1 locs1 ls ⟨?_, hS1, hL, hn2, hol, hor, fun o k => by unfold tb_upI; dsimp only; split; exact hov; exact hA1 o k, hA2⟩
              rw [tb_ws_set (A := A) (B := tb_upI A q i (x)) hq (fun j hj => ⟨by funext k; simp [tb_upI, hj], rfl, rfl⟩), hcell]
              rw [hnat, hnar] at hP1
              exact hP1
            · rw [if_neg h01] at hv3; cases hv3
          · have hv3 : some (tb_upI A q i (tb_b8 x)) = some A' := hv'
            cases hv3
            have hnar : vp_nar .byte (Int32.ofInt x) = Int32.ofInt (tb_b8 x) := by
              rw [← tb_i2b]
              rfl
            have he : (tb_ws ρ cT cS A)[q]? = some (ρ q, .inl (cT 2, n, .inl (fun j => Int32.ofInt (A.1 q j)))) := by
              rw [tb_ws_get hq]
              unfold tb_cell
              rw [hkd]
              rfl
            have hcell : tb_cell ρ cT cS (tb_upI A q i (tb_b8 x)) q = .inl (cT 2, n, .inl (upd (fun j => Int32.ofInt (A.1 q j)) i.toNat (Int32.ofInt (tb_b8 x)))) := by
              unfold tb_cell
              rw [hkd]
              show (Sum.inl (cT 2, n, Sum.inl (fun j : Nat => Int32.ofInt ((tb_upI A q i (tb_b8 x)).1 q j))) : va_E) = _
              refine congrArg (fun f => (Sum.inl (cT 2, n, Sum.inl f) : va_E)) (funext (fun j => ?_))
              unfold tb_upI upd
              by_cases hj : j = i.toNat
              · simp [hj, hcast]
              · have : ¬ ((j : Int) = i) := by omega
                simp [hj, this]
            refine va_bast (D := D) hx hb hK hP (hR.D cT cS A) hS q 2 he rfl hin hdg (fun H1 locs1 hP1 hD1 hS1 => ?_)
            refine kk H1 locs1 ls ⟨?_, hS1, hL, hn2, hol, hor, fun o k => by unfold tb_upI; dsimp only; split; exact tb_b8_in _; exact hA1 o k, hA2⟩
            rw [tb_ws_set (A := A) (B := tb_upI A q i (tb_b8 x)) hq (fun j hj => ⟨by funext k; simp [tb_upI, hj], rfl, rfl⟩), hcell]
            rw [hnat, hnar] at hP1
            exact hP1
        · rw [if_neg hc] at hv'; cases hv'
      · cases hv'
    · cases hs
  · cases hs

theorem tb_c_lastore (C : tb_Std X ρ fm D cT cS n0 y p R s m args c) (Y : tb_Dy ρ fm D cT cS n0 y s H locs ls lv st A) (hdg : decode (tb_by y) pc = .ok (.lastore, 1)) (hs : tb_step tb_P X (24, 3, b, z, l0, pc + 1) lv st A = some (pc', lv', st', A')) (kk : tb_G p l e R s m args below meth c cells slots Q ρ fm D cT cS n0 y pc' lv' st' A') : W p l e R s m args below meth c H locs cells slots Q (F0 m pc ls (st.map (tb_cv ρ fm))) := by
  obtain ⟨hx, hb, hml, hown, hts, hK, hC, hfm, hR, hX, hXl, -⟩ := C
  rw [tb_e24] at hs
  split at hs
  · rename_i v i q st1
    have hov := Y.oks _ List.mem_cons_self
    have hor : ∀ v ∈ st1, tb_ok v := fun v h => Y.oks v (List.mem_cons_of_mem _ (List.mem_cons_of_mem _ (List.mem_cons_of_mem _ h)))
    split at hs
    · rename_i A2 hv
      cases hs
      have hv' : tb_ast tb_kd A 3 q i v = some A' := hv
      unfold tb_ast at hv'
      split at hv'
      · rename_i n t hkd
        by_cases hc : tb_akd 3 t = true ∧ 0 ≤ i ∧ i < n
        · rw [if_pos hc] at hv'
          obtain ⟨hak, h0, h1⟩ := hc
          have hok := tb_kdo_of (o := q) (by rw [hkd]; exact Nat.le_of_ble_eq_true rfl)
          unfold tb_kdo at hok
          rw [hkd] at hok
          simp only [Bool.and_eq_true, decide_eq_true_eq] at hok
          obtain ⟨⟨⟨hq, hn⟩, -⟩, -⟩ := hok
          have hin := tb_vpin h0 h1 hn
          have hnat := tb_nat h0 (by omega : i < 2147483648)
          have hcast : ((i.toNat : Nat) : Int) = i := Int.toNat_of_nonneg h0
          obtain ⟨hP, hS, hL, hn2, hol, -, hA1, hA2⟩ := Y
          have ht : t = 3 := by simpa [tb_akd] using hak
          subst ht
          rcases v with x | x | x | x <;> (try (cases hv'; done))
          cases hv'
          have he : (tb_ws ρ cT cS A)[q]? = some (ρ q, .inl (cT 3, n, .inr (.inl (fun j => Int64.ofInt (A.2.1 q j))))) := by
            rw [tb_ws_get hq]
            unfold tb_cell
            rw [hkd]
            rfl
          have hcell : tb_cell ρ cT cS (tb_upL A q i x) q = .inl (cT 3, n, .inr (.inl (vp_updL (fun j => Int64.ofInt (A.2.1 q j)) i.toNat (Int64.ofInt x)))) := by
            unfold tb_cell
            rw [hkd]
            show (Sum.inl (cT 3, n, Sum.inr (Sum.inl (fun j : Nat => Int64.ofInt ((tb_upL A q i x).2.1 q j)))) : va_E) = _
            refine congrArg (fun f => (Sum.inl (cT 3, n, Sum.inr (Sum.inl f)) : va_E)) (funext (fun j => ?_))
            unfold tb_upL vp_updL
            by_cases hj : j = i.toNat
            · simp [hj, hcast]
            · have : ¬ ((j : Int) = i) := by omega
              simp [hj, this]
          refine va_last (D := D) hx hb hK hP (hR.D cT cS A) hS q 3 he rfl hin hdg (fun H1 locs1 hP1 hD1 hS1 => ?_)
          refine kk H1 locs1 ls ⟨?_, hS1, hL, hn2, hol, hor, hA1, fun o k => by unfold tb_upL; dsimp only; split; exact hov; exact hA2 o k⟩
          rw [tb_ws_set (A := A) (B := tb_upL A q i x) hq (fun j hj => ⟨rfl, by funext k; simp [tb_upL, hj], rfl⟩), hcell]
          rw [hnat] at hP1
          exact hP1
        · rw [if_neg hc] at hv'; cases hv'
      · cases hv'
    · cases hs
  · cases hs

theorem tb_c_acopy (C : tb_Std X ρ fm D cT cS n0 y p R s m args c) (Y : tb_Dy ρ fm D cT cS n0 y s H locs ls lv st A) {i j : Nat} (hj : tb_mlr[j]? = some (tb_oi y, i, 999)) (hdg : decode (tb_by y) pc = .ok (.invokestatic i, 3)) (hs : tb_step tb_P X (42, a, b, z, l0, pc + 3) lv st A = some (pc', lv', st', A')) (kk : tb_G p l e R s m args below meth c cells slots Q ρ fm D cT cS n0 y pc' lv' st' A') : W p l e R s m args below meth c H locs cells slots Q (F0 m pc ls (st.map (tb_cv ρ fm))) := by
  obtain ⟨hx, hb, hml, hown, hts, hK, hC, hfm, hR, hX, hXl, hr1, hr2, hr3⟩ := C
  rw [tb_e42] at hs
  split at hs
  · rename_i n dp q sp o st1
    have hon : tb_inI n := Y.oks _ List.mem_cons_self
    have hor : ∀ v ∈ st1, tb_ok v := fun v h => Y.oks v (List.mem_cons_of_mem _ (List.mem_cons_of_mem _ (List.mem_cons_of_mem _ (List.mem_cons_of_mem _ (List.mem_cons_of_mem _ h)))))
    by_cases h8 : (st1.map tb_cat).sum ≤ 8
    · rw [if_pos h8] at hs
      split at hs
      · rename_i A2 hv
        cases hs
        have hv' : tb_acpy tb_kd A o sp q dp n = some A' := hv
        unfold tb_acpy at hv'
        split at hv'
        · rename_i k0 k1 hkd0 hkd1
          by_cases hc : 0 ≤ sp ∧ 0 ≤ dp ∧ 0 ≤ n ∧ sp + n ≤ k0 ∧ dp + n ≤ k1
          · rw [if_pos hc] at hv'
            cases hv'
            obtain ⟨g1, g2, g3, g4, g5⟩ := hc
            have hok := tb_kdo_of (o := o) (by rw [hkd0]; exact Nat.le_of_ble_eq_true rfl)
            unfold tb_kdo at hok
            rw [hkd0] at hok
            simp only [Bool.and_eq_true, decide_eq_true_eq] at hok
            obtain ⟨⟨⟨hq0, hk0⟩, -⟩, -⟩ := hok
            have hok := tb_kdo_of (o := q) (by rw [hkd1]; exact Nat.le_of_ble_eq_true rfl)
            unfold tb_kdo at hok
            rw [hkd1] at hok
            simp only [Bool.and_eq_true, decide_eq_true_eq] at hok
            obtain ⟨⟨⟨hq1, hk1⟩, -⟩, -⟩ := hok
            have he0 : (tb_ws ρ cT cS A)[o]? = some (ρ o, .inl (cT 0, k0, .inl (fun j => Int32.ofInt (A.1 o j)))) := by
              rw [tb_ws_get hq0]
              unfold tb_cell
              rw [hkd0]
              rfl
            have he1 : (tb_ws ρ cT cS A)[q]? = some (ρ q, .inl (cT 0, k1, .inl (fun j => Int32.ofInt (A.1 q j)))) := by
              rw [tb_ws_get hq1]
              unfold tb_cell
              rw [hkd1]
              rfl
            have nn : ∀ x : Int, 0 ≤ x → x < 2147483648 → ¬ Int32.ofInt x < 0 := fun x h0 h1 h => by
              have := (tb_lt (x := x) (y := 0) ⟨by omega, h1⟩ ⟨by decide, by decide⟩).mp h
              omega
            have e1 := tb_nat g1 (by omega : sp < 2147483648)
            have e2 := tb_nat g2 (by omega : dp < 2147483648)
            have e3 := tb_nat g3 (by omega : n < 2147483648)
            have hcell : tb_cell ρ cT cS (tb_cpy A o sp q dp n) q = .inl (cT 0, k1, .inl (va_cpy (fun j => Int32.ofInt (A.1 o j)) (fun j => Int32.ofInt (A.1 q j)) sp.toNat dp.toNat n.toNat)) := by
              unfold tb_cell
              rw [hkd1]
              show (Sum.inl (cT 0, k1, Sum.inl (fun j : Nat => Int32.ofInt ((tb_cpy A o sp q dp n).1 q j))) : va_E) = _
              refine congrArg (fun f => (Sum.inl (cT 0, k1, Sum.inl f) : va_E)) (funext (fun j => ?_))
              unfold tb_cpy va_cpy
              by_cases hj : dp.toNat ≤ j ∧ j < dp.toNat + n.toNat
              · have h2 : dp ≤ (j : Int) ∧ (j : Int) < dp + n := by omega
                have h3 : ((sp.toNat + (j - dp.toNat) : Nat) : Int) = (j : Int) - dp + sp := by omega
                simp only [if_pos hj, h2, and_self, if_true]
                rw [h3]
              · have h2 : ¬ (dp ≤ (j : Int) ∧ (j : Int) < dp + n) := by omega
                simp only [if_neg hj, h2, and_false, if_false]
            have hsz : c.maxLocals = ls.size := by rw [hml]; exact Y.2.2.1.1.symm
            obtain ⟨hP, hS, hL, hn2, hol, -, hA1, hA2⟩ := Y
            have hw := tb_subg_in tb_mlr_in _ (List.mem_map.mpr ⟨(tb_oi y, i, 999), List.mem_of_getElem? hj, rfl⟩)
            refine va_copyi (D := D) hx hb hsz hown (hts _ hw) (hts _ tb_acn) (hts _ tb_acs) (hts _ tb_aci) hK hP (hR.D cT cS A) hS o q 0 0 he0 he1 rfl rfl rfl (nn _ g1 (by omega)) (nn _ g2 (by omega)) (nn _ g3 (by omega)) (by rw [e1, e3]; omega) (by rw [e2, e3]; omega) (fun _ _ => rfl) (by omega) ?_ hdg (fun H1 locs1 hP1 hD1 hS1 => ?_)
            · rw [tb_cats hfm]
              have : nativeFrameWords "java/lang/System" "arraycopy" 5 ≤ 20 := by decide
              omega
            · refine kk H1 locs1 ls ⟨?_, hS1, hL, hn2, hol, hor, fun o' k => by unfold tb_cpy; dsimp only; split; exact hA1 _ _; exact hA1 o' k, hA2⟩
              rw [tb_ws_set (A := A) (B := tb_cpy A o sp q dp n) hq1 (fun j hj => ⟨by funext k; simp [tb_cpy, hj], rfl, rfl⟩), hcell]
              rw [e1, e2, e3] at hP1
              exact hP1
          · rw [if_neg hc] at hv'; cases hv'
        · cases hv'
      · cases hs
    · rw [if_neg h8] at hs; cases hs
  · cases hs

theorem tb_c_mmin (C : tb_Std X ρ fm D cT cS n0 y p R s m args c) (Y : tb_Dy ρ fm D cT cS n0 y s H locs ls lv st A) {i j : Nat} (hj : tb_mlr[j]? = some (tb_oi y, i, 1000)) (hcs : cells ≤ R.cells ∧ slots ≤ R.slots) (hdg : decode (tb_by y) pc = .ok (.invokestatic i, 3)) (hs : tb_step tb_P X (43, 0, b, z, l0, pc + 3) lv st A = some (pc', lv', st', A')) (kk : tb_G p l e R s m args below meth c cells slots Q ρ fm D cT cS n0 y pc' lv' st' A') : W p l e R s m args below meth c H locs cells slots Q (F0 m pc ls (st.map (tb_cv ρ fm))) := by
  obtain ⟨hx, hb, hml, hown, hts, hK, hC, hfm, hR, hX, hXl, hr1, hr2, hr3⟩ := C
  have hs2 : ∃ yv xv st1, st = tb_i yv :: tb_i xv :: st1 ∧ (if (st1.map tb_cat).sum ≤ 8 then some (pc + 3, lv, tb_i (if yv < xv then yv else xv) :: st1, A) else none) = some (pc', lv', st', A') := by
    match st, hs with
    | .inl yv :: .inl xv :: st1, hs => exact ⟨yv, xv, st1, rfl, hs⟩
    | [], hs => cases hs
    | [v], hs => rcases v with x | x <;> cases hs
    | .inr v :: w :: st1, hs => cases hs
    | .inl v :: .inr w :: st1, hs => cases hs
  obtain ⟨yv, xv, st1, rfl, hs3⟩ := hs2
  clear hs
  have hs := hs3
  clear hs3
  by_cases h8 : (st1.map tb_cat).sum ≤ 8
  · rw [if_pos h8] at hs
    cases hs
    have hoy : tb_inI yv := Y.oks _ List.mem_cons_self
    have hox : tb_inI xv := Y.oks _ (List.mem_cons_of_mem _ List.mem_cons_self)
    have hor : ∀ v ∈ st1, tb_ok v := fun v h => Y.oks v (List.mem_cons_of_mem _ (List.mem_cons_of_mem _ h))
    have hsz : c.maxLocals = ls.size := by rw [hml]; exact Y.2.2.1.1.symm
    have hw := tb_subg_in tb_mlr_in _ (List.mem_map.mpr ⟨(tb_oi y, i, 1000), List.mem_of_getElem? hj, rfl⟩)
    refine va_mmin hx hb hsz hown (hts _ hw) (hts _ tb_ma0) (hts _ tb_mai) (hts _ tb_mb0) (by omega) (by rw [tb_cats hfm]; omega) hcs.1 hcs.2 hdg ?_
    by_cases hlt : yv < xv
    · rw [if_pos hlt] at kk
      rw [if_pos ((tb_lt hoy hox).mpr hlt)]
      exact kk H locs ls (Y.stk (List.forall_mem_cons.mpr ⟨hoy, hor⟩))
    · rw [if_neg hlt] at kk
      rw [if_neg (fun h => hlt ((tb_lt hoy hox).mp h))]
      exact kk H locs ls (Y.stk (List.forall_mem_cons.mpr ⟨hox, hor⟩))
  · rw [if_neg h8] at hs; cases hs

theorem tb_c_mmax (C : tb_Std X ρ fm D cT cS n0 y p R s m args c) (Y : tb_Dy ρ fm D cT cS n0 y s H locs ls lv st A) {i j : Nat} (hj : tb_mlr[j]? = some (tb_oi y, i, 1001)) (hcs : cells ≤ R.cells ∧ slots ≤ R.slots) (hdg : decode (tb_by y) pc = .ok (.invokestatic i, 3)) (hs : tb_step tb_P X (43, 1, b, z, l0, pc + 3) lv st A = some (pc', lv', st', A')) (kk : tb_G p l e R s m args below meth c cells slots Q ρ fm D cT cS n0 y pc' lv' st' A') : W p l e R s m args below meth c H locs cells slots Q (F0 m pc ls (st.map (tb_cv ρ fm))) := by
  obtain ⟨hx, hb, hml, hown, hts, hK, hC, hfm, hR, hX, hXl, hr1, hr2, hr3⟩ := C
  have hs2 : ∃ yv xv st1, st = tb_i yv :: tb_i xv :: st1 ∧ (if (st1.map tb_cat).sum ≤ 8 then some (pc + 3, lv, tb_i (if xv < yv then yv else xv) :: st1, A) else none) = some (pc', lv', st', A') := by
    match st, hs with
    | .inl yv :: .inl xv :: st1, hs => exact ⟨yv, xv, st1, rfl, hs⟩
    | [], hs => cases hs
    | [v], hs => rcases v with x | x <;> cases hs
    | .inr v :: w :: st1, hs => cases hs
    | .inl v :: .inr w :: st1, hs => cases hs
  obtain ⟨yv, xv, st1, rfl, hs3⟩ := hs2
  clear hs
  have hs := hs3
  clear hs3
  by_cases h8 : (st1.map tb_cat).sum ≤ 8
  · rw [if_pos h8] at hs
    cases hs
    have hoy : tb_inI yv := Y.oks _ List.mem_cons_self
    have hox : tb_inI xv := Y.oks _ (List.mem_cons_of_mem _ List.mem_cons_self)
    have hor : ∀ v ∈ st1, tb_ok v := fun v h => Y.oks v (List.mem_cons_of_mem _ (List.mem_cons_of_mem _ h))
    have hsz : c.maxLocals = ls.size := by rw [hml]; exact Y.2.2.1.1.symm
    have hw := tb_subg_in tb_mlr_in _ (List.mem_map.mpr ⟨(tb_oi y, i, 1001), List.mem_of_getElem? hj, rfl⟩)
    refine va_mmax hx hb hsz hown (hts _ hw) (hts _ tb_ma1) (hts _ tb_mai) (hts _ tb_mb1) (by omega) (by rw [tb_cats hfm]; omega) hcs.1 hcs.2 hdg ?_
    by_cases hlt : xv < yv
    · rw [if_pos hlt] at kk
      rw [if_pos ((tb_lt hox hoy).mpr hlt)]
      exact kk H locs ls (Y.stk (List.forall_mem_cons.mpr ⟨hoy, hor⟩))
    · rw [if_neg hlt] at kk
      rw [if_neg (fun h => hlt ((tb_lt hox hoy).mp h))]
      exact kk H locs ls (Y.stk (List.forall_mem_cons.mpr ⟨hox, hor⟩))
  · rw [if_neg h8] at hs; cases hs

theorem tb_c_mabs (C : tb_Std X ρ fm D cT cS n0 y p R s m args c) (Y : tb_Dy ρ fm D cT cS n0 y s H locs ls lv st A) {i j : Nat} (hj : tb_mlr[j]? = some (tb_oi y, i, 1002)) (hcs : cells ≤ R.cells ∧ slots ≤ R.slots) (hdg : decode (tb_by y) pc = .ok (.invokestatic i, 3)) (hs : tb_step tb_P X (43, 2, b, z, l0, pc + 3) lv st A = some (pc', lv', st', A')) (kk : tb_G p l e R s m args below meth c cells slots Q ρ fm D cT cS n0 y pc' lv' st' A') : W p l e R s m args below meth c H locs cells slots Q (F0 m pc ls (st.map (tb_cv ρ fm))) := by
  obtain ⟨hx, hb, hml, hown, hts, hK, hC, hfm, hR, hX, hXl, hr1, hr2, hr3⟩ := C
  have hs2 : ∃ xv st1, st = tb_i xv :: st1 ∧ (if (st1.map tb_cat).sum ≤ 8 then some (pc + 3, lv, tb_i (if 0 ≤ xv then xv else tb_w (0 - xv)) :: st1, A) else none) = some (pc', lv', st', A') := by
    match st, hs with
    | .inl xv :: st1, hs => exact ⟨xv, st1, rfl, hs⟩
    | [], hs => cases hs
    | .inr v :: st1, hs => cases hs
  obtain ⟨xv, st1, rfl, hs3⟩ := hs2
  clear hs
  have hs := hs3
  clear hs3
  by_cases h8 : (st1.map tb_cat).sum ≤ 8
  · rw [if_pos h8] at hs
    cases hs
    have hox : tb_inI xv := Y.oks _ List.mem_cons_self
    have hor : ∀ v ∈ st1, tb_ok v := fun v h => Y.oks v (List.mem_cons_of_mem _ h)
    have hsz : c.maxLocals = ls.size := by rw [hml]; exact Y.2.2.1.1.symm
    have hw := tb_subg_in tb_mlr_in _ (List.mem_map.mpr ⟨(tb_oi y, i, 1002), List.mem_of_getElem? hj, rfl⟩)
    refine va_mabs hx hb hsz hown (hts _ hw) (hts _ tb_ma2) (hts _ tb_mai) (hts _ tb_mb2) (by omega) (by rw [tb_cats hfm]; omega) hcs.1 hcs.2 hdg ?_
    have hle : (0 : Int32) ≤ Int32.ofInt xv ↔ 0 ≤ xv := tb_le (x := 0) ⟨by decide, by decide⟩ hox
    by_cases hlt : 0 ≤ xv
    · rw [if_pos hlt] at kk
      rw [if_pos (hle.mpr hlt)]
      exact kk H locs ls (Y.stk (List.forall_mem_cons.mpr ⟨hox, hor⟩))
    · rw [if_neg hlt] at kk
      rw [if_neg (fun h => hlt (hle.mp h))]
      have hv : (0 : Int32) - Int32.ofInt xv = Int32.ofInt (tb_w (0 - xv)) := by rw [tb_ofw, Int32.ofInt_sub]; rfl
      rw [hv]
      exact kk H locs ls (Y.stk (List.forall_mem_cons.mpr ⟨tb_w_in _, hor⟩))
  · rw [if_neg h8] at hs; cases hs

end TBST
