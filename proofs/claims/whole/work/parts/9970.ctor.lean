/-! CONSTRUCTORS, the general steps: an array into a field, an object into a field -/
section TFC
variable {p : Program} {l : Launch} {e : Env} {R : Room} {s : State} {m : MethodId} {args : Array Value} {below : List Frame} {meth : Method} {c : Code} {H : Heap} {locs : List Loc} {cells slots : Nat} {Q : State → Prop}
variable {D : va_G} {cT : Nat → ClassId} {cS : ClassId} {A : Nat → Prop} {cc : ByteArray} {pc : Nat} {ls : Array Slot} {rest : List Value} {ws : va_W} {own : String}
def tf_ar (cT : Nat → ClassId) (t n : Nat) : va_E := if t = 3 then .inl (cT 3, n, .inr (.inl (fun _ => 0))) else .inl (cT t, n, .inl (fun _ => 0))
def tf_aty (t : Nat) : ArrayType := if t = 0 then .int else if t = 1 then .boolean else if t = 2 then .byte else .long
theorem tf_new1 (hexec : p.tables.exec = Jvm.exec) (hb : c.code = cc) {atype : ArrayType} (harr : (Cond.arrayClass (newarray.typeOf atype)).before args s = true) {ty : FieldType} (hty : newarray.typeOf atype = ty) {ct : ClassId} (hct : (ct, ty) ∈ tb_tys cT cS) (hob : ∀ C, ty ≠ .object C) (hK : va_K D tb_cl (tb_tys cT cS) s) (hP : va_P D tb_cl ws H) (hD : va_D A ws) (hS : va_S A s.heap H locs) (hA : ∀ q, s.heap.size ≤ q → A q)
    {n : Int32} {N : Nat} {a0 : vp_A} (ha : ∀ cA : ClassId, vp_cell cA a0 = arrV cA N (fun _ => defaultValue ty)) (hn : ¬ n < 0) (hN : n.toNatClampNeg = N) (hbytes : N * componentBytes ty ≤ 536870912) (hcells : cells + 1 ≤ R.cells) (hslots : slots + N ≤ R.slots) (hdg : decode cc pc = .ok (.newarray atype, 2))
    (kk : ∀ (q : Nat) (H1 : Heap), va_P D tb_cl (ws ++ [(q, .inl (ct, a0))]) H1 → va_D A (ws ++ [(q, .inl (ct, a0))]) → va_S A s.heap H1 locs → W p l e R s m args below meth c H1 locs (cells + 1) (slots + N) Q (F0 m (pc + 2) ls (.ref q :: rest))) : W p l e R s m args below meth c H locs cells slots Q (F0 m pc ls (.int n :: rest)) := by
  refine va_newa hexec hb harr hty hK hP hD hS hA ha hn hN hbytes hcells hslots hdg (fun q cA H1 hK1 hP1 hD1 hS1 => ?_)
  have h1 := (hK1.2 (tb_tys cT cS).length (cA, ty) (by simp)).2
  obtain ⟨j, hj⟩ := List.mem_iff_getElem?.mp hct
  have h2 := (hK.2 j (ct, ty) hj).2
  have ec : cA = ct := by
    cases ty with
    | object C => exact absurd rfl (hob C)
    | _ => exact Option.some.inj (h1.symm.trans h2)
  subst ec
  exact kk q H1 hP1 hD1 hS1
theorem tf_newq (hexec : p.tables.exec = Jvm.exec) (hb : c.code = cc) {index : Nat} (hown : s.vm.findClass own = some m.cls) (hclink : (Cond.classLink own index "TurtleBack$State").before args s = true) (hover : va_AO "TurtleBack$State" s) (hK : va_K D tb_cl (tb_tys cT cS) s) (hP : va_P D tb_cl ws H) (hD : va_D A ws) (hS : va_S A s.heap H locs) (hA : ∀ q, s.heap.size ≤ q → A q)
    {n : Int32} {N : Nat} (hn : ¬ n < 0) (hN : n.toNatClampNeg = N) (hbytes : N * 4 ≤ 536870912) (hcells : cells + 1 ≤ R.cells) (hslots : slots + N ≤ R.slots) (hdg : decode cc pc = .ok (.anewarray index, 3))
    (kk : ∀ (q : Nat) (H1 : Heap), va_P D tb_cl (ws ++ [(q, .inl (cS, N, .inr (.inr (.inr (.inr (fun _ => none))))))]) H1 → va_D A (ws ++ [(q, .inl (cS, N, .inr (.inr (.inr (.inr (fun _ => none))))))]) → va_S A s.heap H1 locs → W p l e R s m args below meth c H1 locs (cells + 1) (slots + N) Q (F0 m (pc + 3) ls (.ref q :: rest))) : W p l e R s m args below meth c H locs cells slots Q (F0 m pc ls (.int n :: rest)) := by
  refine va_newq hexec hb hown hclink hover hK hP hD hS hA hn hN hbytes hcells hslots hdg (fun q cA H1 hK1 hP1 hD1 hS1 => ?_)
  obtain ⟨k1, c1, -, -, -, h1⟩ := (hK1.2 (tb_tys cT cS).length (cA, .object "TurtleBack$State") (by simp)).2
  obtain ⟨k2, c2, -, -, -, h2⟩ := (hK.2 4 (cS, .object "TurtleBack$State") rfl).2
  have ec : cA = cS := Option.some.inj (h1.symm.trans h2)
  subst ec
  exact kk q H1 hP1 hD1 hS1
theorem tf_put (hexec : p.tables.exec = Jvm.exec) (hb : c.code = cc) (hts : ∀ w ∈ tb_gt, w.before args s = true) (hin : meth.name = "<init>") {ci k i h0 : Nat} {fs : List Value} (hci : ci < tb_cl.length) (hk : k < (tb_ci ci).2.2) (hown : s.vm.findClass (tb_ci ci).1 = some m.cls) (hK : va_K D tb_cl (tb_tys cT cS) s) (hP : va_P D tb_cl ((h0, .inr (ci, fs)) :: ws) H) (hD : va_D A ((h0, .inr (ci, fs)) :: ws)) (hS : va_S A s.heap H locs)
    (hw : Cond.fieldLink (tb_ci ci).1 i (tb_ci ci).1 ((tb_ci ci).2.1 k).2.1 ((tb_ci ci).2.1 k).2.2.1 ∈ tb_gt) (hdecl : ((tb_ci ci).2.1 k).1 = (tb_ci ci).1) {ty : FieldType} {v : Value} (hd : parseFieldDescriptor ((tb_ci ci).2.1 k).2.2.1 = some ty) (hn : narrow ty v = v) (hfit : fits ty v = true) (hl : k < fs.length) (hdg : decode cc pc = .ok (.putfield i, 3))
    (kk : ∀ (H1 : Heap) (locs1 : List Loc), va_P D tb_cl ((h0, .inr (ci, fs.set k v)) :: ws) H1 → va_D A ((h0, .inr (ci, fs.set k v)) :: ws) → va_S A s.heap H1 locs1 → W p l e R s m args below meth c H1 locs1 cells slots Q (F0 m (pc + 3) ls rest)) : W p l e R s m args below meth c H locs cells slots Q (F0 m pc ls (v :: .ref h0 :: rest)) := by
  by_cases hf : ((tb_ci ci).2.1 k).2.2.2 = true
  · exact va_putF hexec hb hts (tb_clu hci) (tb_ft ci) (tb_ft_ok hci) (tb_ft_ne hci) hown hK hP hD hS 0 rfl (tb_ci_at hci) k hk (hts _ hw) (fun x h => by rw [hdecl] at h; exact h) hf hin hdecl hd hn hfit hl hdg kk
  · exact va_put hexec hb hts (tb_clu hci) (tb_ft ci) (tb_ft_ok hci) (tb_ft_ne hci) hown hK hP hD hS 0 rfl (tb_ci_at hci) k hk (hts _ hw) (fun x h => by rw [hdecl] at h; exact h) (by simpa using hf) hd hn hfit hl hdg kk
/-- aload_0, a number, newarray, putfield -/
theorem tf_fld (hexec : p.tables.exec = Jvm.exec) (hb : c.code = cc) (hts : ∀ w ∈ tb_gt, w.before args s = true) (hin : meth.name = "<init>") {ci k i h0 nL : Nat} {fs : List Value} (hown : s.vm.findClass (tb_ci ci).1 = some m.cls) (hK : va_K D tb_cl (tb_tys cT cS) s) (hA : ∀ q, s.heap.size ≤ q → A q) (hl : lv_has ls nL [(0, .ref h0)]) (hP : va_P D tb_cl ((h0, .inr (ci, fs)) :: ws) H) (hD : va_D A ((h0, .inr (ci, fs)) :: ws)) (hS : va_S A s.heap H locs)
    {t N pc2 : Nat} {n : Int32} {te : FieldType} (ht : t < 4) (hci : ci < tb_cl.length ∧ k < (tb_ci ci).2.2 ∧ ((tb_ci ci).2.1 k).1 = (tb_ci ci).1 ∧ parseFieldDescriptor ((tb_ci ci).2.1 k).2.2.1 = some (.array te)) (hwa : Cond.arrayClass (newarray.typeOf (tf_aty t)) ∈ tb_gt) (hw : Cond.fieldLink (tb_ci ci).1 i (tb_ci ci).1 ((tb_ci ci).2.1 k).2.1 ((tb_ci ci).2.1 k).2.2.1 ∈ tb_gt)
    (hn : ¬ n < 0) (hN : n.toNatClampNeg = N) (hby : N ≤ 60000000) (hcells : cells + 1 ≤ R.cells) (hslots : slots + N ≤ R.slots) (hlf : k < fs.length)
    (d0 : decode cc pc = .ok (.aload_n 0, 1)) (hpush : W p l e R s m args below meth c H locs cells slots Q (F0 m pc2 ls [.int n, .ref h0]) → W p l e R s m args below meth c H locs cells slots Q (F0 m (pc + 1) ls [.ref h0])) (d2 : decode cc pc2 = .ok (.newarray (tf_aty t), 2)) (d3 : decode cc (pc2 + 2) = .ok (.putfield i, 3))
    (kk : ∀ (q : Nat) (H1 : Heap) (locs1 : List Loc), va_P D tb_cl ((h0, .inr (ci, fs.set k (.ref q))) :: (ws ++ [(q, tf_ar cT t N)])) H1 → va_D A ((h0, .inr (ci, fs.set k (.ref q))) :: (ws ++ [(q, tf_ar cT t N)])) → va_S A s.heap H1 locs1 → W p l e R s m args below meth c H1 locs1 (cells + 1) (slots + N) Q (F0 m (pc2 + 5) ls [])) : W p l e R s m args below meth c H locs cells slots Q (F0 m pc ls []) := by
  have fin : ∀ (q : Nat) (H1 : Heap), va_P D tb_cl (((h0, .inr (ci, fs)) :: ws) ++ [(q, tf_ar cT t N)]) H1 → va_D A (((h0, .inr (ci, fs)) :: ws) ++ [(q, tf_ar cT t N)]) → va_S A s.heap H1 locs → W p l e R s m args below meth c H1 locs (cells + 1) (slots + N) Q (F0 m (pc2 + 2) ls [.ref q, .ref h0]) := by
    intro q H1 hP1 hD1 hS1
    exact tf_put (ws := ws ++ [(q, tf_ar cT t N)]) (rest := []) hexec hb hts hin hci.1 hci.2.1 hown hK hP1 hD1 hS1 hw hci.2.2.1 hci.2.2.2 rfl rfl hlf d3 (fun H2 locs2 => kk q H2 locs2)
  refine lv_aload_n hexec hb d0 rfl (lv_at hl 0 rfl) ?_
  refine hpush ?_
  rcases (show t = 0 ∨ t = 1 ∨ t = 2 ∨ t = 3 by omega) with rfl | rfl | rfl | rfl
  · exact tf_new1 (ct := cT 0) (a0 := (N, .inl (fun _ => 0))) hexec hb (atype := .int) (hts _ hwa) rfl (by simp [tb_tys, newarray.typeOf]) (by intro C h; cases h) hK hP hD hS hA (fun _ => rfl) hn hN (by show N * 4 ≤ _; omega) hcells hslots d2 fin
  · exact tf_new1 (ct := cT 1) (a0 := (N, .inl (fun _ => 0))) hexec hb (atype := .boolean) (hts _ hwa) rfl (by simp [tb_tys, newarray.typeOf]) (by intro C h; cases h) hK hP hD hS hA (fun _ => rfl) hn hN (by show N * 1 ≤ _; omega) hcells hslots d2 fin
  · exact tf_new1 (ct := cT 2) (a0 := (N, .inl (fun _ => 0))) hexec hb (atype := .byte) (hts _ hwa) rfl (by simp [tb_tys, newarray.typeOf]) (by intro C h; cases h) hK hP hD hS hA (fun _ => rfl) hn hN (by show N * 1 ≤ _; omega) hcells hslots d2 fin
  · exact tf_new1 (ct := cT 3) (a0 := (N, .inr (.inl (fun _ => 0)))) hexec hb (atype := .long) (hts _ hwa) rfl (by simp [tb_tys, newarray.typeOf]) (by intro C h; cases h) hK hP hD hS hA (fun _ => rfl) hn hN (by show N * 8 ≤ _; omega) hcells hslots d2 fin
/-- links of private constructors; the class of the row of images -/
def tf_nl : List (String × Nat × MethodName) := [("TurtleBack", 9, ⟨"TurtleBack$Reade\x72", "<init>", "()V"⟩), ("TurtleBack", 18, ⟨"TurtleBack$Life", "<init>", "()V"⟩), ("TurtleBack$Life", 11, ⟨"TurtleBack$State", "<init>", "()V"⟩), ("TurtleBack$Life", 20, ⟨"TurtleBack$Beast", "<init>", "()V"⟩), ("TurtleBack", 31, ⟨"TurtleBack$Acts", "<init>", "()V"⟩), ("TurtleBack", 38, ⟨"TurtleBack$Moves", "<init>", "()V"⟩), ("TurtleBack", 45, ⟨"TurtleBack$Course", "<init>", "()V"⟩), ("TurtleBack", 52, ⟨"TurtleBack$Chart", "<init>", "()V"⟩), ("TurtleBack", 59, ⟨"TurtleBack$Sightings", "<init>", "()V"⟩), ("TurtleBack", 66, ⟨"TurtleBack$Beast", "<init>", "()V"⟩), ("TurtleBack", 75, ⟨"TurtleBack$State", "<init>", "()V"⟩)]
def tf_N (U : State) : Prop := (∀ q ∈ tf_nl, va_Nw (.methodLinkNest q.1 q.2.1 q.2.2 "TurtleBack") U) ∧ va_AO "TurtleBack$State" U
theorem tf_N.warm {s U : State} (h : tf_N s) (hW : s.WarmedH U.vm) : tf_N U := ⟨fun q hq => va_Nw.warmM hW (h.1 q hq), va_AO.moved hW.alike h.2⟩
theorem tf_N.same {s U : State} (h : tf_N s) (hv : s.vm = U.vm) : tf_N U := ⟨fun q hq => va_Nw.same rfl hv (h.1 q hq), va_AO.moved (by rw [hv]; exact Vm.Alike.refl _) h.2⟩
/-- a constructor's contract: from its one object, all default, to its world -/
def tf_Ctor (l : Launch) (D : va_G) (cT : Nat → ClassId) (cS : ClassId) (y : MethodName) (b : ByteArray) (mx : Nat) (rm : Room) (cj : Nat) (fs0 : List Value) (Wf : Nat → (Nat → Nat) → va_W) : Prop :=
  ∀ q sz : Nat, Met l y (Cond.code y b mx none :: tb_gt) rm (va_Pc [.ref q] (fun U => U.heap.size = sz ∧ va_P D tb_cl [(q, .inr (cj, fs0))] U.heap ∧ va_K D tb_cl (tb_tys cT cS) U ∧ va_D (fun _ => True) [(q, .inr (cj, fs0))] ∧ tf_N U)) (va_Qv (fun _ : Nat → Nat => True) (fun u t => va_P D tb_cl (Wf q u) t.heap ∧ va_D (va_A [(q, .inr (cj, fs0))] sz) (Wf q u)) (va_A [(q, .inr (cj, fs0))] sz)) rm.cells rm.slots (va_A [(q, .inr (cj, fs0))] sz)
theorem tf_last {q : Nat × va_E} {ws : va_W} : (ws ++ [q])[ws.length]? = some q := by simp
theorem tf_nd : ∀ n : Nat, va_nd (List.range n) = true := by
  have key : ∀ l : List Nat, l.Nodup → va_nd l = true := by
    intro l
    induction l with
    | nil => intro _; rfl
    | cons a l ih =>
      intro h
      rw [List.nodup_cons] at h
      rw [va_nd, ih h.2]
      simp [h.1]
  intro n
  exact key _ List.nodup_range
theorem tf_rng {ws : va_W} {q : Nat × va_E} : (List.range ws.length).map (fun i => (ws ++ [q])[i]?) = ws.map some := by
  apply List.ext_getElem?
  intro i
  rw [List.getElem?_map, List.getElem?_map]
  by_cases h : i < ws.length
  · rw [List.getElem?_range h, List.getElem?_eq_getElem h]
    show some ((ws ++ [q])[i]?) = some (some ws[i])
    rw [List.getElem?_append_left h, List.getElem?_eq_getElem h]
  · rw [List.getElem?_eq_none (by simpa using h), List.getElem?_eq_none (by simpa using h)]
    rfl
/-- new, dup, the constructor of a nest mate -/
theorem tf_new (hexec : p.tables.exec = Jvm.exec) (hb : c.code = cc) (hts : ∀ w ∈ tb_gt, w.before args s = true) {nL : Nat} (hml : c.maxLocals = nL) (hown : s.vm.findClass own = some m.cls) (hK : va_K D tb_cl (tb_tys cT cS) s) (hA : ∀ q, s.heap.size ≤ q → A q) (hls : ls.size = nL) (hP : va_P D tb_cl ws H) (hD : va_D A ws) (hS : va_S A s.heap H locs)
    {cj mx i1 i3 : Nat} {y : MethodName} {b : ByteArray} {rm : Room} {fs0 : List Value} {Wf : Nat → (Nat → Nat) → va_W} (hM : tf_Ctor l D cT cS y b mx rm cj fs0 Wf)
    (hcj : cj < tb_cl.length ∧ ∀ j, j < (tb_ci cj).2.2 → defaultValue (tb_ft cj j) = vp_V fs0 j) (hy : y.cls = (tb_ci cj).1 ∧ y.cls ≠ "java/lang/invoke/MethodHandle" ∧ y.cls ≠ "java/lang/invoke/VarHandle" ∧ (parseMethodDescriptor y.desc).map (fun d => d.parameters.length) = some 0 ∧ y.name = "<init>")
    (hw : Cond.classLink own i1 (tb_ci cj).1 ∈ tb_gt ∧ Cond.instantiable (tb_ci cj).1 (tb_ci cj).2.2 ∈ tb_gt ∧ Cond.initialized (tb_ci cj).1 ∈ tb_gt ∧ Cond.instanceMethod y ∈ tb_gt ∧ Cond.code y b mx none ∈ tb_gt) (hN : tf_N s) (hrun : (own, i3, y) ∈ tf_nl)
    (hcells : cells + 1 + rm.cells ≤ R.cells) (hslots : slots + (tb_ci cj).2.2 + rm.slots ≤ R.slots) (hR : rm.frames + 1 ≤ R.frames ∧ 8 + (mx + 11) + rm.locals ≤ R.locals) (hrest : (rest.map fun v => v.category).sum ≤ 7)
    (d1 : decode cc pc = .ok (.new i1, 3)) (d2 : decode cc (pc + 3) = .ok (.dup, 1)) (d3 : decode cc (pc + 4) = .ok (.invokespecial i3, 3))
    (kk : ∀ (q : Nat) (u : Nat → Nat) (H1 : Heap) (locs1 : List Loc), va_P D tb_cl (ws ++ Wf q u) H1 → va_D A (ws ++ Wf q u) → va_S A s.heap H1 locs1 → W p l e R s m args below meth c H1 locs1 (cells + 1 + rm.cells) (slots + (tb_ci cj).2.2 + rm.slots) Q (F0 m (pc + 7) ls (.ref q :: rest))) : W p l e R s m args below meth c H locs cells slots Q (F0 m pc ls rest) := by
  obtain ⟨hw1, hw2, hw3, hw4, hw5⟩ := hw
  refine va_new (ci := cj) (fs := fs0) (C := (tb_ci cj).1) (T := (tb_ci cj).2.1) (N := (tb_ci cj).2.2) hexec hb hts (tb_clu hcj.1) (tb_ft cj) (tb_ft_ok hcj.1) hown (hts _ hw1) (hts _ hw2) (hts _ hw3) hK hP hD hS hA (tb_ci_at hcj.1) hcj.2 (by omega) (by omega) d1 (fun q H1 hP1 hD1 hS1 => ?_)
  refine lv_dup hexec hb d2 rfl ?_
  have hPc : va_P D tb_cl [(q, .inr (cj, fs0))] H1 := by
    intro k x hx
    have hz : k < 1 := (List.getElem?_eq_some_iff.mp hx).1
    rw [show k = 0 by omega] at hx
    cases hx
    exact hP1 ws.length _ tf_last
  have hDc : va_D (fun _ => True) [(q, (.inr (cj, fs0) : va_E))] := by
    refine ⟨fun i j a b ha hb' hab => ?_, fun _ _ _ => trivial⟩
    have h1 : i < 1 := (List.getElem?_eq_some_iff.mp ha).1
    have h2 : j < 1 := (List.getElem?_eq_some_iff.mp hb').1
    omega
  have hFc := va_free (wc := [(q, .inr (cj, fs0))]) hD1 hS1 hA [ws.length] (by simp)
  have hG : GoodIn tb_gt (Cond.code y b mx none :: tb_gt) := tb_good (by
    intro w h
    rcases List.mem_cons.mp h with rfl | h
    · exact hw5
    · exact h)
  refine va_callv (va_runIN (As := []) (rest := .ref q :: rest) (Ts := tb_gt) ⟨hexec, hb, hml, hown, hts⟩ (hM q H1.size) ⟨va_cnB (ws' := tb_gt) 0 hts hG rfl rfl rfl (hN.1 _ hrun) (by rw [hy.1]; exact hts _ hw3) ⟨hy.2.1, hy.2.2.1, hy.2.2.2.1⟩ hR, hy.2.2.2.2, hts _ hw4⟩ ⟨fun a U g mk q => by obtain ⟨q0, q1, qP, qK, qD, qN⟩ := q; exact ⟨q0, q1, qP, va_K.moved (u := U) (U := U.calling g mk a) (Vm.Alike.refl U.vm) qK, qD, qN.same rfl⟩, fun U hU hW => ⟨rfl, by rw [hU], by rw [hU]; exact hPc, va_K.moved hW.alike hK, hDc, hN.warm hW⟩⟩ rfl rfl hls rfl (lv_room (by rw [List.map_cons, List.sum_cons]; show 1 + _ ≤ 8; omega)) d3 ⟨hcells, hslots⟩) hS1 (fun q _ h => hFc q h) hFc (fun u t H2 locs2 ht hvm hpost hB hz1 hk1 hS2 => ?_)
  obtain ⟨hP2, hD2⟩ := hB
  rw [ht] at hP2
  obtain ⟨hP3, hD3⟩ := va_join (wr := ws) (w1 := Wf q u) hP1 hD1 [ws.length] (List.range ws.length) (by simp) tf_rng (tf_nd _) (by intro i h; simp at h ⊢; omega) hk1 hFc hP2 hD2
  exact kk q u H2 locs2 hP3 hD3 hS2
/-- the same, of a public constructor -/
theorem tf_newI (hexec : p.tables.exec = Jvm.exec) (hb : c.code = cc) (hts : ∀ w ∈ tb_gt, w.before args s = true) {nL : Nat} (hml : c.maxLocals = nL) (hown : s.vm.findClass own = some m.cls) (hK : va_K D tb_cl (tb_tys cT cS) s) (hA : ∀ q, s.heap.size ≤ q → A q) (hls : ls.size = nL) (hP : va_P D tb_cl ws H) (hD : va_D A ws) (hS : va_S A s.heap H locs)
    {cj mx i1 i3 : Nat} {y : MethodName} {b : ByteArray} {rm : Room} {fs0 : List Value} {Wf : Nat → (Nat → Nat) → va_W} (hM : tf_Ctor l D cT cS y b mx rm cj fs0 Wf)
    (hcj : cj < tb_cl.length ∧ ∀ j, j < (tb_ci cj).2.2 → defaultValue (tb_ft cj j) = vp_V fs0 j) (hy : y.cls = (tb_ci cj).1 ∧ y.cls ≠ "java/lang/invoke/MethodHandle" ∧ y.cls ≠ "java/lang/invoke/VarHandle" ∧ (parseMethodDescriptor y.desc).map (fun d => d.parameters.length) = some 0 ∧ y.name = "<init>")
    (hw : Cond.classLink own i1 (tb_ci cj).1 ∈ tb_gt ∧ Cond.instantiable (tb_ci cj).1 (tb_ci cj).2.2 ∈ tb_gt ∧ Cond.initialized (tb_ci cj).1 ∈ tb_gt ∧ Cond.instanceMethod y ∈ tb_gt ∧ Cond.code y b mx none ∈ tb_gt) (hN : tf_N s) (hrun : Cond.methodLink own i3 y ∈ tb_gt)
    (hcells : cells + 1 + rm.cells ≤ R.cells) (hslots : slots + (tb_ci cj).2.2 + rm.slots ≤ R.slots) (hR : rm.frames + 1 ≤ R.frames ∧ 8 + (mx + 11) + rm.locals ≤ R.locals) (hrest : (rest.map fun v => v.category).sum ≤ 7)
    (d1 : decode cc pc = .ok (.new i1, 3)) (d2 : decode cc (pc + 3) = .ok (.dup, 1)) (d3 : decode cc (pc + 4) = .ok (.invokespecial i3, 3))
    (kk : ∀ (q : Nat) (u : Nat → Nat) (H1 : Heap) (locs1 : List Loc), va_P D tb_cl (ws ++ Wf q u) H1 → va_D A (ws ++ Wf q u) → va_S A s.heap H1 locs1 → W p l e R s m args below meth c H1 locs1 (cells + 1 + rm.cells) (slots + (tb_ci cj).2.2 + rm.slots) Q (F0 m (pc + 7) ls (.ref q :: rest))) : W p l e R s m args below meth c H locs cells slots Q (F0 m pc ls rest) := by
  obtain ⟨hw1, hw2, hw3, hw4, hw5⟩ := hw
  refine va_new (ci := cj) (fs := fs0) (C := (tb_ci cj).1) (T := (tb_ci cj).2.1) (N := (tb_ci cj).2.2) hexec hb hts (tb_clu hcj.1) (tb_ft cj) (tb_ft_ok hcj.1) hown (hts _ hw1) (hts _ hw2) (hts _ hw3) hK hP hD hS hA (tb_ci_at hcj.1) hcj.2 (by omega) (by omega) d1 (fun q H1 hP1 hD1 hS1 => ?_)
  refine lv_dup hexec hb d2 rfl ?_
  have hPc : va_P D tb_cl [(q, .inr (cj, fs0))] H1 := by
    intro k x hx
    have hz : k < 1 := (List.getElem?_eq_some_iff.mp hx).1
    rw [show k = 0 by omega] at hx
    cases hx
    exact hP1 ws.length _ tf_last
  have hDc : va_D (fun _ => True) [(q, (.inr (cj, fs0) : va_E))] := by
    refine ⟨fun i j a b ha hb' hab => ?_, fun _ _ _ => trivial⟩
    have h1 : i < 1 := (List.getElem?_eq_some_iff.mp ha).1
    have h2 : j < 1 := (List.getElem?_eq_some_iff.mp hb').1
    omega
  have hFc := va_free (wc := [(q, .inr (cj, fs0))]) hD1 hS1 hA [ws.length] (by simp)
  have hG : GoodIn tb_gt (Cond.code y b mx none :: tb_gt) := tb_good (by
    intro w h
    rcases List.mem_cons.mp h with rfl | h
    · exact hw5
    · exact h)
  refine va_callv (va_runI (As := []) (rest := .ref q :: rest) (Ts := tb_gt) ⟨hexec, hb, hml, hown, hts⟩ (hM q H1.size) (cwI (ws' := tb_gt) 0 hts hG rfl rfl rfl (by rw [hy.1]; exact hts _ hw3) (hts _ hrun) (hts _ hw4) hy.2.2.2.2 ⟨hy.2.1, hy.2.2.1, hy.2.2.2.1⟩ hR) ⟨fun a U g mk q => by obtain ⟨q0, q1, qP, qK, qD, qN⟩ := q; exact ⟨q0, q1, qP, va_K.moved (u := U) (U := U.calling g mk a) (Vm.Alike.refl U.vm) qK, qD, qN.same rfl⟩, fun U hU hW => ⟨rfl, by rw [hU], by rw [hU]; exact hPc, va_K.moved hW.alike hK, hDc, hN.warm hW⟩⟩ rfl rfl hls rfl (lv_room (by rw [List.map_cons, List.sum_cons]; show 1 + _ ≤ 8; omega)) d3 ⟨hcells, hslots⟩) hS1 (fun q _ h => hFc q h) hFc (fun u t H2 locs2 ht hvm hpost hB hz1 hk1 hS2 => ?_)
  obtain ⟨hP2, hD2⟩ := hB
  rw [ht] at hP2
  obtain ⟨hP3, hD3⟩ := va_join (wr := ws) (w1 := Wf q u) hP1 hD1 [ws.length] (List.range ws.length) (by simp) tf_rng (tf_nd _) (by intro i h; simp at h ⊢; omega) hk1 hFc hP2 hD2
  exact kk q u H2 locs2 hP3 hD3 hS2
/-- aload_0, new, dup, invokespecial, putfield -/
theorem tf_sub (hexec : p.tables.exec = Jvm.exec) (hb : c.code = cc) (hts : ∀ w ∈ tb_gt, w.before args s = true) (hin : meth.name = "<init>") {ci k i h0 nL : Nat} {fs : List Value} (hml : c.maxLocals = nL) (hown : s.vm.findClass (tb_ci ci).1 = some m.cls) (hK : va_K D tb_cl (tb_tys cT cS) s) (hA : ∀ q, s.heap.size ≤ q → A q) (hl : lv_has ls nL [(0, .ref h0)]) (hP : va_P D tb_cl ((h0, .inr (ci, fs)) :: ws) H) (hD : va_D A ((h0, .inr (ci, fs)) :: ws)) (hS : va_S A s.heap H locs)
    {cj mx i1 i3 : Nat} {y : MethodName} {b : ByteArray} {rm : Room} {fs0 : List Value} {Wf : Nat → (Nat → Nat) → va_W} {no : String} (hM : tf_Ctor l D cT cS y b mx rm cj fs0 Wf)
    (hcj : cj < tb_cl.length ∧ ∀ j, j < (tb_ci cj).2.2 → defaultValue (tb_ft cj j) = vp_V fs0 j) (hy : y.cls = (tb_ci cj).1 ∧ y.cls ≠ "java/lang/invoke/MethodHandle" ∧ y.cls ≠ "java/lang/invoke/VarHandle" ∧ (parseMethodDescriptor y.desc).map (fun d => d.parameters.length) = some 0 ∧ y.name = "<init>")
    (hw : Cond.classLink (tb_ci ci).1 i1 (tb_ci cj).1 ∈ tb_gt ∧ Cond.instantiable (tb_ci cj).1 (tb_ci cj).2.2 ∈ tb_gt ∧ Cond.initialized (tb_ci cj).1 ∈ tb_gt ∧ Cond.instanceMethod y ∈ tb_gt ∧ Cond.code y b mx none ∈ tb_gt) (hN : tf_N s) (hrun : ((tb_ci ci).1, i3, y) ∈ tf_nl)
    (hci : ci < tb_cl.length ∧ k < (tb_ci ci).2.2 ∧ ((tb_ci ci).2.1 k).1 = (tb_ci ci).1 ∧ parseFieldDescriptor ((tb_ci ci).2.1 k).2.2.1 = some (.object no)) (hwf : Cond.fieldLink (tb_ci ci).1 i (tb_ci ci).1 ((tb_ci ci).2.1 k).2.1 ((tb_ci ci).2.1 k).2.2.1 ∈ tb_gt)
    (hcells : cells + 1 + rm.cells ≤ R.cells) (hslots : slots + (tb_ci cj).2.2 + rm.slots ≤ R.slots) (hR : rm.frames + 1 ≤ R.frames ∧ 8 + (mx + 11) + rm.locals ≤ R.locals) (hlf : k < fs.length)
    (d0 : decode cc pc = .ok (.aload_n 0, 1)) (d1 : decode cc (pc + 1) = .ok (.new i1, 3)) (d2 : decode cc (pc + 4) = .ok (.dup, 1)) (d3 : decode cc (pc + 5) = .ok (.invokespecial i3, 3)) (d4 : decode cc (pc + 8) = .ok (.putfield i, 3))
    (kk : ∀ (q : Nat) (u : Nat → Nat) (H1 : Heap) (locs1 : List Loc), va_P D tb_cl ((h0, .inr (ci, fs.set k (.ref q))) :: (ws ++ Wf q u)) H1 → va_D A ((h0, .inr (ci, fs.set k (.ref q))) :: (ws ++ Wf q u)) → va_S A s.heap H1 locs1 → W p l e R s m args below meth c H1 locs1 (cells + 1 + rm.cells) (slots + (tb_ci cj).2.2 + rm.slots) Q (F0 m (pc + 11) ls [])) : W p l e R s m args below meth c H locs cells slots Q (F0 m pc ls []) := by
  refine lv_aload_n hexec hb d0 rfl (lv_at hl 0 rfl) ?_
  refine tf_new (rest := [.ref h0]) hexec hb hts hml hown hK hA hl.1 hP hD hS hM hcj hy hw hN hrun hcells hslots hR (Nat.le_of_ble_eq_true rfl) d1 d2 d3 (fun q u H1 locs1 hP1 hD1 hS1 => ?_)
  exact tf_put (ws := ws ++ Wf q u) (rest := []) hexec hb hts hin hci.1 hci.2.1 hown hK hP1 hD1 hS1 hwf hci.2.2.1 hci.2.2.2 rfl rfl hlf d4 (fun H2 locs2 => kk q u H2 locs2)
end TFC
