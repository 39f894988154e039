/-! led on the machine: the class's own returns or throws; the law's own catches -/
def tf_E : String := "java/util/NoSuchElementException"
def tf_bl : List Cond := [.castable tf_E tf_E, .declares ⟨"java/lang/RuntimeException", "<init>", "()V"⟩, .declares ⟨"java/lang/Exception", "<init>", "()V"⟩, .declares ⟨"java/lang/Throwable", "<init>", "()V"⟩]
def tf_T (n0 : Nat) (U : State) (H : Heap) : Prop := (∀ w ∈ tf_bl, va_Nw w U) ∧ vx_Zq Bundle.tN "UNASSIGNED_STACK" Bundle.steD (fun q => n0 ≤ q) U H ∧ vx_Zq Bundle.tN "SUPPRESSED_SENTINEL" Bundle.listD (fun q => n0 ≤ q) U H
theorem tf_bw {s U : State} (h : ∀ w ∈ tf_bl, va_Nw w s) (hW : s.WarmedH U.vm) : ∀ w ∈ tf_bl, va_Nw w U := by
  intro w hw
  have h1 := h w hw
  unfold tf_bl at hw
  simp only [List.mem_cons, List.not_mem_nil, or_false] at hw
  rcases hw with rfl | rfl | rfl | rfl
  · exact va_Nw.warmC hW h1
  · exact va_Nw.warmD hW h1
  · exact va_Nw.warmD hW h1
  · exact va_Nw.warmD hW h1
theorem tf_bo : tf_bl.all (fun w => w.onTables) = true := by decide +kernel
theorem tf_T.go {n0 : Nat} {s U : State} {H H1 : Heap} (h : tf_T n0 s H) (hW : s.WarmedH U.vm) (hq : ∀ a : Nat, a < H.size → ¬ n0 ≤ a → H1[a]? = H[a]?) : tf_T n0 U H1 := ⟨tf_bw h.1 hW, vx_Zq.moved hW.alike (h.2.1.kept hq), vx_Zq.moved hW.alike (h.2.2.kept hq)⟩
theorem tf_T.same {n0 : Nat} {s U : State} {H : Heap} (h : tf_T n0 s H) (hv : U.vm = s.vm) : tf_T n0 U H := by
  have ha : s.vm.Alike U.vm := by rw [hv]; exact Vm.Alike.refl _
  exact ⟨fun w hw => va_Nw.same (List.all_eq_true.mp tf_bo w hw) hv.symm (h.1 w hw), vx_Zq.moved ha h.2.1, vx_Zq.moved ha h.2.2⟩
set_option maxRecDepth 100000 in
theorem tf_at0 : (vx_at0 "TurtleBack" 327 tf_E ["java/lang/RuntimeException", "java/lang/Exception"]).all (fun w => (goodWord w && decide (w ∈ lw_tbl)) || decide (w ∈ tf_bl)) = true := by decide +kernel
set_option maxRecDepth 100000 in
theorem tf_at1 : (Cond.classLink "TurtleBack" 325 tf_E :: Cond.initialized tf_E :: vx_at0 "TurtleBack" 327 tf_E ["java/lang/RuntimeException", "java/lang/Exception"]).all vx_ot = true := by decide +kernel
def tf_yL : MethodName := ⟨"TurtleBackLaw", "led", "(LTurtleBack;I[J)I"⟩
def tf_wl2 : List Cond := [.initialized "TurtleBackLaw", .initialized "TurtleBack", .initialized tf_E, .methodLink "TurtleBackLaw" 180 tf_yL, .static tf_yL, .codeWith tf_yL method_3_code 4 (some .int) [(0, 9, 12, 13)], .classLink "TurtleBackLaw" 13 tf_E, .methodLink "TurtleBackLaw" 7 (⟨"TurtleBack", "led", "(I)I"⟩ : MethodName), .instanceMethod (⟨"TurtleBack", "led", "(I)I"⟩ : MethodName), .selects "TurtleBack" (⟨"TurtleBack", "led", "(I)I"⟩ : MethodName) (⟨"TurtleBack", "led", "(I)I"⟩ : MethodName), .code (⟨"TurtleBack", "led", "(I)I"⟩ : MethodName) prog_1_method_42_code 3 (some .int), .classLink "TurtleBack" 325 tf_E]
set_option maxRecDepth 100000 in
theorem tf_wl2_in : tb_subg tf_wl2 = true := by decide +kernel
theorem tf_196_25 : decode (tb_by 196) 25 = .ok (.new 325, 3) := by decide +kernel
theorem tf_196_28 : decode (tb_by 196) 28 = .ok (.dup, 1) := by decide +kernel
theorem tf_196_29 : decode (tb_by 196) 29 = .ok (.invokespecial 327, 3) := by decide +kernel
theorem tf_196_32 : decode (tb_by 196) 32 = .ok (.athrow, 1) := by decide +kernel
theorem tf_196_34 : decode (tb_by 196) 34 = .ok (.ireturn, 1) := by decide +kernel
theorem tf_L_0 : decode method_3_code 0 = .ok (.aload_n 2, 1) := by decide +kernel
theorem tf_L_1 : decode method_3_code 1 = .ok (.iconst 0, 1) := by decide +kernel
theorem tf_L_2 : decode method_3_code 2 = .ok (.aload_n 0, 1) := by decide +kernel
theorem tf_L_3 : decode method_3_code 3 = .ok (.iload_n 1, 1) := by decide +kernel
theorem tf_L_4 : decode method_3_code 4 = .ok (.invokevirtual 7, 3) := by decide +kernel
theorem tf_L_7 : decode method_3_code 7 = .ok (.i2l, 1) := by decide +kernel
theorem tf_L_8 : decode method_3_code 8 = .ok (.lastore, 1) := by decide +kernel
theorem tf_L_9 : decode method_3_code 9 = .ok (.goto 6, 3) := by decide +kernel
theorem tf_L_12 : decode method_3_code 12 = .ok (.astore_n 3, 1) := by decide +kernel
theorem tf_L_13 : decode method_3_code 13 = .ok (.iconst 1, 1) := by decide +kernel
theorem tf_L_14 : decode method_3_code 14 = .ok (.ireturn, 1) := by decide +kernel
theorem tf_L_15 : decode method_3_code 15 = .ok (.iconst 0, 1) := by decide +kernel
theorem tf_L_16 : decode method_3_code 16 = .ok (.ireturn, 1) := by decide +kernel
theorem tf_rt196 : tb_rt 196 = some .int := by decide +kernel
theorem tf_mx196 : tb_mx 196 = 3 := by decide +kernel
theorem tf_nm196 : tb_nm 196 = ⟨"TurtleBack", "led", "(I)I"⟩ := by decide +kernel
theorem tf_ow196 : tb_ow (tb_oi 196) = "TurtleBack" := by decide +kernel
theorem tf_rk196 : tb_rk 196 ≤ 6 ∧ 39 * tb_rk 196 ≤ 234 := by decide +kernel
section TFT
variable {l : Launch} {X : tb_X} {ρ : Nat → Nat} {fm : Value} {D : va_G} {cT : Nat → ClassId} {cS : ClassId} {n0 : Nat} {A : tb_H} {x T : Int}
def tf_PcL (X : tb_X) (ρ : Nat → Nat) (fm : Value) (D : va_G) (cT : Nat → ClassId) (cS : ClassId) (n0 : Nat) (as : List tb_V) (A : tb_H) : Array Value → State → Prop := fun v U => tb_Pc X ρ fm D cT cS n0 as A v U ∧ tf_T n0 U U.heap
theorem tf_blind {as : List tb_V} : FrameBlind (tf_PcL X ρ fm D cT cS n0 as A) := by
  intro a U g mk q
  exact ⟨tb_blind a U g mk q.1, q.2.same rfl⟩
set_option maxHeartbeats 4000000 in
set_option maxRecDepth 100000 in
theorem tf_led (hfl : l.stackTraces = false) (hfm : fm = .null ∨ ∃ a, fm = .ref a) (hR : tb_Rho ρ n0) (hX : ∀ i, tb_inI (X.1 i)) (hXl : X.2 < 2147483648) (hA1 : ∀ o k, tb_inI (A.1 o k)) (hA2 : ∀ o k, tb_inL (A.2.1 o k)) (hx0 : tb_inI x)
    (hrun : tb_E X 196 0 [tb_r 0, tb_i x, tb_s 1] [] A (fun pc _ r A1 => A1 = A ∧ ((pc = 25 ∧ r = [] ∧ T = -1) ∨ (pc = 34 ∧ r = [tb_i T] ∧ T ≠ -1)))) :
    vx_Met l (tb_nm 196) (tb_wds 196) { frames := 6, cells := 1, slots := 6, locals := 234 } (tf_PcL X ρ fm D cT cS n0 [tb_r 0, tb_i x] A) (va_Qi (fun r (_ : Unit) => r = Int32.ofInt T ∧ T ≠ -1) (fun _ t => va_P D tb_cl (tb_ws ρ cT cS A) t.heap) (fun q => n0 ≤ q)) (vx_X (fun _ : Unit => T = -1) (fun E _ t => E = tf_E ∧ va_P D tb_cl (tb_ws ρ cT cS A) t.heap) (fun q => n0 ≤ q)) 1 6 (fun q => n0 ≤ q) := by
  have hm := tb_mok_of (z := 196) (by decide)
  simp only [tb_mok, Bool.and_eq_true, decide_eq_true_eq] at hm
  obtain ⟨⟨⟨⟨⟨⟨⟨⟨hcls, hpl⟩, -⟩, -⟩, -⟩, -⟩, -⟩, -⟩, -⟩ := hm
  obtain ⟨n, a, b, r, d, hr0, hd, hq⟩ := hrun
  subst hd
  refine vx_ofW (cc := tb_by 196) (maxL := tb_mx 196) (ret := tb_rt 196) hpl rfl ?_
  intro p e s m args below meth c s₁ B hml hex hv
  obtain ⟨⟨rfl, hP, hK, hC⟩, hT⟩ := hv
  have hts := atoms_spec (ws := tb_wds 196) B.pre
  have hown : s.vm.findClass (tb_ow (tb_oi 196)) = some m.cls := by rw [← hcls]; exact findClass_of_methodNamed B.named
  have hlocks := B.notSynchronized
  have hr := B.returns
  have hx := B.exec
  have hb := B.bytes
  have htg : ∀ w ∈ tb_gt, w.before (([tb_r 0, tb_i x].map (tb_cv ρ fm)).toArray) s = true := fun w hw => hts w (List.mem_cons_of_mem _ hw)
  have hen : tb_entry (tb_mx 196) [tb_r 0, tb_i x] = [tb_r 0, tb_i x, tb_s 1] := by rw [tf_mx196]; rfl
  have hE := tb_entry_has (ρ := ρ) hfm [tb_r 0, tb_i x] (n := tb_mx 196) (by rw [tf_mx196]; exact Nat.le_of_ble_eq_true rfl)
  rw [hen] at hE
  have hStd : tb_Std X ρ fm D cT cS n0 196 p (headSpec (tb_wds 196) { frames := 6, cells := 1, slots := 6, locals := 234 }).room s m (([tb_r 0, tb_i x].map (tb_cv ρ fm)).toArray) c :=
    ⟨hx, hb, hml, hown, htg, hK, hC, hfm, hR, hX, hXl, tf_rk196.1, tf_rk196.2, tb_rk1 (by decide)⟩
  rw [lg_entry_eq]
  refine tb_sims l X ρ fm D cT cS n0 n 196 0 [tb_r 0, tb_i x, tb_s 1] [] d a b r d hr0 p e _ s m _ below meth c s.heap [] 0 0 _ _ hStd ⟨hP, va_S.rf, hE.1, hE.2, ?_, fun v hv => absurd hv List.not_mem_nil, hA1, hA2⟩ ⟨Nat.le_of_ble_eq_true rfl, Nat.le_of_ble_eq_true rfl⟩ ?_
  · intro v hv
    simp only [List.mem_cons, List.not_mem_nil, or_false] at hv
    rcases hv with rfl | rfl | rfl
    · trivial
    · exact hx0
    · trivial
  · intro H1 locs1 ls1 Y
    rcases hq with ⟨rfl, rfl, hT1⟩ | ⟨rfl, rfl, hT1⟩
    · have hkg : ∀ w ∈ Cond.classLink "TurtleBack" 325 tf_E :: Cond.initialized tf_E :: vx_at0 "TurtleBack" 327 tf_E ["java/lang/RuntimeException", "java/lang/Exception"], vx_ot w = true := fun w hw => List.all_eq_true.mp tf_at1 w hw
      have hat : ∀ w ∈ vx_at0 "TurtleBack" 327 tf_E ["java/lang/RuntimeException", "java/lang/Exception"], w.before (([tb_r 0, tb_i x].map (tb_cv ρ fm)).toArray) s = true := by
        intro w hw
        have h1 := List.all_eq_true.mp tf_at0 w hw
        simp only [Bool.or_eq_true, Bool.and_eq_true, decide_eq_true_eq] at h1
        rcases h1 with h1 | h1
        · exact htg w (List.mem_filter.mpr ⟨h1.2, h1.1⟩)
        · exact va_Nw.use (List.all_eq_true.mp tf_bo w h1) (hT.1 w h1)
      refine vx_throw0 (own := "TurtleBack") (cls := tf_E) (names := ["java/lang/RuntimeException", "java/lang/Exception"]) (ik := 325) (ic := 327) (A := fun q => n0 ≤ q) hx hb hfl hown (by decide +kernel) (by decide +kernel) (htg _ (tb_subg_in tf_wl2_in _ (List.mem_of_getElem? (i := 11) rfl))) (htg _ (tb_subg_in tf_wl2_in _ (List.mem_of_getElem? (i := 2) rfl))) hat hkg hT.2.1 hT.2.2 Y.2.1 (by rw [hml]; exact Y.2.2.1.1) tf_196_25 tf_196_28 tf_196_29 tf_196_32 (fun z hz => absurd (hex z hz) id) (Nat.le_of_ble_eq_true rfl) (Nat.le_of_ble_eq_true rfl) (Nat.le_of_ble_eq_true rfl) (Nat.le_of_ble_eq_true rfl) hlocks (fun t ht hz hk => ?_) Y.2.1.2.2 (Nat.le_of_ble_eq_true rfl) (Nat.le_of_ble_eq_true rfl)
      refine ⟨(), hT1, ⟨rfl, Y.1.kept (fun k x hx => hk x.1 ((Y.1 k x hx).lt))⟩, Nat.le_trans Y.2.1.1 hz, fun q h1 h2 => ?_⟩
      rw [hk q (Nat.lt_of_lt_of_le h1 Y.2.1.1)]
      exact Y.2.1.2.1 q h1 h2
    · rw [tf_rt196] at hr
      refine vx_ret (W.widen (k := 1) (n := 6) (Nat.le_of_ble_eq_true rfl) (Nat.le_of_ble_eq_true rfl) ?_)
      exact W.iret (v := Int32.ofInt T) hx hb hr (fun t ht hW => ⟨⟨Int32.ofInt T, (), rfl, ⟨rfl, hT1⟩, by show va_P D tb_cl _ t.heap; rw [ht]; exact Y.1⟩, Y.2.1.F ht⟩) Y.2.1.2.2 tf_196_34
theorem tf_ws101 {A : tb_H} {v : Int} : tb_ws ρ cT cS (tb_upL A 101 0 v) = (tb_ws ρ cT cS A).set 101 (ρ 101, .inl (cT 3, 1, .inr (.inl (vp_updL (fun j => Int64.ofInt (A.2.1 101 j)) 0 (Int64.ofInt v))))) := by
  rw [tb_ws_set (A := A) (B := tb_upL A 101 0 v) (o := 101) (by decide) (fun j hj => ⟨rfl, funext (fun k => (if_neg (fun q => hj q.1)).symm), rfl⟩)]
  refine congrArg (fun z => (tb_ws ρ cT cS A).set 101 (ρ 101, z)) ?_
  show tb_cell ρ cT cS (tb_upL A 101 0 v) 101 = _
  unfold tb_cell
  rw [kd_101]
  show (Sum.inl (cT 3, 1, Sum.inr (Sum.inl (fun j : Nat => Int64.ofInt ((tb_upL A 101 0 v).2.1 101 j)))) : va_E) = _
  refine congrArg (fun f => (Sum.inl (cT 3, 1, Sum.inr (Sum.inl f)) : va_E)) (funext (fun j => ?_))
  show Int64.ofInt (if 101 = 101 ∧ (j : Int) = 0 then v else A.2.1 101 j) = if j = 0 then Int64.ofInt v else Int64.ofInt (A.2.1 101 j)
  by_cases h : j = 0
  · subst h; rfl
  · rw [if_neg (by omega), if_neg h]
set_option maxHeartbeats 4000000 in
set_option maxRecDepth 100000 in
theorem tf_lawled (hfl : l.stackTraces = false) (hfm : fm = .null ∨ ∃ a, fm = .ref a) (hR : tb_Rho ρ n0) (hX : ∀ i, tb_inI (X.1 i)) (hXl : X.2 < 2147483648) (hA1 : ∀ o k, tb_inI (A.1 o k)) (hA2 : ∀ o k, tb_inL (A.2.1 o k)) (hx0 : tb_inI x) (hTi : tb_inI T)
    (hrun : tb_E X 196 0 [tb_r 0, tb_i x, tb_s 1] [] A (fun pc _ r A1 => A1 = A ∧ ((pc = 25 ∧ r = [] ∧ T = -1) ∨ (pc = 34 ∧ r = [tb_i T] ∧ T ≠ -1)))) :
    vx_Met l tf_yL (Cond.codeWith tf_yL method_3_code 4 (some .int) [(0, 9, 12, 13)] :: tb_gt) { frames := 7, cells := 1, slots := 6, locals := 260 } (tf_PcL X ρ fm D cT cS n0 [tb_r 0, tb_i x, tb_r 101] A) (va_Qi (fun r (_ : Unit) => r = Int32.ofInt (if T = -1 then 1 else 0)) (fun _ t => va_P D tb_cl (tb_ws ρ cT cS (if T = -1 then A else tb_upL A 101 0 T)) t.heap) (fun q => n0 ≤ q)) (vx_X (fun _ : Unit => False) (fun _ _ _ => True) (fun q => n0 ≤ q)) 1 6 (fun q => n0 ≤ q) := by
  have hM := tf_led (cT := cT) (cS := cS) (D := D) hfl hfm hR hX hXl hA1 hA2 hx0 hrun
  refine vx_ofWH (cc := method_3_code) (maxL := 4) (ret := some .int) (hh := [(0, 9, 12, 13)]) (by decide) rfl ?_
  intro p e s m args below meth c s₁ B hml hv
  obtain ⟨⟨rfl, hP, hK, hC⟩, hT⟩ := hv
  have hts := atoms_spec (ws := Cond.codeWith tf_yL method_3_code 4 (some .int) [(0, 9, 12, 13)] :: tb_gt) B.pre
  have hown : s.vm.findClass "TurtleBackLaw" = some m.cls := findClass_of_methodNamed B.named
  have hlocks := B.notSynchronized
  have hr := B.returns
  have hx := B.exec
  have hb := B.bytes
  have htg : ∀ w ∈ tb_gt, w.before (([tb_r 0, tb_i x, tb_r 101].map (tb_cv ρ fm)).toArray) s = true := fun w hw => hts w (List.mem_cons_of_mem _ hw)
  have htab : c.exceptionTable.toList = tableOf [(0, 9, 12, 13)] := vx_table (x := tf_yL) B (hts _ List.mem_cons_self)
  have hD := hR.D cT cS A
  have hS : va_S (fun q => n0 ≤ q) s.heap s.heap [] := va_S.rf
  have hl := lv_entry ([tb_r 0, tb_i x, tb_r 101].map (tb_cv ρ fm)) (n := 4) (Nat.le_of_ble_eq_true rfl)
  rw [lg_entry_eq]
  generalize (lg_sl ([tb_r 0, tb_i x, tb_r 101].map (tb_cv ρ fm)) ++ List.replicate (4 - (lg_sl ([tb_r 0, tb_i x, tb_r 101].map (tb_cv ρ fm))).length) Slot.unset).toArray = ls at hl ⊢
  have hl : lv_has ls 4 [(0, .ref (ρ 0)), (1, .int (Int32.ofInt x)), (2, .ref (ρ 101))] := hl
  refine lv_aload_n hx hb tf_L_0 rfl (lv_at hl 2 rfl) ?_
  refine lv_iconst (v := 0) hx hb tf_L_1 (by decide) ?_
  refine lv_aload_n hx hb tf_L_2 rfl (lv_at hl 0 rfl) ?_
  refine lv_iload_n hx hb tf_L_3 rfl (lv_at hl 1 rfl) ?_
  have hwl : ∀ w ∈ tf_wl2, w ∈ tb_gt := tb_subg_in tf_wl2_in
  have hG : GoodIn tb_gt (wsV "TurtleBackLaw" 7 "TurtleBack" (tb_nm 196) (tb_wds 196)) := tb_good (by
    intro w h
    unfold wsV tb_wds at h
    simp only [List.mem_append, List.mem_cons, List.not_mem_nil, or_false] at h
    rw [tf_nm196] at h
    rcases h with (rfl | rfl | rfl | rfl) | rfl | h
    · exact hwl _ (List.mem_of_getElem? (i := 7) rfl)
    · exact hwl _ (List.mem_of_getElem? (i := 8) rfl)
    · exact hwl _ (List.mem_of_getElem? (i := 9) rfl)
    · exact hwl _ (List.mem_of_getElem? (i := 1) rfl)
    · rw [tf_mx196, tf_rt196]; exact hwl _ (List.mem_of_getElem? (i := 10) rfl)
    · exact h)
  have hrecv : ∃ cell : Cell, s.heap[ρ 0]? = some cell ∧ cell.vm.isStatics = false ∧ s.vm.findClass "TurtleBack" = some cell.cls := by
    have he : (tb_ws ρ cT cS A)[0]? = some (ρ 0, .inr (11, tb_fVs ρ A 0 (tb_kd 0).2.2)) := by
      rw [tb_ws_get (by decide)]
      unfold tb_cell
      rw [kd_0]
      rfl
    exact va_recv hK hP (ci := 11) (tb_ci_at (ci := 11) (by decide +kernel)) he
  refine vx_calli (vx_runV (As := [.int (Int32.ofInt x)]) (rest := [.int 0, .ref (ρ 101)]) (C := "TurtleBack") (Ts := tb_gt) ⟨hx, hb, hml, hown, htg⟩ hM (cwV (ws' := tb_gt) 1 htg hG rfl rfl rfl (by rw [tf_nm196]; decide +kernel) ⟨Nat.le_of_ble_eq_true rfl, by rw [tf_mx196]; exact Nat.le_of_ble_eq_true rfl⟩) ⟨tf_blind, hrecv, fun U hU hW => ⟨⟨rfl, by rw [hU]; exact hP, va_K.moved hW.alike hK, by rw [hU]; exact hC.go hW (fun _ _ _ => rfl)⟩, by rw [hU]; exact hT.go hW (fun _ _ _ => rfl)⟩⟩ rfl rfl hl.1 rfl (lv_room (Nat.le_of_ble_eq_true rfl)) tf_L_4 ⟨Nat.le_of_ble_eq_true rfl, Nat.le_of_ble_eq_true rfl⟩) hS (fun q _ h => h) (fun q h => h) (fun q _ h => h) (fun E ce q9 u t H1 locs1 ht hvm hpx hBX hz1 hk1 hS1 hc1 hc2 hc3 => ?_) (fun r u t H1 locs1 ht hvm hpost hB hz1 hk1 hS1 => ?_)
  · obtain ⟨rfl, hP1⟩ := hBX
    rw [ht] at hP1
    refine vx_catch (own := "TurtleBackLaw") (name := tf_E) (E := tf_E) hown [] (⟨0, 9, 12, 13⟩ : ExceptionTableEntry) [] htab (fun z hz => absurd hz List.not_mem_nil) (by decide) (by decide) (htg _ (hwl _ (List.mem_of_getElem? (i := 6) rfl))) (va_Nw.use rfl (hT.1 _ List.mem_cons_self)) hc1 hc2 hc3 ?_
    refine lv_astore_n (lv' := [(3, .ref q9), (0, .ref (ρ 0)), (1, .int (Int32.ofInt x)), (2, .ref (ρ 101))]) hx hb tf_L_12 rfl hl (by decide) rfl (fun ls hl => ?_)
    refine lv_iconst (v := 1) hx hb tf_L_13 (by decide) ?_
    refine vx_ret (W.widen (k := 1) (n := 6) (Nat.le_of_ble_eq_true rfl) (Nat.le_of_ble_eq_true rfl) ?_)
    exact W.iret (v := 1) hx hb hr (fun t ht hW => ⟨⟨1, (), rfl, by rw [if_pos hpx]; rfl, by show va_P D tb_cl _ t.heap; rw [ht, if_pos hpx]; exact hP1⟩, hS1.F ht⟩) hS1.2.2 tf_L_14
  · obtain ⟨rfl, hT1⟩ := hpost
    have hP1 : va_P D tb_cl (tb_ws ρ cT cS A) H1 := by rw [← ht]; exact hB
    refine lv_i2l (v := Int64.ofInt T) hx hb tf_L_7 (tb_i2l hTi) ?_
    have he : (tb_ws ρ cT cS A)[101]? = some (ρ 101, .inl (cT 3, 1, .inr (.inl (fun j => Int64.ofInt (A.2.1 101 j))))) := by
      rw [tb_ws_get (by decide)]
      unfold tb_cell
      rw [kd_101]
      rfl
    refine va_last (D := D) hx hb hK hP1 hD hS1 101 3 he rfl (i := 0) (x := Int64.ofInt T) (by unfold vp_in; decide) tf_L_8 (fun H2 locs2 hP2 hD2 hS2 => ?_)
    refine lv_goto (tgt := 15) hx hb tf_L_9 (by decide) ?_
    refine lv_iconst (v := 0) hx hb tf_L_15 (by decide) ?_
    refine vx_ret (W.widen (k := 1) (n := 6) (Nat.le_of_ble_eq_true rfl) (Nat.le_of_ble_eq_true rfl) ?_)
    exact W.iret (v := 0) hx hb hr (fun t ht hW => ⟨⟨0, (), rfl, by rw [if_neg hT1]; rfl, by show va_P D tb_cl _ t.heap; rw [ht, if_neg hT1, tf_ws101]; exact hP2⟩, hS2.F ht⟩) hS2.2.2 tf_L_16
end TFT
