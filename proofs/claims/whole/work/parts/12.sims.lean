/-! every run of the small machine, by its fuel -/
theorem tb_good {l : List Cond} (h : ∀ w ∈ l, w ∈ tb_gt) : GoodIn tb_gt l := fun w hw => ⟨h w hw, good_of_word (List.mem_filter.mp (h w hw)).2⟩
theorem tb_blind {X : tb_X} {ρ : Nat → Nat} {fm : Value} {D : va_G} {cT : Nat → ClassId} {cS : ClassId} {n0 : Nat} {as : List tb_V} {A : tb_H} : FrameBlind (tb_Pc X ρ fm D cT cS n0 as A) := by
  intro a U g mk q
  obtain ⟨rfl, h1, h2, h3⟩ := q
  exact ⟨rfl, h1, va_K.moved (u := U) (U := U.calling g mk _) (Vm.Alike.refl U.vm) h2, h3.same rfl⟩
section TBSIMS
variable {p : Program} {l : Launch} {e : Env} {R : Room} {s : State} {m : MethodId} {args : Array Value} {below : List Frame} {meth : Method} {c : Code} {H : Heap} {locs : List Loc} {cells slots : Nat} {Q : State → Prop}
variable {X : tb_X} {ρ : Nat → Nat} {fm : Value} {D : va_G} {cT : Nat → ClassId} {cS : ClassId} {n0 y : Nat} {pc : Nat} {ls : Array Slot} {lv st : List tb_V} {A : tb_H}
theorem tb_pre (C : tb_Std X ρ fm D cT cS n0 y p R s m args c) (Y : tb_Dy ρ fm D cT cS n0 y s H locs ls lv st A) (as : List tb_V) : ∀ U : State, U.heap = H → s.WarmedH U.vm → tb_Pc X ρ fm D cT cS n0 as A (as.map (tb_cv ρ fm)).toArray U := by
  intro U hU hW
  refine ⟨rfl, by rw [hU]; exact Y.1, va_K.moved hW.alike C.2.2.2.2.2.1, ?_⟩
  rw [hU]
  exact C.2.2.2.2.2.2.1.go hW (fun a h1 h2 => Y.2.1.2.1 a h1 h2)
theorem tb_rpush {r : List tb_V} (h : r = [] ∨ ∃ v, r = [v]) (rest : List tb_V) : ((r.head?).map (tb_cv ρ fm)).toList ++ rest.map (tb_cv ρ fm) = (r ++ rest).map (tb_cv ρ fm) := by
  rcases h with rfl | ⟨v, rfl⟩ <;> rfl
theorem tb_split (st : List tb_V) {b : Nat} {q : Nat} (hb : 1 ≤ b) (hq : st[b - 1]? = some (tb_r q)) : st = (st.take (b - 1)) ++ tb_r q :: st.drop b ∧ (st.take b).reverse = tb_r q :: (st.take (b - 1)).reverse := by
  have hl : b - 1 < st.length := (List.getElem?_eq_some_iff.mp hq).1
  have h1 : st.take b = st.take (b - 1) ++ [tb_r q] := by
    have e : b = (b - 1) + 1 := by omega
    rw [e, List.take_succ, show b - 1 + 1 - 1 = b - 1 by omega, hq]
    rfl
  constructor
  · conv => lhs; rw [← List.take_append_drop b st, h1]
    simp
  · rw [h1]
    simp
theorem tb_fits {z y : Nat} (hz : z < 323) (h : tb_rk z + 1 ≤ tb_rk y) (h1 : tb_rk y ≤ R.frames) (h2 : 39 * tb_rk y ≤ R.locals) : (tb_rm z).frames + 1 ≤ R.frames ∧ 8 + (tb_mx z + 11) + (tb_rm z).locals ≤ R.locals := by
  have hm := tb_mok_of hz
  simp only [tb_mok, Bool.and_eq_true, decide_eq_true_eq] at hm
  have hmx := hm.1.1.1.2
  show tb_rk z + 1 ≤ R.frames ∧ 8 + (tb_mx z + 11) + 39 * tb_rk z ≤ R.locals
  omega
theorem tb_rk_pos : (List.range 324).all (fun z => decide (1 ≤ tb_rk z)) = true := by decide +kernel
theorem tb_rk1 {z : Nat} (hz : z < 324) : 1 ≤ tb_rk z := by
  have h := List.all_eq_true.mp tb_rk_pos z (List.mem_range.mpr hz)
  simpa using h
/-- a call of an instance method -/
theorem tb_sim_V {n : Nat} (hS : tb_Sim l X ρ fm D cT cS n0 n) (C : tb_Std X ρ fm D cT cS n0 y p R s m args c) (Y : tb_Dy ρ fm D cT cS n0 y s H locs ls lv st A) (hcs : cells ≤ R.cells ∧ slots ≤ R.slots) {i j z b ci : Nat} (hdg : decode (tb_by y) pc = .ok (.invokevirtual i, 3))
    (hj : tb_mlr[j]? = some (tb_oi y, i, z)) (hz : z < 323) (hsf : tb_sf z = false) (hb : b = tb_np z + 1) (hrk : tb_rk z + 1 ≤ tb_rk y) (hci : if ci = 99 then tb_ow (tb_oi z) = "java/lang/String" else ci < tb_cl.length ∧ (tb_ci ci).1 = tb_ow (tb_oi z))
    (hbl : b ≤ st.length) (h8 : ((st.drop b).map tb_cat).sum ≤ 8) (hmx : ((st.take b).map tb_cat).sum ≤ tb_mx z) (hrc : tb_rcv tb_P st b ci = true)
    {a : Nat} {lv2 r : List tb_V} {A1 : tb_H} (hrun : tb_run tb_P X n z 0 (tb_entry (tb_mx z) (st.take b).reverse) [] A = some (a, lv2, r, A1)) (hre : tb_isre tb_P z a = true) (hr1 : r = [] ∨ ∃ v, r = [v])
    (kk : tb_G p l e R s m args below meth c cells slots Q ρ fm D cT cS n0 y (pc + 3) lv (r ++ st.drop b) A1) : W p l e R s m args below meth c H locs cells slots Q (F0 m pc ls (st.map (tb_cv ρ fm))) := by
  have C' := C
  obtain ⟨hx, hbb, hml, hown, hts, hK, hC, hfm, hR, hX, hXl, hr1', hr2', hr3'⟩ := C'
  have hm := tb_mok_of hz
  simp only [tb_mok, Bool.and_eq_true, decide_eq_true_eq, hsf] at hm
  obtain ⟨⟨⟨⟨⟨⟨⟨⟨hcls, hpl⟩, hy1⟩, hy2⟩, hpd⟩, -⟩, hio⟩, hco⟩, hii⟩ := hm
  simp at hii
  have hb1 : 1 ≤ b := by omega
  -- the receiver
  have hrcv : ∃ q, st[b - 1]? = some (tb_r q) ∧ ∃ cell : Cell, H[ρ q]? = some cell ∧ cell.vm.isStatics = false ∧ s.vm.findClass (tb_nm z).cls = some cell.cls := by
    unfold tb_rcv at hrc
    split at hrc
    · rename_i q hq
      refine ⟨q, hq, ?_⟩
      split at hrc
      · rename_i c' fts hkd
        have hcc : c' = ci := by simpa using hrc
        subst hcc
        have hkd' : tb_kd q = (0, c', fts) := hkd
        have hok := tb_kdo_of (o := q) (by rw [hkd']; exact Nat.le_of_ble_eq_true rfl)
        unfold tb_kdo at hok
        rw [hkd'] at hok
        simp only [Bool.and_eq_true, decide_eq_true_eq] at hok
        obtain ⟨⟨⟨hq0, hcl⟩, hlen⟩, -⟩ := hok
        have hne : c' ≠ 99 := by
          have : tb_cl.length = 13 := by decide +kernel
          omega
        rw [if_neg hne] at hci
        have he : (tb_ws ρ cT cS A)[q]? = some (ρ q, .inr (c', tb_fVs ρ A q fts)) := by
          rw [tb_ws_get hq0]
          unfold tb_cell
          rw [hkd']
          rfl
        obtain ⟨cell, q1, q2, q3⟩ := va_recv hK Y.1 (tb_ci_at hcl) he
        refine ⟨cell, q1, q2, ?_⟩
        rw [hcls, ← hci.2]
        exact q3
      · rename_i c' fts hkd
        have hcc : ci = 99 := by simpa using hrc
        rw [if_pos hcc] at hci
        have hkd' : tb_kd q = (4, c', fts) := hkd
        obtain ⟨cell, q1, q2, q3, -⟩ := (hC.2.2.1 q c' fts hkd').1.kept Y.2.1.2.1
        refine ⟨cell, q1, q2, ?_⟩
        rw [hcls, hci]
        exact q3
      · cases hrc
    · cases hrc
  obtain ⟨q, hq, hcell⟩ := hrcv
  obtain ⟨e1, e2⟩ := tb_split st hb1 hq
  have hok : ∀ v ∈ (st.take b).reverse, tb_ok v := fun v hv => Y.oks v (List.mem_of_mem_take (List.mem_reverse.mp hv))
  have hsum : (((st.take b).reverse).map tb_cat).sum ≤ tb_mx z := by rw [List.map_reverse, List.sum_reverse]; exact hmx
  have hM := tb_met (l := l) hz hS hfm hR hX hXl (tb_rk1 (by omega)) hsum hok Y.2.2.2.2.2.2.1 Y.2.2.2.2.2.2.2 hrun hre
  rw [e2] at hM
  have hw := tb_subg_in tb_mlr_in _ (List.mem_map.mpr ⟨(tb_oi y, i, z), List.mem_of_getElem? hj, rfl⟩)
  have hzn : tb_zn z = tb_nm z := by
    unfold tb_zn
    rw [if_neg (by omega), if_neg (by omega), if_neg (by omega), if_neg (by omega)]
  have hw' : Cond.methodLink (tb_ow (tb_oi y)) i (tb_nm z) ∈ tb_gt := by
    have : tb_mw (tb_oi y, i, z) = Cond.methodLink (tb_ow (tb_oi y)) i (tb_nm z) := by unfold tb_mw; rw [hzn]
    rw [this] at hw
    exact hw
  have hwi : Cond.instanceMethod (tb_nm z) ∈ tb_gt := tb_subg_in tb_kin_in _ (List.mem_map.mpr ⟨z, hii.1, rfl⟩)
  have hws : Cond.selects (tb_nm z).cls (tb_nm z) (tb_nm z) ∈ tb_gt := tb_subg_in tb_kse_in _ (List.mem_map.mpr ⟨z, hii.2, rfl⟩)
  have hwn : Cond.initialized (tb_nm z).cls ∈ tb_gt := by rw [hcls]; exact tb_subg_in tb_kow_in _ (List.mem_map.mpr ⟨tb_oi z, hio, rfl⟩)
  have hwc := tb_kco_in z hco
  have hG : GoodIn tb_gt (wsV (tb_ow (tb_oi y)) i (tb_nm z).cls (tb_nm z) (tb_wds z)) := tb_good (by
    intro w h
    unfold wsV tb_wds at h
    simp only [List.mem_append, List.mem_cons, List.not_mem_nil, or_false] at h
    rcases h with (rfl | rfl | rfl | rfl) | rfl | h
    · exact hw'
    · exact hwi
    · exact hws
    · exact hwn
    · exact hwc
    · exact h)
  have hlenA : ((st.take (b - 1)).reverse.map (tb_cv ρ fm)).length = tb_np z := by
    rw [List.length_map, List.length_reverse, List.length_take]
    omega
  refine tb_call (r := r) (A1 := A1) (rest := (st.drop b).map (tb_cv ρ fm)) (a := (Value.ref (ρ q) :: (st.take (b - 1)).reverse.map (tb_cv ρ fm)).toArray) (va_runV (Ts := tb_gt) (C := (tb_nm z).cls) (As := (st.take (b - 1)).reverse.map (tb_cv ρ fm)) ⟨hx, hbb, hml, hown, hts⟩ hM (cwV (tb_np z) hts hG rfl rfl rfl ⟨rfl, hy1, hy2, hpd⟩ (tb_fits hz hrk hr1' hr2'))
    ⟨tb_blind, hcell, fun U hU hW => tb_pre C Y (tb_r q :: (st.take (b - 1)).reverse) U hU hW⟩ rfl hlenA (by show ls.size = _; exact Y.2.2.1.1) ?_ (lv_room (by rw [tb_cats hfm]; exact h8)) hdg ⟨hcs.1, hcs.2⟩) Y.2.1 (fun H1 locs1 hP1 hrng hS1 => ?_)
  · show st.map (tb_cv ρ fm) = ((st.take (b - 1)).reverse.map (tb_cv ρ fm)).reverse ++ Value.ref (ρ q) :: (st.drop b).map (tb_cv ρ fm)
    conv => lhs; rw [e1]
    rw [List.map_append, List.map_cons, ← List.map_reverse, List.reverse_reverse]
    rfl
  · rw [tb_rpush hr1]
    refine kk H1 locs1 ls ⟨hP1, hS1, Y.2.2.1, Y.2.2.2.1, Y.2.2.2.2.1, ?_, hrng.2.1, hrng.2.2⟩
    intro v hv
    rcases List.mem_append.mp hv with h | h
    · exact hrng.1 v h
    · exact Y.oks v (List.mem_of_mem_drop h)
/-- a call of a static method -/
theorem tb_sim_S {n : Nat} (hS : tb_Sim l X ρ fm D cT cS n0 n) (C : tb_Std X ρ fm D cT cS n0 y p R s m args c) (Y : tb_Dy ρ fm D cT cS n0 y s H locs ls lv st A) (hcs : cells ≤ R.cells ∧ slots ≤ R.slots) {i j z b : Nat} (hdg : decode (tb_by y) pc = .ok (.invokestatic i, 3))
    (hj : tb_mlr[j]? = some (tb_oi y, i, z)) (hz : z < 323) (hsf : tb_sf z = true) (hb : b = tb_np z) (hrk : tb_rk z + 1 ≤ tb_rk y)
    (hbl : b ≤ st.length) (h8 : ((st.drop b).map tb_cat).sum ≤ 8) (hmx : ((st.take b).map tb_cat).sum ≤ tb_mx z)
    {a : Nat} {lv2 r : List tb_V} {A1 : tb_H} (hrun : tb_run tb_P X n z 0 (tb_entry (tb_mx z) (st.take b).reverse) [] A = some (a, lv2, r, A1)) (hre : tb_isre tb_P z a = true) (hr1 : r = [] ∨ ∃ v, r = [v])
    (kk : tb_G p l e R s m args below meth c cells slots Q ρ fm D cT cS n0 y (pc + 3) lv (r ++ st.drop b) A1) : W p l e R s m args below meth c H locs cells slots Q (F0 m pc ls (st.map (tb_cv ρ fm))) := by
  have C' := C
  obtain ⟨hx, hbb, hml, hown, hts, hK, hC, hfm, hR, hX, hXl, hr1', hr2', hr3'⟩ := C'
  have hm := tb_mok_of hz
  simp only [tb_mok, Bool.and_eq_true, decide_eq_true_eq, hsf] at hm
  obtain ⟨⟨⟨⟨⟨⟨⟨⟨hcls, hpl⟩, hy1⟩, hy2⟩, hpd⟩, -⟩, hio⟩, hco⟩, hii⟩ := hm
  simp at hii
  have hok : ∀ v ∈ (st.take b).reverse, tb_ok v := fun v hv => Y.oks v (List.mem_of_mem_take (List.mem_reverse.mp hv))
  have hsum : (((st.take b).reverse).map tb_cat).sum ≤ tb_mx z := by rw [List.map_reverse, List.sum_reverse]; exact hmx
  have hM := tb_met (l := l) hz hS hfm hR hX hXl (tb_rk1 (by omega)) hsum hok Y.2.2.2.2.2.2.1 Y.2.2.2.2.2.2.2 hrun hre
  have hw := tb_subg_in tb_mlr_in _ (List.mem_map.mpr ⟨(tb_oi y, i, z), List.mem_of_getElem? hj, rfl⟩)
  have hzn : tb_zn z = tb_nm z := by
    unfold tb_zn
    rw [if_neg (by omega), if_neg (by omega), if_neg (by omega), if_neg (by omega)]
  have hw' : Cond.methodLink (tb_ow (tb_oi y)) i (tb_nm z) ∈ tb_gt := by
    have : tb_mw (tb_oi y, i, z) = Cond.methodLink (tb_ow (tb_oi y)) i (tb_nm z) := by unfold tb_mw; rw [hzn]
    rw [this] at hw
    exact hw
  have hwi : Cond.static (tb_nm z) ∈ tb_gt := tb_subg_in tb_kst_in _ (List.mem_map.mpr ⟨z, hii, rfl⟩)
  have hwn : Cond.initialized (tb_nm z).cls ∈ tb_gt := by rw [hcls]; exact tb_subg_in tb_kow_in _ (List.mem_map.mpr ⟨tb_oi z, hio, rfl⟩)
  have hwc := tb_kco_in z hco
  have hG : GoodIn tb_gt (va_wsS (tb_ow (tb_oi y)) i (tb_nm z) (tb_wds z)) := tb_good (by
    intro w h
    unfold va_wsS tb_wds at h
    simp only [List.mem_append, List.mem_cons, List.not_mem_nil, or_false] at h
    rcases h with (rfl | rfl | rfl) | rfl | h
    · exact hw'
    · exact hwi
    · exact hwn
    · exact hwc
    · exact h)
  have hlenA : ((st.take b).reverse.map (tb_cv ρ fm)).length = tb_np z := by
    rw [List.length_map, List.length_reverse, List.length_take]
    omega
  refine tb_call (r := r) (A1 := A1) (rest := (st.drop b).map (tb_cv ρ fm)) (a := ((st.take b).reverse.map (tb_cv ρ fm)).toArray) (va_runS (Ts := tb_gt) (As := (st.take b).reverse.map (tb_cv ρ fm)) ⟨hx, hbb, hml, hown, hts⟩ hM (va_cwS (tb_np z) hts hG rfl rfl rfl ⟨hy1, hy2, hpd⟩ (tb_fits hz hrk hr1' hr2'))
    ⟨tb_blind, fun U hU hW => tb_pre C Y (st.take b).reverse U hU hW⟩ rfl hlenA (by show ls.size = _; exact Y.2.2.1.1) ?_ (lv_room (by rw [tb_cats hfm]; exact h8)) hdg ⟨hcs.1, hcs.2⟩) Y.2.1 (fun H1 locs1 hP1 hrng hS1 => ?_)
  · show st.map (tb_cv ρ fm) = ((st.take b).reverse.map (tb_cv ρ fm)).reverse ++ (st.drop b).map (tb_cv ρ fm)
    conv => lhs; rw [← List.take_append_drop b st]
    rw [List.map_append, ← List.map_reverse, List.reverse_reverse]
  · rw [tb_rpush hr1]
    refine kk H1 locs1 ls ⟨hP1, hS1, Y.2.2.1, Y.2.2.2.1, Y.2.2.2.2.1, ?_, hrng.2.1, hrng.2.2⟩
    intro v hv
    rcases List.mem_append.mp hv with h | h
    · exact hrng.1 v h
    · exact Y.oks v (List.mem_of_mem_drop h)
set_option maxHeartbeats 2000000 in
/-- EVERY RUN -/
theorem tb_sims (l : Launch) (X : tb_X) (ρ : Nat → Nat) (fm : Value) (D : va_G) (cT : Nat → ClassId) (cS : ClassId) (n0 : Nat) : ∀ n : Nat, tb_Sim l X ρ fm D cT cS n0 n
  | 0 => by intro y pc lv st A a b r d h; simp [tb_run] at h
  | n + 1 => by
    have ih := tb_sims l X ρ fm D cT cS n0 n
    intro y pc lv st A a b r d h p e R s m args below meth c H locs cells slots Q ls C Y hcs kk
    rw [tb_run] at h
    cases ho : tb_P.1 y pc with
    | none => rw [ho] at h; cases h
    | some o =>
      rw [ho] at h
      dsimp only at h
      by_cases h1 : tb_isst o.1 = true
      · rw [if_pos h1] at h
        by_cases h2 : tb_stop o st = true
        · rw [if_pos h2] at h
          cases h
          exact kk H locs ls Y
        · rw [if_neg h2] at h; cases h
      · rw [if_neg h1] at h
        have ho' : tb_at y pc = some o := ho
        by_cases h2 : o.1 = 40 ∨ o.1 = 41
        · rw [if_pos h2] at h
          by_cases h3 : tb_cok tb_P o st = true
          · rw [if_pos h3] at h
            cases hc : tb_run tb_P X n o.2.1 0 (tb_entry (tb_P.2.1 o.2.1) (st.take o.2.2.1).reverse) [] A with
            | none => rw [hc] at h; cases h
            | some q =>
              obtain ⟨pc2, l2, r2, A2⟩ := q
              rw [hc] at h
              dsimp only at h
              by_cases h4 : tb_isre tb_P o.2.1 pc2 = true
              · rw [if_pos h4] at h
                obtain ⟨o2, g1, g2, g3⟩ := tb_run_end _ _ _ _ _ _ _ _ _ _ hc
                have g4 : o2.1 ≠ 44 := by
                  intro q
                  unfold tb_isre at h4
                  rw [g1] at h4
                  obtain ⟨t2, w2⟩ := o2
                  have q' : t2 = 44 := q
                  subst q'
                  simp at h4
                have hr1 := tb_stop_len g3 g4
                obtain ⟨ins, len, hdg, hck⟩ := tb_ckd ho'
                obtain ⟨tag, z, b0, ci, l0, nx⟩ := o
                simp only [tb_ck1, Bool.or_eq_true, beq_iff_eq] at hck
                have h44 : tag ≠ 44 := by
                  intro q
                  subst q
                  simp [tb_isst] at h1
                rcases hck with hck | hck
                · exact absurd hck h44
                rw [Bool.and_eq_true, decide_eq_true_eq] at hck
                obtain ⟨hnx, hck⟩ := hck
                subst hnx
                have h2' : tag = 40 ∨ tag = 41 := h2
                unfold tb_cok at h3
                simp only [Bool.and_eq_true, decide_eq_true_eq] at h3
                obtain ⟨⟨⟨k1, k2⟩, k3⟩, k4⟩ := h3
                have go : tb_G p l e R s m args below meth c cells slots Q ρ fm D cT cS n0 y (pc + len) lv (r2 ++ st.drop b0) A2 := by
                  intro H1 locs1 ls1 Y1
                  exact ih y (pc + len) lv (r2 ++ st.drop b0) A2 a b r d h p e R s m args below meth c H1 locs1 cells slots Q ls1 C Y1 hcs kk
                split at hck <;> (try simp only [Bool.and_eq_true, Bool.or_eq_true, beq_iff_eq, decide_eq_true_eq] at hck) <;> (try (exfalso; omega)) <;> (try (cases hck; done))
                · obtain ⟨⟨⟨⟨⟨⟨⟨rfl, rfl⟩, hj⟩, hz⟩, hsf⟩, hb⟩, hrk⟩, hci⟩ := hck
                  rw [if_pos rfl] at k4
                  simp only [Bool.and_eq_true, decide_eq_true_eq] at k4
                  exact tb_sim_V ih C Y hcs hdg hj hz (by simpa using hsf) hb hrk (by
                    by_cases h99 : ci.toNat = 99
                    · rw [if_pos h99] at hci ⊢
                      simpa using hci
                    · rw [if_neg h99] at hci ⊢
                      simpa using hci) k1 k2 k3 k4.2 hc h4 hr1 go
                · obtain ⟨rfl, (⟨⟨⟨⟨⟨rfl, hj⟩, hz⟩, hsf⟩, hb⟩, hrk⟩ | ⟨rfl, -⟩) | ⟨⟨rfl, -⟩, -⟩⟩ := hck
                  · exact tb_sim_S ih C Y hcs hdg hj hz hsf hb hrk k1 k2 k3 hc h4 hr1 go
                  · exfalso; omega
                  · exfalso; omega
              · rw [if_neg h4] at h; cases h
          · rw [if_neg h3] at h; cases h
        · rw [if_neg h2] at h
          cases hs : tb_step tb_P X o lv st A with
          | none => rw [hs] at h; cases h
          | some q =>
            obtain ⟨pc2, l2, r2, A2⟩ := q
            rw [hs] at h
            exact tb_sim_step C Y ho' hcs hs (fun H1 locs1 ls1 Y1 => ih _ _ _ _ _ _ _ _ _ h p e R s m args below meth c H1 locs1 cells slots Q ls1 C Y1 hcs kk)
end TBSIMS
