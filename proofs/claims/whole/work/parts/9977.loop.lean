/-! THE CLAIM OUT OF ONE WALK OF THE LAW'S BODY. Your part is whole_start (and what it stands on); all else here is the same for every law, but numbers. -/
def R_law : String := "TurtleBackLaw"
def lw_P (b : Addr) (xs : List Int32) (args : Array Value) (s : State) : Prop := args = #[.ref b] ∧ s.IntsAt b xs ∧ xs.length ≤ 3072 ∧ (Jvm.Cond.and given_1 narrow_1).before args s = true
def lw_Q (_ : Array Value) (s : State) (o : Outcome) (t : State) : Prop := o = .returned (some (.int 1)) ∧ Framed s o t [] 601024 7293034
def lw_Z (below : List Frame) (a : Array Value) (s : State) : State → Prop := fun t => ∃ o, t.status = .running ∧ Ended t below o ∧ lw_Q a s o t
/-- the law's own end, with 1 on the stack, nothing written that was there before, its room as the claim has it -/
theorem lw_ret {p : Program} {l : Launch} {e : Env} {s : State} {m : MethodId} {below : List Frame} {meth : Method} {c : Code} {b : Nat} (hx : p.tables.exec = Jvm.exec) (hb : c.code = code) (hr : meth.sig.returnType = ret) (hlocks : meth.locks = false) {pc : Nat} {H : Heap} {ls : Array Slot} (hdg : decode code pc = .ok (.ireturn, 1)) : W p l e room_1 s m #[Value.ref b] below meth c H [] 601024 7293034 (lw_Z below #[Value.ref b] s) (F0 m pc ls [.int 1]) := by
  intro T hT X
  obtain ⟨fs, hret, hrun, hended, hW, hframe⟩ := X.leave (v := some (.int 1)) (hlocks := hlocks) (fun h => by rw [hr] at h; cases h)
  have hmeth' : T.vm.method? m = some meth := X.method'
  refine ⟨T.setFrames fs, ?_, .returned (some (.int 1)), hrun, hended, rfl, ⟨_, rfl⟩, hW, hframe⟩
  jvm_step X.here [X.here.top, hx, hb, hdg, hmeth', hr, ret, narrow_b1]
  (try refine ⟨rfl, ?_⟩); (try refine ⟨rfl, ?_⟩)
  first | (intro acts; rw [hret _ acts rfl rfl rfl]) | rw [hret _ _ rfl rfl rfl]
  exact Steps.refl _
/-- what holds at the law's entry: the machine, the code, the tables' words (any of lw_tbl by 'hts w (by decide +kernel)'), the script of L ints xs at the cell b, what the Statement gives of the start (any of its parts by flat_of_before) -/
def lw_At (p : Program) (s : State) (m : MethodId) (meth : Method) (c : Code) (b L : Nat) (xs : Nat → Int32) : Prop :=
  p.tables.exec = Jvm.exec ∧ c.code = code ∧ meth.sig.returnType = ret ∧ c.maxLocals = 7 ∧ s.vm.findClass R_law = some m.cls ∧ (∀ w ∈ lw_tbl, w.before #[Value.ref b] s = true) ∧ va_X b L xs s s.heap ∧ b < s.heap.size ∧ meth.locks = false ∧ (Jvm.Cond.and given_1 narrow_1).before #[Value.ref b] s = true
/-! the first heap; the law's loop -/
def tf_A0 : tb_H := (fun o k => if o = 0 ∧ k = 12 then -1 else if o = 77 ∧ k = 10 then -1 else 0, fun _ _ => 0, fun o k => if o = 0 ∧ k = 8 then 48 else if o = 4 ∧ k = 1 then 11 else if o = 38 ∧ k = 0 then 39 else if o = 38 ∧ k = 1 then 40 else if o = 42 ∧ k = 4 then 46 else if o = 42 ∧ k = 5 then 47 else 0)
theorem tf_rel0 : tb_Rel tf_A0 := by
  refine ⟨⟨⟨by decide, by decide⟩, by decide, by decide, fun h => absurd h (by decide)⟩, ⟨by decide, by decide, fun k a b => ?_⟩, Or.inl ⟨by decide, by decide⟩, fun h => absurd h (by decide), fun _ => ⟨fun k a b => ?_, by decide, by decide, by decide, by decide, by decide⟩, ⟨by decide, by decide, fun k a b => ?_⟩, tb_RA.z (by decide) (by decide) (by decide), ⟨by decide, by decide, fun k a b => ?_⟩, Or.inl ⟨by decide, by decide⟩, Or.inl ⟨by decide, by decide⟩⟩
  · exact absurd (show k < 0 from b) (by omega)
  · show tf_A0.1 (tf_A0.2.2 4 1 + 1) k = 0
    rw [show tf_A0.2.2 4 1 = 11 by decide]
    rfl
  · exact absurd (show k < 0 from b) (by omega)
  · exact absurd (show k < 0 from b) (by omega)
theorem tf_fl {l : Launch} (h : l.flags = flags0) : l.stackTraces = false := by
  unfold Launch.stackTraces
  rw [h]
  decide +kernel
theorem tf_lfi (g : Int → Int) (N x : Int) : ∀ (n : Nat) (x2 x3 : Int), 0 ≤ x3 → -1 ≤ tf_lf g N x n x2 x3 ∧ tf_lf g N x n x2 x3 ≤ x3 + n
  | 0, x2, x3, h => by rw [tf_lf]; omega
  | n + 1, x2, x3, h => by
    have h1 := tf_lfi g N x n (x2 + 1) (x3 + 1) (by omega)
    have h2 := tf_lfi g N x n x2 (x3 + 1) (by omega)
    rw [tf_lf]
    split
    · omega
    · split
      · split
        · omega
        · omega
      · omega
theorem tf_lri (A : tb_H) (x : Int) : tb_inI (tf_lr A x) := by
  unfold tf_lr tb_inI
  split
  · omega
  · have h := tf_lfi (tf_g A) (A.1 80 113) x 7 0 0 (by omega)
    omega
theorem tf_by323 : tb_by 323 = code := rfl
theorem tf_mx323 : tb_mx 323 = 7 := by decide +kernel
theorem tf_ow323 : tb_ow (tb_oi 323) = "TurtleBackLaw" := by decide +kernel
theorem tf_rk323 : tb_rk 323 ≤ 14 ∧ 39 * tb_rk 323 ≤ 522 := by decide +kernel
theorem tf_l1303 : decode (tb_by 323) 1303 = .ok (.invokestatic 180, 3) := by decide +kernel
theorem tf_l1389 : decode (tb_by 323) 1389 = .ok (.iinc 4 6, 3) := by decide +kernel
theorem tf_l1392 : decode (tb_by 323) 1392 = .ok (.goto (-1369), 3) := by decide +kernel
theorem tf_l1396 : decode code 1396 = .ok (.ireturn, 1) := by decide +kernel
def tf_LV (i : Nat) (v5 v6 : tb_V) : List tb_V := [tb_r 183, tb_r 0, tb_r 77, tb_r 101, tb_i (i : Int), v5, v6]
set_option maxHeartbeats 4000000 in
set_option maxRecDepth 100000 in
theorem tf_loop {p : Program} {l : Launch} {e : Env} {s : State} {m : MethodId} {below : List Frame} {meth : Method} {c : Code} {b : Nat} {X : tb_X} {ρ : Nat → Nat} {fm : Value} {D : va_G} {cT : Nat → ClassId} {cS : ClassId} {n0 : Nat}
    (hfl : l.stackTraces = false) (C : tb_Std X ρ fm D cT cS n0 323 p room_1 s m #[Value.ref b] c) (hT : tf_T n0 s s.heap) (hr : meth.sig.returnType = ret) (hlocks : meth.locks = false) (hn0 : n0 = s.heap.size) (hX6 : X.2 ≤ 3072) :
    ∀ (n i : Nat), X.2 ≤ i + n → i ≤ X.2 + 6 → ∀ (A : tb_H) (v5 v6 : tb_V) (H : Heap) (locs : List Loc) (cells slots : Nat) (ls : Array Slot), tb_Rel A → tb_Dy ρ fm D cT cS n0 323 s H locs ls (tf_LV i v5 v6) [] A → cells ≤ 102 + i → slots ≤ 92354 + i → W p l e room_1 s m #[Value.ref b] below meth c H locs cells slots (lw_Z below #[Value.ref b] s) (F0 m 23 ls []) := by
  intro n
  induction n with
  | zero =>
    intro i hi hi6 A v5 v6 H locs cells slots ls hrel Y hc hs
    have hcs : cells ≤ room_1.cells ∧ slots ≤ room_1.slots := ⟨by show cells ≤ 601024; omega, by show slots ≤ 7293034; omega⟩
    obtain ⟨n, a, b2, r, d, hr0, ha, hst⟩ := tf_exit (X := X) (A := A) (v5 := v5) (v6 := v6) (Q := fun pc _ st _ => pc = 1396 ∧ st = [tb_i 1]) (x4 := (i : Int)) (by omega) (by omega) hX6 ⟨rfl, rfl⟩
    subst ha
    subst hst
    refine tb_sims l X ρ fm D cT cS n0 n 323 23 _ [] A 1396 b2 [tb_i 1] d hr0 p e _ s m _ below meth c H locs cells slots _ ls C Y hcs (fun H1 locs1 ls1 Y1 => ?_)
    refine va_forget (fun q hq => by rw [← hn0]; exact Y1.2.1.2.2 q hq) ?_
    refine W.widen (k := 601024) (n := 7293034) hcs.1 hcs.2 ?_
    exact lw_ret C.1 C.2.1 hr hlocks tf_l1396
  | succ n ih =>
    intro i hi hi6 A v5 v6 H locs cells slots ls hrel Y hc hs
    have hcs : cells ≤ room_1.cells ∧ slots ≤ room_1.slots := ⟨by show cells ≤ 601024; omega, by show slots ≤ 7293034; omega⟩
    by_cases hx6 : (X.2 : Int) < (i : Int) + 6
    · obtain ⟨n, a, b2, r, d, hr0, ha, hst⟩ := tf_exit (X := X) (A := A) (v5 := v5) (v6 := v6) (Q := fun pc _ st _ => pc = 1396 ∧ st = [tb_i 1]) (x4 := (i : Int)) (by omega) hx6 hX6 ⟨rfl, rfl⟩
      subst ha
      subst hst
      refine tb_sims l X ρ fm D cT cS n0 n 323 23 _ [] A 1396 b2 [tb_i 1] d hr0 p e _ s m _ below meth c H locs cells slots _ ls C Y hcs (fun H1 locs1 ls1 Y1 => ?_)
      refine va_forget (fun q hq => by rw [← hn0]; exact Y1.2.1.2.2 q hq) ?_
      refine W.widen (k := 601024) (n := 7293034) hcs.1 hcs.2 ?_
      exact lw_ret C.1 C.2.1 hr hlocks tf_l1396
    · -- the stop at 1389
      have step : ∀ (A1 : tb_H) (w5 w6 : tb_V) (H1 : Heap) (locs1 : List Loc) (cells1 slots1 : Nat) (ls1 : Array Slot), tb_Rel A1 → tb_Dy ρ fm D cT cS n0 323 s H1 locs1 ls1 (tf_LV i w5 w6) [] A1 → cells1 ≤ 102 + (i + 6) → slots1 ≤ 92354 + (i + 6) → W p l e room_1 s m #[Value.ref b] below meth c H1 locs1 cells1 slots1 (lw_Z below #[Value.ref b] s) (F0 m 1389 ls1 []) := by
        intro A1 w5 w6 H1 locs1 cells1 slots1 ls1 hrel1 Y1 hc1 hs1
        have hs5 : tb_step tb_P X (5, 4, 0, 6, [], 1389 + 3) (tf_LV i w5 w6) [] A1 = some (1392, tf_LV (i + 6) w5 w6, [], A1) := by
          have hw : tb_w ((i : Int) + 6) = ((i + 6 : Nat) : Int) := (tb_w_id (by omega) (by omega)).trans (by omega)
          show (match tb_set (tf_LV i w5 w6) 4 (tb_i (tb_w ((i : Int) + 6))) with | some lv' => some (1389 + 3, lv', ([] : List tb_V), A1) | none => none) = _
          rw [hw]
          rfl
        refine tb_c_iinc (st := []) (st' := []) C Y1 tf_l1389 hs5 (fun H2 locs2 ls2 Y2 => ?_)
        refine tb_c_goto (a := 23) (b := 0) (z := 0) (l0 := []) (nx := 0) (st := []) (st' := []) (pc := 1392) C Y2 (by decide) tf_l1392 rfl (fun H3 locs3 ls3 Y3 => ?_)
        exact ih (i + 6) (by omega) (by omega) A1 w5 w6 H3 locs3 cells1 slots1 ls3 hrel1 Y3 hc1 hs1
      obtain ⟨n9, a, b2, r, d, hr0, hQ⟩ := tf_iter (X := X) (A := A) (v5 := v5) (v6 := v6) (Q := fun pc lv st A1 => (pc = 1389 ∧ st = [] ∧ lv = tf_LV i v5 v6 ∧ tb_Rel A1) ∨ (pc = 1303 ∧ st = [tb_r 101, tb_i (X.1 ((i : Int) + 1)), tb_r 0] ∧ lv = tf_LV i v5 v6 ∧ A1 = A)) (x4 := (i : Int)) hrel (by omega) (by omega) hX6 (fun A1 h1 => Or.inl ⟨rfl, rfl, rfl, h1⟩) (Or.inr ⟨rfl, rfl, rfl, rfl⟩)
      refine tb_sims l X ρ fm D cT cS n0 n9 323 23 _ [] A a b2 r d hr0 p e _ s m _ below meth c H locs cells slots _ ls C Y hcs (fun H1 locs1 ls1 Y1 => ?_)
      rcases hQ with ⟨rfl, rfl, rfl, h1⟩ | ⟨rfl, rfl, rfl, rfl⟩
      · exact step d v5 v6 H1 locs1 cells slots ls1 h1 Y1 (by omega) (by omega)
      · have C' := C
        obtain ⟨hx, hb, hml, hown, htg, hK, hC, hfm, hR, hX, hXl, -, -, -⟩ := C'
        rw [tf_ow323] at hown
        have hxin : tb_inI (X.1 ((i : Int) + 1)) := hX _
        have hrun : tb_E X 196 0 [tb_r 0, tb_i (X.1 ((i : Int) + 1)), tb_s 1] [] d (fun pc _ r A1 => A1 = d ∧ ((pc = 25 ∧ r = [] ∧ tf_lr d (X.1 ((i : Int) + 1)) = -1) ∨ (pc = 34 ∧ r = [tb_i (tf_lr d (X.1 ((i : Int) + 1)))] ∧ tf_lr d (X.1 ((i : Int) + 1)) ≠ -1))) := tf_196 hrel (fun c1 => ⟨rfl, Or.inr ⟨rfl, rfl, c1⟩⟩) (fun c1 => ⟨rfl, Or.inl ⟨rfl, rfl, c1⟩⟩)
        have hM := tf_lawled (l := l) (D := D) (cT := cT) (cS := cS) hfl hfm hR hX hXl Y1.2.2.2.2.2.2.1 Y1.2.2.2.2.2.2.2 hxin (tf_lri d _) hrun
        have hwl : ∀ w ∈ tf_wl2, w ∈ tb_gt := tb_subg_in tf_wl2_in
        have hG : GoodIn tb_gt (va_wsS "TurtleBackLaw" 180 tf_yL (Cond.codeWith tf_yL method_3_code 4 (some .int) [(0, 9, 12, 13)] :: tb_gt)) := tb_good (by
          intro w h
          unfold va_wsS at h
          simp only [List.mem_append, List.mem_cons, List.not_mem_nil, or_false] at h
          rcases h with (rfl | rfl | rfl) | rfl | h
          · exact hwl _ (List.mem_of_getElem? (i := 3) rfl)
          · exact hwl _ (List.mem_of_getElem? (i := 4) rfl)
          · exact hwl _ (List.mem_of_getElem? (i := 0) rfl)
          · exact hwl _ (List.mem_of_getElem? (i := 5) rfl)
          · exact h)
        refine vx_calli (vx_runSX (As := [.ref (ρ 0), .int (Int32.ofInt (X.1 ((i : Int) + 1))), .ref (ρ 101)]) (rest := []) (Ts := tb_gt) ⟨hx, hb, hml, hown, htg⟩ hM (vx_cwSW (ws' := tb_gt) 3 htg hG rfl rfl rfl ⟨by decide, by decide, by decide +kernel⟩ ⟨Nat.le_of_ble_eq_true rfl, Nat.le_of_ble_eq_true rfl⟩) ⟨tf_blind, fun U hU hW => ⟨tb_pre C Y1 [tb_r 0, tb_i (X.1 ((i : Int) + 1)), tb_r 101] U hU hW, by rw [hU]; exact hT.go hW (fun a h1 h2 => Y1.2.1.2.1 a h1 h2)⟩⟩ rfl rfl Y1.2.2.1.1 rfl (lv_room (Nat.le_of_ble_eq_true rfl)) tf_l1303 ⟨by show cells + 1 ≤ 601024; omega, by show slots + 6 ≤ 7293034; omega⟩) Y1.2.1 (fun q _ h => h) (fun q h => h) (fun q _ h => h) (fun E ce q9 u t H2 locs2 ht hvm hpx _ _ _ _ _ _ _ => absurd hpx id) (fun r u t H2 locs2 ht hvm hpost hB hz1 hk1 hS2 => ?_)
        have hpost : r = Int32.ofInt (if tf_lr d (X.1 ((i : Int) + 1)) = -1 then 1 else 0) := hpost
        subst hpost
        have hP2 : va_P D tb_cl (tb_ws ρ cT cS (if tf_lr d (X.1 ((i : Int) + 1)) = -1 then d else tb_upL d 101 0 (tf_lr d (X.1 ((i : Int) + 1))))) H2 := by rw [← ht]; exact hB
        have hA1 : ∀ o k, tb_inI ((if tf_lr d (X.1 ((i : Int) + 1)) = -1 then d else tb_upL d 101 0 (tf_lr d (X.1 ((i : Int) + 1)))).1 o k) := by
          intro o k
          split
          · exact Y1.2.2.2.2.2.2.1 o k
          · exact Y1.2.2.2.2.2.2.1 o k
        have hA2 : ∀ o k, tb_inL ((if tf_lr d (X.1 ((i : Int) + 1)) = -1 then d else tb_upL d 101 0 (tf_lr d (X.1 ((i : Int) + 1)))).2.1 o k) := by
          intro o k
          split
          · exact Y1.2.2.2.2.2.2.2 o k
          · rw [tb_uL2]
            split
            · have h9 := tf_lri d (X.1 ((i : Int) + 1))
              unfold tb_inI at h9
              unfold tb_inL
              omega
            · exact Y1.2.2.2.2.2.2.2 o k
        have Y2 : tb_Dy ρ fm D cT cS n0 323 s H2 locs2 ls1 (tf_LV i v5 v6) [tb_i (if tf_lr d (X.1 ((i : Int) + 1)) = -1 then 1 else 0)] (if tf_lr d (X.1 ((i : Int) + 1)) = -1 then d else tb_upL d 101 0 (tf_lr d (X.1 ((i : Int) + 1)))) := by
          refine ⟨hP2, hS2, Y1.2.2.1, Y1.2.2.2.1, Y1.2.2.2.2.1, fun v hv => ?_, hA1, hA2⟩
          rw [List.mem_singleton.mp hv]
          show tb_inI _
          unfold tb_inI
          split <;> omega
        have hcs2 : cells + 1 ≤ room_1.cells ∧ slots + 6 ≤ room_1.slots := ⟨by show cells + 1 ≤ 601024; omega, by show slots + 6 ≤ 7293034; omega⟩
        obtain ⟨n8, a2, b3, r2, d2, hr2, h3, h4, h5, w5, w6, h6⟩ := tf_back (X := X) (A := d) (v5 := v5) (v6 := v6) (Q := fun pc lv st A1 => pc = 1389 ∧ st = [] ∧ tb_Rel A1 ∧ ∃ w5 w6, lv = tf_LV i w5 w6) (x4 := (i : Int)) hrel (by omega) (by omega) hX6 (fun A2 k v h9 => ⟨rfl, rfl, h9, tb_i k, tb_i v, rfl⟩)
        subst h3
        subst h4
        subst h6
        refine tb_sims l X ρ fm D cT cS n0 n8 323 1306 _ _ _ 1389 _ [] d2 hr2 p e _ s m _ below meth c H2 locs2 (cells + 1) (slots + 6) _ ls1 C Y2 hcs2 (fun H3 locs3 ls3 Y3 => ?_)
        exact step d2 w5 w6 H3 locs3 (cells + 1) (slots + 6) ls3 h5 Y3 (by omega) (by omega)
