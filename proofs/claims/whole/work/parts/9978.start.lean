/-! THE LAW FROM ITS ENTRY -/
theorem tf_insts : (List.range tb_cl.length).all (fun k => goodWord (Cond.instantiable (tb_ci k).1 (tb_ci k).2.2) && decide (Cond.instantiable (tb_ci k).1 (tb_ci k).2.2 ∈ lw_tbl)) = true := by decide +kernel
theorem tf_inst {k : Nat} (h : k < tb_cl.length) : Cond.instantiable (tb_ci k).1 (tb_ci k).2.2 ∈ tb_gt := by
  have h1 := List.all_eq_true.mp tf_insts k (List.mem_range.mpr h)
  simp only [Bool.and_eq_true, decide_eq_true_eq] at h1
  exact List.mem_filter.mpr ⟨h1.2, h1.1⟩
theorem tf_arrs : [FieldType.int, .boolean, .byte, .long].all (fun ty => goodWord (Cond.arrayClass ty) && decide (Cond.arrayClass ty ∈ lw_tbl)) = true := by decide +kernel
theorem tf_nls : tf_nl.all (fun q => decide (Cond.methodLinkNest q.1 q.2.1 q.2.2 "TurtleBack" ∈ lw_tbl)) = true := by decide +kernel
theorem tf_bls : tf_bl.all (fun w => decide (w ∈ lw_tbl)) = true := by decide +kernel
theorem tf_aos : Cond.arrayOver (.object "TurtleBack$State") ∈ lw_tbl := by decide +kernel
theorem tf_ts1 : Cond.laysStatic Bundle.tN "UNASSIGNED_STACK" Bundle.steD ∈ lw_tbl := by decide +kernel
theorem tf_ts2 : Cond.laysStatic Bundle.tN "SUPPRESSED_SENTINEL" Bundle.listD ∈ lw_tbl := by decide +kernel
theorem tf_ts3 : Cond.initialized Bundle.tN ∈ lw_tbl := by decide +kernel
theorem tf_f157 : (flatC (Jvm.Cond.and given_1 narrow_1))[157]? = some (.isRef (.static Bundle.tN "UNASSIGNED_STACK" Bundle.steD)) := by decide +kernel
theorem tf_f158 : (flatC (Jvm.Cond.and given_1 narrow_1))[158]? = some (.isRef (.static Bundle.tN "SUPPRESSED_SENTINEL" Bundle.listD)) := by decide +kernel
theorem tf_e0 : decode code 0 = .ok (.new 8, 3) := by decide +kernel
theorem tf_e3 : decode code 3 = .ok (.dup, 1) := by decide +kernel
theorem tf_e4 : decode code 4 = .ok (.invokespecial 15, 3) := by decide +kernel
theorem tf_e7 : decode code 7 = .ok (.astore_n 1, 1) := by decide +kernel
theorem tf_e8 : decode code 8 = .ok (.new 16, 3) := by decide +kernel
theorem tf_e11 : decode code 11 = .ok (.dup, 1) := by decide +kernel
theorem tf_e12 : decode code 12 = .ok (.invokespecial 18, 3) := by decide +kernel
theorem tf_e15 : decode code 15 = .ok (.astore_n 2, 1) := by decide +kernel
theorem tf_e16 : decode code 16 = .ok (.iconst 1, 1) := by decide +kernel
theorem tf_e17 : decode code 17 = .ok (.newarray .long, 2) := by decide +kernel
theorem tf_e19 : decode code 19 = .ok (.astore_n 3, 1) := by decide +kernel
theorem tf_e20 : decode code 20 = .ok (.iconst 0, 1) := by decide +kernel
theorem tf_e21 : decode code 21 = .ok (.istore 4, 2) := by decide +kernel
/-- where each object of the picture lies -/
def tf_ρ (q0 : Nat) (u0 : Nat → Nat) (q1 : Nat) (u1 : Nat → Nat) (q2 : Nat) (κ : Nat → Nat) (o : Nat) : Nat := if o < 102 then (if o = 0 then q0 else if o < 77 then u0 (o - 1) else if o = 77 then q1 else if o < 101 then u1 (o - 78) else q2) else κ o
def tf_V11 (cT : Nat → ClassId) (cS : ClassId) (h0 : Nat) (u : Nat → Nat) (g : Nat → Option Nat) : va_W := (h0, .inr (11, [.ref (u 0), .ref (u 3), .ref (u 15), .ref (u 16), .ref (u 20), .ref (u 31), .ref (u 37), .ref (u 41), .ref (u 47), .int 0, .int 0, .int 0, .int (-1), .int 0])) :: ((((((((((((tf_W6 cT (u 0) (fun i => u (i + 1)) ++ tf_W4 cT (u 3) (fun i => u (i + 4))) ++ [(u 15, .inl (cS, 4, .inr (.inr (.inr (.inr g)))))]) ++ tf_W0 cT (u 16) (fun i => u (i + 17))) ++ tf_W5 cT (u 20) (fun i => u (i + 21))) ++ tf_W3 cT (u 31) (fun i => u (i + 32))) ++ tf_W2 cT (u 37) (fun i => u (i + 38))) ++ tf_W9 cT (u 41) (fun i => u (i + 42))) ++ tf_W1 cT (u 47) (fun i => u (i + 48))) ++ tf_W10 cT (u 52) (fun i => u (i + 53))) ++ tf_W10 cT (u 58) (fun i => u (i + 59))) ++ tf_W10 cT (u 64) (fun i => u (i + 65))) ++ tf_W10 cT (u 70) (fun i => u (i + 71)))
theorem tf_v11 (cT : Nat → ClassId) (cS : ClassId) (q0 : Nat) (u0 : Nat → Nat) (q1 : Nat) (u1 : Nat → Nat) (q2 : Nat) (κ : Nat → Nat) : tf_W11 cT cS q0 u0 = tf_V11 cT cS q0 u0 (fun j => (([53, 59, 65, 71] : List Nat)[j]?).map (tf_ρ q0 u0 q1 u1 q2 κ)) := by
  have h : (fun j : Nat => (([53, 59, 65, 71] : List Nat)[j]?).map (tf_ρ q0 u0 q1 u1 q2 κ)) = (fun j : Nat => ([u0 52, u0 58, u0 64, u0 70] : List Nat)[j]?) := by
    funext j
    match j with
    | 0 => rfl
    | 1 => rfl
    | 2 => rfl
    | 3 => rfl
    | j + 4 => simp
  rw [h]
  rfl
set_option maxHeartbeats 16000000 in
set_option maxRecDepth 100000 in
theorem tf_world0 (cT : Nat → ClassId) (cS : ClassId) (q0 : Nat) (u0 : Nat → Nat) (q1 : Nat) (u1 : Nat → Nat) (q2 : Nat) (κ : Nat → Nat) : ((tf_V11 cT cS q0 u0 (fun j => (([53, 59, 65, 71] : List Nat)[j]?).map (tf_ρ q0 u0 q1 u1 q2 κ)) ++ tf_W12 cT q1 u1) ++ [(q2, (.inl (cT 3, 1, .inr (.inl (fun _ => 0))) : va_E))]) = tb_ws (tf_ρ q0 u0 q1 u1 q2 κ) cT cS tf_A0 := rfl
set_option maxHeartbeats 16000000 in
set_option maxRecDepth 100000 in
/-- THE LAW, from its entry -/
theorem whole_start {p : Program} {e : Env} {s : State} {m : MethodId} {below : List Frame} {meth : Method} {c : Code} (l : Launch) (hflags : l.flags = flags0) {b L : Nat} {xs : Nat → Int32} (hL : L ≤ 3072) (C0 : lw_At p s m meth c b L xs) : W p l e room_1 s m #[Value.ref b] below meth c s.heap [] 0 0 (lw_Z below #[Value.ref b] s) (entryFrame m ([Value.ref b] : List Value).toArray 7) := by
  obtain ⟨hx, hb, hr, hml, hown, hts, hX, hbl, hlocks, hgv⟩ := C0
  have htg : ∀ w ∈ tb_gt, w.before #[Value.ref b] s = true := fun w hw => hts w (List.mem_filter.mp hw).1
  have hfl := tf_fl hflags
  have hA : ∀ q : Nat, s.heap.size ≤ q → (fun q : Nat => s.heap.size ≤ q) q := fun _ h => h
  have hA0 : ∀ a : Nat, a < s.heap.size → ¬ s.heap.size ≤ a := fun a h => Nat.not_le.mpr h
  -- the classes
  obtain ⟨D, hKc⟩ : ∃ D : va_G, ∀ (k : Nat) (q : vw_C), tb_cl[k]? = some q → u_Kn s q.1 q.2.1 q.2.2 (D.1 k) (D.2 k) := by
    have h0 : ∀ k : Nat, ∃ d : ClassId × (Nat → Nat), ∀ q : vw_C, tb_cl[k]? = some q → u_Kn s q.1 q.2.1 q.2.2 d.1 d.2 := by
      intro k
      by_cases hk : k < tb_cl.length
      · obtain ⟨cC, iS, h⟩ := u_known (C := (tb_ci k).1) (T := (tb_ci k).2.1) (N := (tb_ci k).2.2) (n := (tb_ci k).2.2) htg (tb_clu hk) (htg _ (tf_inst hk))
        refine ⟨(cC, iS), fun q hq => ?_⟩
        rw [tb_ci_at hk] at hq
        cases hq
        exact h
      · exact ⟨(m.cls, fun _ => 0), fun q hq => by rw [List.getElem?_eq_none (by omega)] at hq; cases hq⟩
    obtain ⟨f, hf⟩ := Classical.axiomOfChoice h0
    exact ⟨(fun k => (f k).1, fun k => (f k).2), hf⟩
  have harr : ∀ ty : FieldType, ty ∈ [FieldType.int, .boolean, .byte, .long] → ∃ cA : ClassId, ArrOfT s cA ty ∧ s.vm.findClass ("[" ++ ty.toString) = some cA := by
    intro ty hty
    have h1 := List.all_eq_true.mp tf_arrs ty hty
    simp only [Bool.and_eq_true, decide_eq_true_eq] at h1
    obtain ⟨cA, kA, comp, g1, g2, g3⟩ := Cond.arrayClass_spec (args := #[Value.ref b]) (first := s) (o := none) (idx := []) (hts _ h1.2)
    exact ⟨cA, fun N z => ⟨(fun k h => by cases h), kA, g2, comp, g3⟩, g1⟩
  obtain ⟨cI, aI, fI⟩ := harr .int (by simp)
  obtain ⟨cZ, aZ, fZ⟩ := harr .boolean (by simp)
  obtain ⟨cB, aB, fB⟩ := harr .byte (by simp)
  obtain ⟨cJ, aJ, fJ⟩ := harr .long (by simp)
  have hAO : va_AO "TurtleBack$State" s := va_AO.of (A := #[]) (by exact hts _ tf_aos)
  obtain ⟨cS, aS, fS⟩ : ∃ cS : ClassId, ArrOfT s cS (.object "TurtleBack$State") ∧ va_RA s cS (.object "TurtleBack$State") := by
    obtain ⟨comp, cA, kA, g1, g2, g3, g4, g5⟩ := Cond.arrayOver_spec (args := #[Value.ref b]) (first := s) (o := none) (idx := []) (hts _ tf_aos)
    exact ⟨cA, fun N z => ⟨(fun k h => by cases h), kA, g3, comp, g4⟩, kA, comp, g3, g4, g1, g5⟩
  obtain ⟨cT, hcT⟩ : ∃ cT : Nat → ClassId, cT = fun t => if t = 0 then cI else if t = 1 then cZ else if t = 2 then cB else cJ := ⟨_, rfl⟩
  have hK : va_K D tb_cl (tb_tys cT cS) s := by
    refine ⟨hKc, fun k q hq => ?_⟩
    subst hcT
    match k, hq with
    | 0, hq => cases hq; exact ⟨aI, fI⟩
    | 1, hq => cases hq; exact ⟨aZ, fZ⟩
    | 2, hq => cases hq; exact ⟨aB, fB⟩
    | 3, hq => cases hq; exact ⟨aJ, fJ⟩
    | 4, hq => cases hq; exact ⟨aS, fS⟩
    | k + 5, hq => simp [tb_tys] at hq
  have hN : tf_N s := by
    refine ⟨fun q hq => ?_, hAO⟩
    have h1 := List.all_eq_true.mp tf_nls q hq
    simp only [decide_eq_true_eq] at h1
    exact va_Nw.of rfl (hts _ h1)
  have hT : tf_T s.heap.size s s.heap := by
    refine ⟨fun w hw => ?_, vx_Zqof (hts _ tf_ts1) (hts _ tf_ts3) (flat_of_before _ hgv _ (List.mem_of_getElem? tf_f157)) hA0, vx_Zqof (hts _ tf_ts2) (hts _ tf_ts3) (flat_of_before _ hgv _ (List.mem_of_getElem? tf_f158)) hA0⟩
    have h1 := List.all_eq_true.mp tf_bls w hw
    simp only [decide_eq_true_eq] at h1
    exact va_Nw.of (List.all_eq_true.mp tf_bo w hw) (hts _ h1)
  obtain ⟨κ, fm, hfm, hCst⟩ := tf_Cst hgv hts hX hbl
  -- the entry
  have hS : va_S (fun q : Nat => s.heap.size ≤ q) s.heap s.heap [] := va_S.rf
  have hP : va_P D tb_cl [] s.heap := fun k q h => by simp at h
  have hD : va_D (fun q : Nat => s.heap.size ≤ q) [] := ⟨fun i j p q h => by simp at h, fun k q h => by simp at h⟩
  have hl := lv_entry ([.ref b]) (n := 7) (Nat.le_of_ble_eq_true rfl)
  rw [lg_entry_eq]
  generalize (lg_sl ([.ref b]) ++ List.replicate (7 - (lg_sl ([.ref b])).length) Slot.unset).toArray = ls at hl ⊢
  have hl : lv_has ls 7 [(0, .ref b)] := hl
  refine tf_newI (own := "TurtleBackLaw") (i1 := 8) (i3 := 15) (rest := []) hx hb htg hml hown hK hA hl.1 hP hD hS (tf_c11 l D cT cS) ⟨by decide +kernel, by decide +kernel⟩ (by decide +kernel) ⟨tf_w137, tf_w139, tf_w141, tf_w143, tf_w145⟩ hN tf_w147 (Nat.le_of_ble_eq_true rfl) (Nat.le_of_ble_eq_true rfl) ⟨Nat.le_of_ble_eq_true rfl, Nat.le_of_ble_eq_true rfl⟩ (Nat.le_of_ble_eq_true rfl) tf_e0 tf_e3 tf_e4 (fun q0 u0 H locs hP hD hS => ?_)
  refine lv_astore_n (lv' := [(1, .ref q0), (0, .ref b)]) hx hb tf_e7 rfl hl (by decide) rfl (fun ls hl => ?_)
  refine tf_newI (own := "TurtleBackLaw") (i1 := 16) (i3 := 18) (rest := []) hx hb htg hml hown hK hA hl.1 hP hD hS (tf_c12 l D cT cS) ⟨by decide +kernel, by decide +kernel⟩ (by decide +kernel) ⟨tf_w138, tf_w140, tf_w142, tf_w144, tf_w146⟩ hN tf_w148 (Nat.le_of_ble_eq_true rfl) (Nat.le_of_ble_eq_true rfl) ⟨Nat.le_of_ble_eq_true rfl, Nat.le_of_ble_eq_true rfl⟩ (Nat.le_of_ble_eq_true rfl) tf_e8 tf_e11 tf_e12 (fun q1 u1 H locs hP hD hS => ?_)
  refine lv_astore_n (lv' := [(2, .ref q1), (1, .ref q0), (0, .ref b)]) hx hb tf_e15 rfl hl (by decide) rfl (fun ls hl => ?_)
  refine lv_iconst (v := 1) hx hb tf_e16 (by decide) ?_
  refine tf_new1 (ct := cT 3) (a0 := (1, .inr (.inl (fun _ => 0)))) (N := 1) hx hb (atype := .long) (htg _ tf_w10) rfl (by simp [tb_tys, newarray.typeOf]) (by intro C h; cases h) hK hP hD hS hA (fun _ => rfl) (by decide) (by decide +kernel) (Nat.le_of_ble_eq_true rfl) (Nat.le_of_ble_eq_true rfl) (Nat.le_of_ble_eq_true rfl) tf_e17 (fun q2 H hP hD hS => ?_)
  refine lv_astore_n (lv' := [(3, .ref q2), (2, .ref q1), (1, .ref q0), (0, .ref b)]) hx hb tf_e19 rfl hl (by decide) rfl (fun ls hl => ?_)
  refine lv_iconst (v := 0) hx hb tf_e20 (by decide) ?_
  refine lv_istore (lv' := [(4, .int 0), (3, .ref q2), (2, .ref q1), (1, .ref q0), (0, .ref b)]) hx hb tf_e21 hl (by decide) rfl (fun ls hl => ?_)
  -- the picture
  have hw : (([] ++ tf_W11 cT cS q0 u0) ++ tf_W12 cT q1 u1) ++ [(q2, (.inl (cT 3, 1, .inr (.inl (fun _ => 0))) : va_E))] = tb_ws (tf_ρ q0 u0 q1 u1 q2 κ) cT cS tf_A0 := by
    rw [List.nil_append, tf_v11 cT cS q0 u0 q1 u1 q2 κ]
    exact tf_world0 cT cS q0 u0 q1 u1 q2 κ
  rw [hw] at hP hD
  obtain ⟨ρ, hρ⟩ : ∃ ρ, ρ = tf_ρ q0 u0 q1 u1 q2 κ := ⟨_, rfl⟩
  have r0 : ρ 0 = q0 := by rw [hρ]; rfl
  have r77 : ρ 77 = q1 := by rw [hρ]; rfl
  have r101 : ρ 101 = q2 := by rw [hρ]; rfl
  rw [← hρ] at hP hD
  obtain ⟨hC, r183⟩ := hCst ρ (fun o ho => by rw [hρ]; unfold tf_ρ; rw [if_neg (by omega)])
  have hR : tb_Rho ρ s.heap.size := ⟨fun i j hi hj e => hD.1 i j _ _ (tb_ws_get hi) (tb_ws_get hj) e, fun i hi => hD.2 i _ (tb_ws_get hi)⟩
  have hStd : tb_Std (fun i => (xs i.toNat).toInt, L) ρ fm D cT cS s.heap.size 323 p room_1 s m #[Value.ref b] c :=
    ⟨hx, hb, by rw [tf_mx323]; exact hml, by rw [tf_ow323]; exact hown, htg, hK, hC, hfm, hR, fun i => tb_i32_in _, by show L < 2147483648; omega, tf_rk323.1, tf_rk323.2, tb_rk1 (by decide)⟩
  have hl2 : lv_has ls 7 [(0, .ref (ρ 183)), (1, .ref (ρ 0)), (2, .ref (ρ 77)), (3, .ref (ρ 101)), (4, .int (Int32.ofInt 0))] := by
    rw [r183, r0, r77, r101]
    exact lv_sub hl [4, 3, 2, 1, 0] rfl
  have Y : tb_Dy ρ fm D cT cS s.heap.size 323 s H locs ls (tf_LV 0 (tb_s 1) (tb_s 1)) [] tf_A0 := by
    refine ⟨hP, hS, by rw [tf_mx323]; exact hl2, by rw [tf_mx323]; rfl, fun v hv => ?_, fun v hv => absurd hv List.not_mem_nil, fun o k => ?_, fun o k => ?_⟩
    · unfold tf_LV at hv
      simp only [List.mem_cons, List.not_mem_nil, or_false] at hv
      rcases hv with rfl | rfl | rfl | rfl | rfl | rfl | rfl
      · trivial
      · trivial
      · trivial
      · trivial
      · exact ⟨by decide, by decide⟩
      · trivial
      · trivial
    · show tb_inI (if _ then -1 else if _ then -1 else 0)
      unfold tb_inI
      split
      · omega
      · split <;> omega
    · show tb_inL (0 : Int)
      exact ⟨by decide, by decide⟩
  exact tf_loop hfl hStd hT hr hlocks rfl hL L 0 (by show L ≤ 0 + L; omega) (by omega) tf_A0 (tb_s 1) (tb_s 1) H locs _ _ ls tf_rel0 Y (Nat.le_of_ble_eq_true rfl) (Nat.le_of_ble_eq_true rfl)
