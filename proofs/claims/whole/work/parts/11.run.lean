/-! calls: a method's contract out of its run -/
theorem tb_run_end {P : tb_T} {X : tb_X} : ∀ (n y pc : Nat) (lv st : List tb_V) (A : tb_H) (a : Nat) (b r : List tb_V) (d : tb_H), tb_run P X n y pc lv st A = some (a, b, r, d) → ∃ o, P.1 y a = some o ∧ tb_isst o.1 = true ∧ tb_stop o r = true
  | 0, _, _, _, _, _, _, _, _, _, h => by simp [tb_run] at h
  | n + 1, y, pc, lv, st, A, a, b, r, d, h => by
    rw [tb_run] at h
    cases ho : P.1 y pc with
    | none => rw [ho] at h; cases h
    | some o =>
      rw [ho] at h
      dsimp only at h
      by_cases h1 : tb_isst o.1 = true
      · rw [if_pos h1] at h
        by_cases h2 : tb_stop o st = true
        · rw [if_pos h2] at h
          cases h
          exact ⟨o, ho, h1, h2⟩
        · rw [if_neg h2] at h; cases h
      · rw [if_neg h1] at h
        by_cases h2 : o.1 = 40 ∨ o.1 = 41
        · rw [if_pos h2] at h
          by_cases h3 : tb_cok P o st = true
          · rw [if_pos h3] at h
            split at h
            · split at h
              · exact tb_run_end n _ _ _ _ _ _ _ _ _ h
              · cases h
            · cases h
          · rw [if_neg h3] at h; cases h
        · rw [if_neg h2] at h
          split at h
          · exact tb_run_end n _ _ _ _ _ _ _ _ _ h
          · cases h
theorem tb_stop_len {o : tb_O} {r : List tb_V} (h : tb_stop o r = true) (ht : o.1 ≠ 44) : r = [] ∨ ∃ v, r = [v] := by
  obtain ⟨tag, a, b, z, l, nx⟩ := o
  unfold tb_stop at h
  dsimp only at h ht
  split at h
  · exact Or.inl rfl
  · exact Or.inr ⟨_, rfl⟩
  · exact Or.inr ⟨_, rfl⟩
  · exact Or.inr ⟨_, rfl⟩
  · exact Or.inr ⟨_, rfl⟩
  · exact absurd rfl ht
  · cases h
def tb_wds (z : Nat) : List Cond := Cond.code (tb_nm z) (tb_by z) (tb_mx z) (tb_rt z) :: tb_gt
def tb_rm (z : Nat) : Room := { frames := tb_rk z, cells := 0, slots := 0, locals := 39 * tb_rk z }
def tb_Pc (X : tb_X) (ρ : Nat → Nat) (fm : Value) (D : va_G) (cT : Nat → ClassId) (cS : ClassId) (n0 : Nat) (as : List tb_V) (A : tb_H) : Array Value → State → Prop := va_Pc (as.map (tb_cv ρ fm)) (fun U => va_P D tb_cl (tb_ws ρ cT cS A) U.heap ∧ va_K D tb_cl (tb_tys cT cS) U ∧ tb_Cst X ρ fm n0 U U.heap)
def tb_rng (r : List tb_V) (A1 : tb_H) : Prop := (∀ v ∈ r, tb_ok v) ∧ (∀ o k, tb_inI (A1.1 o k)) ∧ (∀ o k, tb_inL (A1.2.1 o k))
def tb_Qc (ρ : Nat → Nat) (fm : Value) (D : va_G) (cT : Nat → ClassId) (cS : ClassId) (n0 : Nat) (r : List tb_V) (A1 : tb_H) : Array Value → State → Outcome → State → Prop := fun _ st oc t => (oc = .returned ((r.head?).map (tb_cv ρ fm)) ∧ va_P D tb_cl (tb_ws ρ cT cS A1) t.heap ∧ tb_rng r A1) ∧ va_F (fun q => n0 ≤ q) st t
section TBRUN
variable {p : Program} {l : Launch} {e : Env} {R : Room} {s : State} {m : MethodId} {args : Array Value} {below : List Frame} {meth : Method} {c : Code} {H : Heap} {locs : List Loc} {cells slots : Nat} {Q : State → Prop}
variable {X : tb_X} {ρ : Nat → Nat} {fm : Value} {D : va_G} {cT : Nat → ClassId} {cS : ClassId} {n0 y : Nat} {pc : Nat} {ls : Array Slot} {lv st : List tb_V} {A : tb_H}
theorem tb_call {st0 rest : List Value} {a : Array Value} {r : List tb_V} {A1 : tb_H} (hr : va_Run p l e R s m args below meth c H locs cells slots 0 0 (F0 m pc ls st0) rest (tb_Qc ρ fm D cT cS n0 r A1 a) (fun q => n0 ≤ q)) (hS : va_S (fun q => n0 ≤ q) s.heap H locs)
    (kk : ∀ (H1 : Heap) (locs1 : List Loc), va_P D tb_cl (tb_ws ρ cT cS A1) H1 → tb_rng r A1 → va_S (fun q => n0 ≤ q) s.heap H1 locs1 → W p l e R s m args below meth c H1 locs1 cells slots Q (F0 m (pc + 3) ls (((r.head?).map (tb_cv ρ fm)).toList ++ rest))) : W p l e R s m args below meth c H locs cells slots Q (F0 m pc ls st0) := by
  intro T hT X0
  obtain ⟨v, st₀, t, T', L, h0, X', hL, e1, e2, ⟨⟨hv, hP, hrng⟩, hz, hk⟩, stp⟩ := hr T hT X0
  cases hv
  rw [h0] at hz hk
  obtain ⟨t2, a1, b1⟩ := kk T'.heap (locs ++ L) (by rw [e1]; exact hP) hrng
    ⟨Nat.le_trans hS.1 (by rw [e1]; exact hz), fun q h1 h2 => by rw [e1, hk q (Nat.lt_of_lt_of_le h1 hS.1) h2]; exact hS.2.1 q h1 h2, fun q hq => by
      rcases List.mem_append.mp hq with h | h
      · exact hS.2.2 q h
      · exact hL q h⟩ T' rfl X'
  exact ⟨t2, stp t2 a1, b1⟩
/-- the run as a statement, for an induction on its fuel -/
def tb_Sim (l : Launch) (X : tb_X) (ρ : Nat → Nat) (fm : Value) (D : va_G) (cT : Nat → ClassId) (cS : ClassId) (n0 : Nat) (n : Nat) : Prop :=
  ∀ (y pc : Nat) (lv st : List tb_V) (A : tb_H) (a : Nat) (b r : List tb_V) (d : tb_H), tb_run tb_P X n y pc lv st A = some (a, b, r, d) →
  ∀ (p : Program) (e : Env) (R : Room) (s : State) (m : MethodId) (args : Array Value) (below : List Frame) (meth : Method) (c : Code) (H : Heap) (locs : List Loc) (cells slots : Nat) (Q : State → Prop) (ls : Array Slot),
    tb_Std X ρ fm D cT cS n0 y p R s m args c → tb_Dy ρ fm D cT cS n0 y s H locs ls lv st A → (cells ≤ R.cells ∧ slots ≤ R.slots) → tb_G p l e R s m args below meth c cells slots Q ρ fm D cT cS n0 y a b r d → W p l e R s m args below meth c H locs cells slots Q (F0 m pc ls (st.map (tb_cv ρ fm)))
theorem tb_mok_of {z : Nat} (hz : z < 323) : tb_mok z = true := List.all_eq_true.mp tb_mok_all z (List.mem_range.mpr hz)
set_option maxHeartbeats 2000000 in
theorem tb_met {n z : Nat} (hz : z < 323) (hS : tb_Sim l X ρ fm D cT cS n0 n) (hfm : fm = .null ∨ ∃ a, fm = .ref a) (hR : tb_Rho ρ n0) (hX : ∀ i, tb_inI (X.1 i)) (hXl : X.2 < 2147483648) (hrk : 1 ≤ tb_rk z) {as : List tb_V} {a : Nat} {b r : List tb_V} {A1 : tb_H} (has : (as.map tb_cat).sum ≤ tb_mx z) (hok : ∀ v ∈ as, tb_ok v) (hA1 : ∀ o k, tb_inI (A.1 o k)) (hA2 : ∀ o k, tb_inL (A.2.1 o k))
    (hrun : tb_run tb_P X n z 0 (tb_entry (tb_mx z) as) [] A = some (a, b, r, A1)) (hre : tb_isre tb_P z a = true) :
    Met l (tb_nm z) (tb_wds z) (tb_rm z) (tb_Pc X ρ fm D cT cS n0 as A) (tb_Qc ρ fm D cT cS n0 r A1) 0 0 (fun q => n0 ≤ q) := by
  have hm := tb_mok_of hz
  simp only [tb_mok, Bool.and_eq_true, decide_eq_true_eq] at hm
  obtain ⟨⟨⟨⟨⟨⟨⟨⟨hcls, hpl⟩, -⟩, -⟩, -⟩, hmx⟩, -⟩, -⟩, -⟩ := hm
  refine Met.ofW (cc := tb_by z) (maxL := tb_mx z) (ret := tb_rt z) hpl rfl ?_
  intro p e s m args below meth c s₁ B hml hv
  obtain ⟨rfl, hP, hK, hC⟩ := hv
  have hts := atoms_spec (ws := tb_wds z) B.pre
  have hown : s.vm.findClass (tb_ow (tb_oi z)) = some m.cls := by rw [← hcls]; exact findClass_of_methodNamed B.named
  have hlocks := B.notSynchronized
  have hr := B.returns
  have hE := tb_entry_has (ρ := ρ) hfm as has
  have hStd : tb_Std X ρ fm D cT cS n0 z p (headSpec (tb_wds z) (tb_rm z)).room s m (as.map (tb_cv ρ fm)).toArray c :=
    ⟨B.exec, B.bytes, hml, hown, fun w hw => hts w (List.mem_cons_of_mem _ hw), hK, hC, hfm, hR, hX, hXl, Nat.le_refl _, Nat.le_refl _, hrk⟩
  rw [lg_entry_eq]
  refine hS z 0 (tb_entry (tb_mx z) as) [] A a b r A1 hrun p e _ s m _ below meth c s.heap [] 0 0 _ _ hStd ⟨hP, va_S.rf, hE.1, hE.2, ?_, fun v hv => absurd hv List.not_mem_nil, hA1, hA2⟩ ⟨Nat.zero_le _, Nat.zero_le _⟩ ?_
  · intro v hv
    unfold tb_entry at hv
    rcases List.mem_append.mp hv with h | h
    · obtain ⟨u, hu, hv2⟩ := List.mem_flatMap.mp h
      have hou := hok u hu
      rcases u with x | x | x | x
      · rw [List.mem_singleton.mp hv2]; exact hou
      · rcases List.mem_cons.mp hv2 with rfl | hv2
        · exact hou
        · rw [List.mem_singleton.mp hv2]; trivial
      · rw [List.mem_singleton.mp hv2]; trivial
      · rw [List.mem_singleton.mp hv2]; trivial
    · rw [List.mem_replicate] at h
      rw [h.2]
      trivial
  · intro H1 locs1 ls1 Y
    obtain ⟨o, ho, h1, h2⟩ := tb_run_end _ _ _ _ _ _ _ _ _ _ hrun
    have ho' : tb_at z a = some o := ho
    obtain ⟨ins, len, hdg, hck⟩ := tb_ckd ho'
    obtain ⟨tag, a0, b0, z0, l0, nx⟩ := o
    have hY := Y.2.1
    have hQ : ∀ t : State, t.heap = H1 → tb_Qc ρ fm D cT cS n0 r A1 (as.map (tb_cv ρ fm)).toArray s (.returned ((r.head?).map (tb_cv ρ fm))) t := fun t ht => ⟨⟨rfl, by rw [ht]; exact Y.1, Y.2.2.2.2.2.1, Y.2.2.2.2.2.2.1, Y.2.2.2.2.2.2.2⟩, hY.F ht⟩
    have hx := B.exec
    have hb := B.bytes
    simp only [tb_ck1, Bool.or_eq_true, beq_iff_eq] at hck
    have h44 : tag ≠ 44 := by
      intro h
      subst h
      unfold tb_isre at hre
      have : tb_P.1 z a = some (44, a0, b0, z0, l0, nx) := ho
      rw [this] at hre
      simp at hre
    rcases hck with h | hck
    · exact absurd h h44
    rw [Bool.and_eq_true, decide_eq_true_eq] at hck
    obtain ⟨-, hck⟩ := hck
    have htag : tag = 30 ∨ tag = 31 ∨ tag = 32 ∨ tag = 33 := by
      simp only [tb_isst, Bool.or_eq_true, beq_iff_eq] at h1
      omega
    split at hck <;> (try simp only [Bool.and_eq_true, Bool.or_eq_true, beq_iff_eq, decide_eq_true_eq] at hck) <;> (try (exfalso; omega)) <;> (try (cases hck; done))
    · -- return
      obtain ⟨⟨rfl, rfl⟩, hrt⟩ := hck
      unfold tb_stop at h2
      dsimp only at h2
      rcases r with _ | ⟨v, r⟩
      · rw [hrt] at hr
        exact W.vret hx hb hr (fun t ht _ => hQ t ht) hY.2.2 hdg
      · cases h2
    · -- ireturn
      obtain ⟨⟨⟨rfl, rfl⟩, hrt⟩, ha0⟩ := hck
      rw [hrt] at hr
      match r, h2, Y, hQ with
      | [.inl x], h2, Y, hQ =>
        have hox : tb_inI x := Y.oks _ List.mem_cons_self
        have hn : narrow (tb_ty a0) (.int (Int32.ofInt x)) = .int (Int32.ofInt x) := by
          unfold tb_stop at h2
          simp only [Bool.or_eq_true, Bool.and_eq_true, beq_iff_eq, decide_eq_true_eq] at h2
          rcases h2 with ((rfl | ⟨rfl, hx01⟩) | ⟨⟨rfl, hb1⟩, hb2⟩) | ⟨⟨rfl, hc1⟩, hc2⟩
          · rfl
          · rcases hx01 with rfl | rfl <;> rfl
          · have e1 := tb_i2b x
            have e2 : tb_b8 x = x := by unfold tb_b8; omega
            rw [e2] at e1
            show Value.int ((Int32.ofInt x).toInt8.toInt32) = _
            rw [e1]
          · have e1 := tb_i2c x
            have e2 : x % 65536 = x := by omega
            rw [e2] at e1
            have e3 : narrow (tb_ty 5) (.int (Int32.ofInt x)) = .int ((Int32.ofInt x).toUInt32 % 65536).toInt32 := rfl
            rw [e3, e1]
        exact W.zret hx hb hr hn (fun t ht _ => hQ t ht) hY.2.2 hdg
      | [], h2, _, _ => cases h2
      | .inl _ :: _ :: _, h2, _, _ => cases h2
      | .inr _ :: _, h2, _, _ => cases h2
    · -- lreturn
      obtain ⟨⟨rfl, rfl⟩, hrt⟩ := hck
      rw [hrt] at hr
      match r, h2, hQ with
      | [.inr (.inl x)], h2, hQ => exact W.lret hx hb hr (fun t ht _ => hQ t ht) hY.2.2 hdg
      | [], h2, _ => cases h2
      | .inl _ :: _, h2, _ => cases h2
      | .inr (.inl _) :: _ :: _, h2, _ => cases h2
      | .inr (.inr _) :: _, h2, _ => cases h2
    · -- areturn
      obtain ⟨⟨rfl, rfl⟩, hrt⟩ := hck
      have hrt2 : ∃ rt, tb_rt z = some rt ∧ ((∃ n, rt = .object n) ∨ ∃ t, rt = .array t) := by
        split at hrt
        · rename_i n' hq; exact ⟨_, hq, Or.inl ⟨_, rfl⟩⟩
        · rename_i n' hq; exact ⟨_, hq, Or.inr ⟨_, rfl⟩⟩
        · cases hrt
      obtain ⟨rt, q1, q2⟩ := hrt2
      rw [q1] at hr
      match r, h2, hQ with
      | [.inr (.inr (.inl x))], h2, hQ => exact W.aret hx hb hr q2 (Or.inr ⟨_, rfl⟩) (fun t ht _ => hQ t ht) hY.2.2 hdg
      | [.inr (.inr (.inr 0))], h2, hQ => exact W.aret hx hb hr q2 (Or.inl rfl) (fun t ht _ => hQ t ht) hY.2.2 hdg
      | [.inr (.inr (.inr (k + 1)))], h2, _ => cases h2
      | [], h2, _ => cases h2
      | .inl _ :: _, h2, _ => cases h2
      | .inr (.inl _) :: _, h2, _ => cases h2
      | .inr (.inr (.inl _)) :: _ :: _, h2, _ => cases h2
      | .inr (.inr (.inr 0)) :: _ :: _, h2, _ => cases h2
      | .inr (.inr (.inr (k + 1))) :: _ :: _, h2, _ => cases h2
end TBRUN
