/-! A RUN of the small machine is a run of the real one -/
section TBRUN
variable {p : Program} {l : Launch} {e : Env} {R : Room} {s : State} {m : MethodId} {args : Array Value} {below : List Frame} {meth : Method} {c : Code} {H : Heap} {locs : List Loc} {cells slots : Nat} {Q : State → Prop}
variable {X : tb_X} {ρ : Nat → Nat} {fm : Value} {D : va_G} {cT : Nat → ClassId} {cS : ClassId} {n0 y : Nat} {pc : Nat} {ls : Array Slot} {lv st : List tb_V} {A : tb_H}
set_option maxHeartbeats 4000000 in
theorem tb_sim_step (C : tb_Std X ρ fm D cT cS n0 y p R s m args c) (Y : tb_Dy ρ fm D cT cS n0 y s H locs ls lv st A) {o : tb_O} (ho : tb_at y pc = some o) (hcs : cells ≤ R.cells ∧ slots ≤ R.slots) {pc' : Nat} {lv' st' : List tb_V} {A' : tb_H}
    (hs : tb_step tb_P X o lv st A = some (pc', lv', st', A')) (kk : tb_G p l e R s m args below meth c cells slots Q ρ fm D cT cS n0 y pc' lv' st' A') : W p l e R s m args below meth c H locs cells slots Q (F0 m pc ls (st.map (tb_cv ρ fm))) := by
  obtain ⟨ins, len, hdg, hck⟩ := tb_ckd ho
  obtain ⟨tag, a, b, z, l0, nx⟩ := o
  simp only [tb_ck1, Bool.or_eq_true, beq_iff_eq] at hck
  rcases hck with h44 | hck
  · subst h44; cases hs
  rw [Bool.and_eq_true, decide_eq_true_eq] at hck
  obtain ⟨hnx, hck⟩ := hck
  subst hnx
  split at hck <;> (try simp only [Bool.and_eq_true, Bool.or_eq_true, beq_iff_eq, decide_eq_true_eq] at hck)
  · obtain ⟨⟨⟨rfl, rfl⟩, hz⟩, hr⟩ := hck
    exact tb_c_iconst C Y hz (tb_inR_in hr) hdg hs kk
  · obtain ⟨⟨⟨rfl, rfl⟩, hz⟩, hr⟩ := hck
    exact tb_c_bipush C Y hz (tb_inR_in hr) hdg hs kk
  · obtain ⟨⟨⟨rfl, rfl⟩, hz⟩, hr⟩ := hck
    exact tb_c_sipush C Y hz (tb_inR_in hr) hdg hs kk
  · obtain ⟨rfl, ⟨⟨rfl, hj⟩, hr⟩ | ⟨rfl, hj⟩⟩ := hck
    · exact tb_c_ldcI C Y (tb_subg_in tb_cir_in _ (List.mem_map.mpr ⟨_, List.mem_of_getElem? hj, rfl⟩)) (tb_inR_in hr) hdg hs kk
    · exact tb_c_ldcS C Y hj hdg hs kk
  · obtain ⟨rfl, ⟨⟨rfl, hj⟩, hr⟩ | ⟨rfl, hj⟩⟩ := hck
    · exact tb_c_ldcwI C Y (tb_subg_in tb_cir_in _ (List.mem_map.mpr ⟨_, List.mem_of_getElem? hj, rfl⟩)) (tb_inR_in hr) hdg hs kk
    · exact tb_c_ldcwS C Y hj hdg hs kk
  · obtain ⟨⟨⟨rfl, rfl⟩, hj⟩, hr⟩ := hck
    exact tb_c_ldc2 C Y (tb_subg_in tb_clr_in _ (List.mem_map.mpr ⟨_, List.mem_of_getElem? hj, rfl⟩)) (tb_inW_in hr) hdg hs kk
  · obtain ⟨⟨⟨rfl, rfl⟩, hz⟩, hr⟩ := hck
    exact tb_c_lconst C Y hz (tb_inW_in hr) hdg hs kk
  · obtain ⟨⟨⟨rfl, rfl⟩, rfl⟩, rfl⟩ := hck
    exact tb_c_iload_n C Y hdg hs kk
  · obtain ⟨⟨⟨rfl, rfl⟩, rfl⟩, rfl⟩ := hck
    exact tb_c_iload C Y hdg hs kk
  · obtain ⟨⟨⟨rfl, rfl⟩, rfl⟩, rfl⟩ := hck
    exact tb_c_lload_n C Y hdg hs kk
  · obtain ⟨⟨⟨rfl, rfl⟩, rfl⟩, rfl⟩ := hck
    exact tb_c_lload C Y hdg hs kk
  · obtain ⟨⟨⟨rfl, rfl⟩, rfl⟩, rfl⟩ := hck
    exact tb_c_aload_n C Y hdg hs kk
  · obtain ⟨⟨⟨rfl, rfl⟩, rfl⟩, rfl⟩ := hck
    exact tb_c_aload C Y hdg hs kk
  · obtain ⟨⟨⟨rfl, rfl⟩, rfl⟩, rfl⟩ := hck
    exact tb_c_istore_n C Y hdg hs kk
  · obtain ⟨⟨⟨rfl, rfl⟩, rfl⟩, rfl⟩ := hck
    exact tb_c_istore C Y hdg hs kk
  · obtain ⟨⟨⟨rfl, rfl⟩, rfl⟩, rfl⟩ := hck
    exact tb_c_lstore_n C Y hdg hs kk
  · obtain ⟨⟨⟨rfl, rfl⟩, rfl⟩, rfl⟩ := hck
    exact tb_c_lstore C Y hdg hs kk
  · obtain ⟨⟨⟨rfl, rfl⟩, rfl⟩, rfl⟩ := hck
    exact tb_c_astore_n C Y hdg hs kk
  · obtain ⟨⟨⟨rfl, rfl⟩, rfl⟩, rfl⟩ := hck
    exact tb_c_astore C Y hdg hs kk
  · obtain ⟨⟨⟨rfl, rfl⟩, rfl⟩, rfl⟩ := hck
    exact tb_c_iinc C Y hdg hs kk
  · obtain ⟨⟨rfl, rfl⟩, rfl⟩ := hck
    exact tb_c_iadd C Y hdg hs kk
  · obtain ⟨⟨rfl, rfl⟩, rfl⟩ := hck
    exact tb_c_isub C Y hdg hs kk
  · obtain ⟨⟨rfl, rfl⟩, rfl⟩ := hck
    exact tb_c_imul C Y hdg hs kk
  · obtain ⟨⟨rfl, rfl⟩, rfl⟩ := hck
    exact tb_c_iand C Y hdg hs kk
  · obtain ⟨⟨rfl, rfl⟩, rfl⟩ := hck
    exact tb_c_ior C Y hdg hs kk
  · obtain ⟨⟨rfl, rfl⟩, rfl⟩ := hck
    exact tb_c_ixor C Y hdg hs kk
  · obtain ⟨⟨rfl, rfl⟩, rfl⟩ := hck
    exact tb_c_ishl C Y hdg hs kk
  · obtain ⟨⟨rfl, rfl⟩, rfl⟩ := hck
    exact tb_c_ishr C Y hdg hs kk
  · obtain ⟨⟨rfl, rfl⟩, rfl⟩ := hck
    exact tb_c_iushr C Y hdg hs kk
  · obtain ⟨⟨rfl, rfl⟩, rfl⟩ := hck
    exact tb_c_idiv C Y hdg hs kk
  · obtain ⟨⟨rfl, rfl⟩, rfl⟩ := hck
    exact tb_c_irem C Y hdg hs kk
  · obtain ⟨⟨rfl, rfl⟩, rfl⟩ := hck
    exact tb_c_ineg C Y hdg hs kk
  · obtain ⟨⟨rfl, rfl⟩, rfl⟩ := hck
    exact tb_c_i2l C Y hdg hs kk
  · obtain ⟨⟨rfl, rfl⟩, rfl⟩ := hck
    exact tb_c_l2i C Y hdg hs kk
  · obtain ⟨⟨rfl, rfl⟩, rfl⟩ := hck
    exact tb_c_i2b C Y hdg hs kk
  · obtain ⟨⟨rfl, rfl⟩, rfl⟩ := hck
    exact tb_c_i2c C Y hdg hs kk
  · obtain ⟨⟨rfl, rfl⟩, rfl⟩ := hck
    exact tb_c_ladd C Y hdg hs kk
  · obtain ⟨⟨rfl, rfl⟩, rfl⟩ := hck
    exact tb_c_lsub C Y hdg hs kk
  · obtain ⟨⟨rfl, rfl⟩, rfl⟩ := hck
    exact tb_c_lmul C Y hdg hs kk
  · obtain ⟨rfl, rfl⟩ := hck
    exact tb_c_lcmp C Y hdg hs kk
  · obtain ⟨rfl, rfl⟩ := hck
    exact tb_c_dup C Y hdg hs kk
  · obtain ⟨rfl, rfl⟩ := hck
    exact tb_c_dup2 C Y hdg hs kk
  · obtain ⟨rfl, rfl⟩ := hck
    exact tb_c_pop C Y hdg hs kk
  · obtain ⟨⟨rfl, rfl⟩, ht⟩ := hck
    exact tb_c_goto C Y (by simpa [tb_tgt] using ht) hdg hs kk
  · obtain ⟨⟨⟨rfl, rfl⟩, rfl⟩, ht⟩ := hck
    exact tb_c_if_eq C Y (by simpa [tb_tgt] using ht) hdg hs kk
  · obtain ⟨⟨⟨rfl, rfl⟩, rfl⟩, ht⟩ := hck
    exact tb_c_if_ne C Y (by simpa [tb_tgt] using ht) hdg hs kk
  · obtain ⟨⟨⟨rfl, rfl⟩, rfl⟩, ht⟩ := hck
    exact tb_c_if_lt C Y (by simpa [tb_tgt] using ht) hdg hs kk
  · obtain ⟨⟨⟨rfl, rfl⟩, rfl⟩, ht⟩ := hck
    exact tb_c_if_ge C Y (by simpa [tb_tgt] using ht) hdg hs kk
  · obtain ⟨⟨⟨rfl, rfl⟩, rfl⟩, ht⟩ := hck
    exact tb_c_if_gt C Y (by simpa [tb_tgt] using ht) hdg hs kk
  · obtain ⟨⟨⟨rfl, rfl⟩, rfl⟩, ht⟩ := hck
    exact tb_c_if_le C Y (by simpa [tb_tgt] using ht) hdg hs kk
  · obtain ⟨⟨⟨rfl, rfl⟩, rfl⟩, ht⟩ := hck
    exact tb_c_icmp_eq C Y (by simpa [tb_tgt] using ht) hdg hs kk
  · obtain ⟨⟨⟨rfl, rfl⟩, rfl⟩, ht⟩ := hck
    exact tb_c_icmp_ne C Y (by simpa [tb_tgt] using ht) hdg hs kk
  · obtain ⟨⟨⟨rfl, rfl⟩, rfl⟩, ht⟩ := hck
    exact tb_c_icmp_lt C Y (by simpa [tb_tgt] using ht) hdg hs kk
  · obtain ⟨⟨⟨rfl, rfl⟩, rfl⟩, ht⟩ := hck
    exact tb_c_icmp_ge C Y (by simpa [tb_tgt] using ht) hdg hs kk
  · obtain ⟨⟨⟨rfl, rfl⟩, rfl⟩, ht⟩ := hck
    exact tb_c_icmp_gt C Y (by simpa [tb_tgt] using ht) hdg hs kk
  · obtain ⟨⟨⟨rfl, rfl⟩, rfl⟩, ht⟩ := hck
    exact tb_c_icmp_le C Y (by simpa [tb_tgt] using ht) hdg hs kk
  · obtain ⟨⟨⟨rfl, rfl⟩, rfl⟩, ht⟩ := hck
    exact tb_c_ifnonnull C Y (by simpa [tb_tgt] using ht) hdg hs kk
  · obtain ⟨⟨⟨rfl, rfl⟩, rfl⟩, ht⟩ := hck
    exact tb_c_ifnull C Y (by simpa [tb_tgt] using ht) hdg hs kk
  · obtain ⟨⟨⟨⟨⟨rfl, hd⟩, hlo⟩, hhi⟩, hsz⟩, hall⟩ := hck
    refine tb_c_tswitch C Y (by simpa [tb_tgt] using hd) hlo hhi hsz (fun j hj => ?_) hdg hs kk
    have h1 := List.all_eq_true.mp hall j (List.mem_range.mpr hj)
    simpa [tb_tgt] using h1
  · obtain ⟨⟨rfl, rfl⟩, hj⟩ := hck
    exact tb_c_getfield C Y hj hdg hs kk
  · obtain ⟨⟨⟨⟨rfl, rfl⟩, -⟩, hj⟩, hf⟩ := hck
    exact tb_c_putfield C Y hj hf hdg hs kk
  · obtain ⟨⟨⟨rfl, rfl⟩, hr⟩, hj⟩ := hck
    split at hj
    · rename_i q hq
      simp only [Bool.and_eq_true, decide_eq_true_eq] at hj
      obtain ⟨⟨⟨h1, h2⟩, h3⟩, h4⟩ := hj
      obtain ⟨q1, q2, q3⟩ := q
      subst h1; subst h2
      exact tb_c_getstatic C Y hq h3 h4 (tb_inR_in hr) hdg hs kk
    · cases hj
  · obtain ⟨rfl, rfl⟩ := hck
    exact tb_c_arraylength C Y hdg hs kk
  · obtain ⟨⟨rfl, rfl⟩, rfl⟩ := hck
    exact tb_c_iaload C Y hdg hs kk
  · obtain ⟨⟨rfl, rfl⟩, rfl⟩ := hck
    exact tb_c_baload C Y hdg hs kk
  · obtain ⟨⟨rfl, rfl⟩, rfl⟩ := hck
    exact tb_c_laload C Y hdg hs kk
  · obtain ⟨⟨rfl, rfl⟩, rfl⟩ := hck
    exact tb_c_iastore C Y hdg hs kk
  · obtain ⟨⟨rfl, rfl⟩, rfl⟩ := hck
    exact tb_c_bastore C Y hdg hs kk
  · obtain ⟨⟨rfl, rfl⟩, rfl⟩ := hck
    exact tb_c_lastore C Y hdg hs kk
  · obtain ⟨rfl, rfl⟩ := hck
    exact tb_c_aaload C Y hdg hs kk
  · obtain ⟨rfl, rfl⟩ := hck
    exact tb_c_null C Y hdg hs kk
  · obtain ⟨⟨rfl, -⟩, -⟩ := hck
    cases hs
  · obtain ⟨⟨⟨rfl, -⟩, -⟩, -⟩ := hck
    cases hs
  · obtain ⟨⟨rfl, -⟩, -⟩ := hck
    cases hs
  · obtain ⟨⟨rfl, -⟩, -⟩ := hck
    cases hs
  · obtain ⟨⟨⟨⟨⟨⟨⟨rfl, -⟩, -⟩, -⟩, -⟩, -⟩, -⟩, -⟩ := hck
    cases hs
  · obtain ⟨rfl, (⟨⟨⟨⟨⟨rfl, -⟩, -⟩, -⟩, -⟩, -⟩ | ⟨rfl, hj⟩) | ⟨⟨rfl, ha⟩, hj⟩⟩ := hck
    · cases hs
    · exact tb_c_acopy C Y hj hdg hs kk
    · match a, ha, hj, hs with
      | 0, _, hj, hs => exact tb_c_mmin C Y hj hcs hdg hs kk
      | 1, _, hj, hs => exact tb_c_mmax C Y hj hcs hdg hs kk
      | 2, _, hj, hs => exact tb_c_mabs C Y hj hcs hdg hs kk
      | a + 3, ha, _, _ => exact absurd ha (by omega)
  · cases hck
end TBRUN
