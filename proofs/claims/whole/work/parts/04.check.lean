/-! THE TABLES ARE THE CODE: each row of tb_code is what decode says of the method's bytes, its links are words of the claim -/
def tb_gt : List Cond := lw_tbl.filter goodWord
def tb_subl : List Cond → List Cond → Bool
  | [], _ => true
  | _ :: _, [] => false
  | a :: l, b :: m => if a = b then tb_subl l m else tb_subl (a :: l) m
theorem tb_subl_mem : ∀ (m l : List Cond), tb_subl l m = true → ∀ a ∈ l, a ∈ m
  | _, [], _ => fun _ h => absurd h List.not_mem_nil
  | [], _ :: _, h => by simp [tb_subl] at h
  | b :: m, a :: l, h => by
    rw [tb_subl] at h
    by_cases hab : a = b
    · rw [if_pos hab] at h
      intro x hx
      rcases List.mem_cons.mp hx with rfl | hx
      · rw [hab]; exact List.mem_cons_self
      · exact List.mem_cons_of_mem _ (tb_subl_mem m l h x hx)
    · rw [if_neg hab] at h
      intro x hx
      exact List.mem_cons_of_mem _ (tb_subl_mem m (a :: l) h x hx)
def tb_subg (l : List Cond) : Bool := tb_subl l lw_tbl && l.all goodWord
theorem tb_subg_in {l : List Cond} (h : tb_subg l = true) : ∀ a ∈ l, a ∈ tb_gt := by
  simp only [tb_subg, Bool.and_eq_true] at h
  exact fun a ha => List.mem_filter.mpr ⟨tb_subl_mem _ _ h.1 a ha, List.all_eq_true.mp h.2 a ha⟩
def tb_ow (i : Nat) : String := tb_own.getD i ""
def tb_inR (z : Int) : Bool := decide (-2147483648 ≤ z) && decide (z < 2147483648)
def tb_inW (z : Int) : Bool := decide (-9223372036854775808 ≤ z) && decide (z < 9223372036854775808)
def tb_ci (ci : Nat) : vw_C := tb_cl.getD ci ("", tb_T0, 0)
def tb_fw (q : Nat × Nat × Nat × Nat) : Cond :=
  if q.2.2.1 = 99 then (if q.2.2.2 = 0 then .fieldLink (tb_ow q.1) q.2.1 "java/lang/String" "value" "[B" else .fieldLink (tb_ow q.1) q.2.1 "java/lang/String" "coder" "B")
  else .fieldLink (tb_ow q.1) q.2.1 (tb_ci q.2.2.1).1 ((tb_ci q.2.2.1).2.1 q.2.2.2).2.1 ((tb_ci q.2.2.1).2.1 q.2.2.2).2.2.1
def tb_fok (q : Nat × Nat × Nat × Nat) : Bool :=
  if q.2.2.1 = 99 then decide (q.2.2.2 < 2) else decide (q.2.2.1 < tb_cl.length) && decide (q.2.2.2 < (tb_ci q.2.2.1).2.2) && decide (((tb_ci q.2.2.1).2.1 q.2.2.2).1 = (tb_ci q.2.2.1).1)
theorem tb_flr_ok : tb_flr.all tb_fok = true := by decide +kernel
set_option maxRecDepth 100000 in
theorem tb_flr_in : tb_subg (tb_flr.map tb_fw) = true := by decide +kernel
def tb_zn (z : Nat) : MethodName := if z = 999 then arraycopyName else if z = 1000 then Lib.Math.min.name else if z = 1001 then Lib.Math.max.name else if z = 1002 then Lib.Math.abs.name else tb_nm z
def tb_mw (q : Nat × Nat × Nat) : Cond := .methodLink (tb_ow q.1) q.2.1 (tb_zn q.2.2)
set_option maxRecDepth 100000 in
theorem tb_mlr_in : tb_subg (tb_mlr.map tb_mw) = true := by decide +kernel
def tb_st (j : Nat) : String × String × String × tb_V := tb_stats.getD j ("", "", "", tb_s 1)
def tb_sw (q : Nat × Nat × Nat) : Cond := .fieldLink (tb_ow q.1) q.2.1 (tb_st q.2.2).1 (tb_st q.2.2).2.1 (tb_st q.2.2).2.2.1
set_option maxRecDepth 100000 in
theorem tb_slr_in : tb_subg (tb_slr.map tb_sw) = true := by decide +kernel
set_option maxRecDepth 100000 in
theorem tb_cir_in : tb_subg (tb_cir.map (fun q => .constant (tb_ow q.1) q.2.1 (Int32.ofInt q.2.2))) = true := by decide +kernel
set_option maxRecDepth 100000 in
theorem tb_clr_in : tb_subg (tb_clr.map (fun q => .constantLong (tb_ow q.1) q.2.1 (Int64.ofInt q.2.2))) = true := by decide +kernel
def tb_bleq : List UInt8 → List UInt8 → Bool
  | [], [] => true
  | a :: l, b :: m => (a.toNat == b.toNat) && tb_bleq l m
  | _, _ => false
theorem tb_bleq_eq : ∀ l m : List UInt8, tb_bleq l m = true → l = m
  | [], [], _ => rfl
  | [], _ :: _, h => by simp [tb_bleq] at h
  | _ :: _, [], h => by simp [tb_bleq] at h
  | a :: l, b :: m, h => by
    simp only [tb_bleq, Bool.and_eq_true, beq_iff_eq] at h
    rw [UInt8.toNat_inj.mp h.1, tb_bleq_eq l m h.2]
/-- a word of a method's code: equal without the machine's own test for rows of bytes -/
def tb_ceq (a b : Cond) : Bool :=
  match a, b with
  | .code n x m r, .code n' x' m' r' => decide (n = n') && (m == m') && decide (r = r') && tb_bleq x.data.toList x'.data.toList
  | _, _ => false
theorem tb_ceq_eq {a b : Cond} (h : tb_ceq a b = true) : a = b := by
  unfold tb_ceq at h
  split at h
  · rename_i n x m r n' x' m' r'
    simp only [Bool.and_eq_true, decide_eq_true_eq, beq_iff_eq] at h
    obtain ⟨⟨⟨rfl, rfl⟩, rfl⟩, h4⟩ := h
    have h5 := tb_bleq_eq _ _ h4
    obtain ⟨⟨l⟩⟩ := x
    obtain ⟨⟨l'⟩⟩ := x'
    have h6 : l = l' := h5
    rw [h6]
  · cases h
def tb_subc : List Cond → List Cond → Bool
  | [], _ => true
  | _ :: _, [] => false
  | a :: l, b :: m => if tb_ceq a b then tb_subc l m else tb_subc (a :: l) m
theorem tb_subc_mem : ∀ (m l : List Cond), tb_subc l m = true → ∀ a ∈ l, a ∈ m
  | _, [], _ => fun _ h => absurd h List.not_mem_nil
  | [], _ :: _, h => by simp [tb_subc] at h
  | b :: m, a :: l, h => by
    rw [tb_subc] at h
    by_cases hab : tb_ceq a b = true
    · rw [if_pos hab] at h
      intro x hx
      rcases List.mem_cons.mp hx with rfl | hx
      · rw [tb_ceq_eq hab]; exact List.mem_cons_self
      · exact List.mem_cons_of_mem _ (tb_subc_mem m l h x hx)
    · rw [if_neg hab] at h
      intro x hx
      exact List.mem_cons_of_mem _ (tb_subc_mem m (a :: l) h x hx)
set_option maxRecDepth 100000 in
theorem tb_kco_in0 : tb_subc (tb_kco.map (fun z => .code (tb_nm z) (tb_by z) (tb_mx z) (tb_rt z))) lw_tbl = true := by decide +kernel
theorem tb_kco_in : ∀ z ∈ tb_kco, Cond.code (tb_nm z) (tb_by z) (tb_mx z) (tb_rt z) ∈ tb_gt := by
  intro z hz
  exact List.mem_filter.mpr ⟨tb_subc_mem _ _ tb_kco_in0 _ (List.mem_map.mpr ⟨z, hz, rfl⟩), rfl⟩
set_option maxRecDepth 100000 in
theorem tb_kst_in : tb_subg (tb_kst.map (fun z => .static (tb_nm z))) = true := by decide +kernel
set_option maxRecDepth 100000 in
theorem tb_kin_in : tb_subg (tb_kin.map (fun z => .instanceMethod (tb_nm z))) = true := by decide +kernel
set_option maxRecDepth 100000 in
theorem tb_kse_in : tb_subg (tb_kse.map (fun z => .selects (tb_nm z).cls (tb_nm z) (tb_nm z))) = true := by decide +kernel
set_option maxRecDepth 100000 in
theorem tb_kow_in : tb_subg (tb_kow.map (fun i => .initialized (tb_ow i))) = true := by decide +kernel
/-- a method's row hangs together -/
def tb_mok (z : Nat) : Bool :=
  decide ((tb_nm z).cls = tb_ow (tb_oi z)) && plainName (tb_nm z).cls && decide ((tb_nm z).cls ≠ "java/lang/invoke/MethodHandle") && decide ((tb_nm z).cls ≠ "java/lang/invoke/VarHandle") &&
  decide ((parseMethodDescriptor (tb_nm z).desc).map (fun d => d.parameters.length) = some (tb_np z)) && decide (tb_mx z ≤ 20) && decide (tb_oi z ∈ tb_kow) && decide (z ∈ tb_kco) &&
  (if tb_sf z then decide (z ∈ tb_kst) else decide (z ∈ tb_kin) && decide (z ∈ tb_kse))
set_option maxRecDepth 100000 in
theorem tb_mok_all : (List.range 323).all tb_mok = true := by decide +kernel
def tb_ty (a : Nat) : FieldType := if a = 0 then .int else if a = 1 then .boolean else if a = 2 then .byte else .char
def tb_tgt (pc : Nat) (off : Int) (a : Nat) : Bool := decide ((pc : Int) + off = (a : Int))
/-- the instruction at pc of method y is what the row says -/
def tb_ck1 (y oi pc len : Nat) (ins : Instr) (o : tb_O) : Bool :=
  match o with
  | (tag, a, b, z, l, nx) =>
    (tag == 44) || (decide (nx = pc + len) &&
    (match ins with
    | .iconst n => tag == 1 && len == 1 && decide (Int32.ofInt n = Int32.ofInt z) && tb_inR z
    | .bipush n => tag == 1 && len == 2 && decide ((Int8.ofInt n).toInt32 = Int32.ofInt z) && tb_inR z
    | .sipush n => tag == 1 && len == 3 && decide ((Int16.ofInt n).toInt32 = Int32.ofInt z) && tb_inR z
    | .ldc i => len == 2 && ((tag == 1 && decide (tb_cir[l.getD 0 0]? = some (oi, i, z)) && tb_inR z) || (tag == 21 && decide (tb_str[l.getD 0 0]? = some (oi, i, a))))
    | .ldc_w i => len == 3 && ((tag == 1 && decide (tb_cir[l.getD 0 0]? = some (oi, i, z)) && tb_inR z) || (tag == 21 && decide (tb_str[l.getD 0 0]? = some (oi, i, a))))
    | .ldc2_w i => tag == 2 && len == 3 && decide (tb_clr[l.getD 0 0]? = some (oi, i, z)) && tb_inW z
    | .lconst n => tag == 2 && len == 1 && decide (Int64.ofNat (n : Nat) = Int64.ofInt z) && tb_inW z
    | .iload_n k => tag == 3 && len == 1 && a == (k : Nat) && b == 0
    | .iload k => tag == 3 && len == 2 && a == k && b == 0
    | .lload_n k => tag == 3 && len == 1 && a == (k : Nat) && b == 1
    | .lload k => tag == 3 && len == 2 && a == k && b == 1
    | .aload_n k => tag == 3 && len == 1 && a == (k : Nat) && b == 2
    | .aload k => tag == 3 && len == 2 && a == k && b == 2
    | .istore_n k => tag == 4 && len == 1 && a == (k : Nat) && b == 0
    | .istore k => tag == 4 && len == 2 && a == k && b == 0
    | .lstore_n k => tag == 4 && len == 1 && a == (k : Nat) && b == 1
    | .lstore k => tag == 4 && len == 2 && a == k && b == 1
    | .astore_n k => tag == 4 && len == 1 && a == (k : Nat) && b == 2
    | .astore k => tag == 4 && len == 2 && a == k && b == 2
    | .iinc k n => tag == 5 && len == 3 && a == k && decide (n = z)
    | .iadd => tag == 6 && len == 1 && a == 0
    | .isub => tag == 6 && len == 1 && a == 1
    | .imul => tag == 6 && len == 1 && a == 2
    | .iand => tag == 6 && len == 1 && a == 3
    | .ior => tag == 6 && len == 1 && a == 4
    | .ixor => tag == 6 && len == 1 && a == 5
    | .ishl => tag == 6 && len == 1 && a == 6
    | .ishr => tag == 6 && len == 1 && a == 7
    | .iushr => tag == 6 && len == 1 && a == 8
    | .idiv => tag == 6 && len == 1 && a == 9
    | .irem => tag == 6 && len == 1 && a == 10
    | .ineg => tag == 7 && len == 1 && a == 0
    | .i2l => tag == 7 && len == 1 && a == 1
    | .l2i => tag == 7 && len == 1 && a == 2
    | .i2b => tag == 7 && len == 1 && a == 3
    | .i2c => tag == 7 && len == 1 && a == 4
    | .ladd => tag == 8 && len == 1 && a == 0
    | .lsub => tag == 8 && len == 1 && a == 1
    | .lmul => tag == 8 && len == 1 && a == 2
    | .lcmp => tag == 9 && len == 1
    | .dup => tag == 10 && len == 1
    | .dup2 => tag == 11 && len == 1
    | .pop => tag == 12 && len == 1
    | .goto off => tag == 13 && len == 3 && tb_tgt pc off a
    | .ifCond .eq off => tag == 14 && len == 3 && b == 0 && tb_tgt pc off a
    | .ifCond .ne off => tag == 14 && len == 3 && b == 1 && tb_tgt pc off a
    | .ifCond .lt off => tag == 14 && len == 3 && b == 2 && tb_tgt pc off a
    | .ifCond .ge off => tag == 14 && len == 3 && b == 3 && tb_tgt pc off a
    | .ifCond .gt off => tag == 14 && len == 3 && b == 4 && tb_tgt pc off a
    | .ifCond .le off => tag == 14 && len == 3 && b == 5 && tb_tgt pc off a
    | .if_icmp .eq off => tag == 15 && len == 3 && b == 0 && tb_tgt pc off a
    | .if_icmp .ne off => tag == 15 && len == 3 && b == 1 && tb_tgt pc off a
    | .if_icmp .lt off => tag == 15 && len == 3 && b == 2 && tb_tgt pc off a
    | .if_icmp .ge off => tag == 15 && len == 3 && b == 3 && tb_tgt pc off a
    | .if_icmp .gt off => tag == 15 && len == 3 && b == 4 && tb_tgt pc off a
    | .if_icmp .le off => tag == 15 && len == 3 && b == 5 && tb_tgt pc off a
    | .ifnonnull off => tag == 16 && len == 3 && b == 1 && tb_tgt pc off a
    | .ifnull off => tag == 16 && len == 3 && b == 0 && tb_tgt pc off a
    | .tableswitch dflt lo hi offs => tag == 17 && tb_tgt pc dflt a && decide (lo = z) && decide (hi = z + l.length - 1) && decide (offs.size = l.length) && (List.range l.length).all (fun j => tb_tgt pc (offs.getD j 0) (l.getD j 0))
    | .getfield i => tag == 18 && len == 3 && decide (tb_flr[l.getD 0 0]? = some (oi, i, b, a))
    | .putfield i => tag == 19 && len == 3 && decide (b ≠ 99) && decide (tb_flr[l.getD 0 0]? = some (oi, i, b, a)) && ((tb_ci b).2.1 a).2.2.2 == false
    | .getstatic i => tag == 20 && len == 3 && tb_inR z && (match tb_slr[l.getD 0 0]? with | some q => decide (q.1 = oi) && decide (q.2.1 = i) && decide (q.2.2 < tb_stats.length) && decide ((tb_st q.2.2).2.2.2 = if b = 0 then tb_r a else if b = 1 then tb_i z else tb_s 2) | none => false)
    | .arraylength => tag == 22 && len == 1
    | .iaload => tag == 23 && len == 1 && a == 0
    | .baload => tag == 23 && len == 1 && a == 2
    | .laload => tag == 23 && len == 1 && a == 3
    | .iastore => tag == 24 && len == 1 && a == 0
    | .bastore => tag == 24 && len == 1 && a == 2
    | .lastore => tag == 24 && len == 1 && a == 3
    | .aaload => tag == 25 && len == 1
    | .aconst_null => tag == 26 && len == 1
    | .return_ => tag == 30 && len == 1 && decide (tb_rt y = none)
    | .ireturn => tag == 31 && len == 1 && decide (tb_rt y = some (tb_ty a)) && decide (a = 0 ∨ a = 1 ∨ a = 2 ∨ a = 5)
    | .lreturn => tag == 32 && len == 1 && decide (tb_rt y = some .long)
    | .areturn => tag == 33 && len == 1 && (match tb_rt y with | some (.object _) => true | some (.array _) => true | _ => false)
    | .invokevirtual i => tag == 40 && len == 3 && decide (tb_mlr[l.getD 0 0]? = some (oi, i, a)) && decide (a < 323) && !tb_sf a && decide (b = tb_np a + 1) && decide (tb_rk a + 1 ≤ tb_rk y) && (if z.toNat = 99 then decide (tb_ow (tb_oi a) = "java/lang/String") else decide (z.toNat < tb_cl.length) && decide ((tb_ci z.toNat).1 = tb_ow (tb_oi a)))
    | .invokestatic i => len == 3 && ((tag == 41 && decide (tb_mlr[l.getD 0 0]? = some (oi, i, a)) && decide (a < 323) && tb_sf a && decide (b = tb_np a) && decide (tb_rk a + 1 ≤ tb_rk y)) || (tag == 42 && decide (tb_mlr[l.getD 0 0]? = some (oi, i, 999))) || (tag == 43 && decide (a < 3) && decide (tb_mlr[l.getD 0 0]? = some (oi, i, 1000 + a))))
    | _ => false))
def tb_ckr (y : Nat) (q : Nat × tb_O) : Bool :=
  match decode (tb_by y) q.1 with
  | .ok (ins, len) => tb_ck1 y (tb_oi y) q.1 len ins q.2
  | _ => false
def tb_cky (y : Nat) : Bool := (tb_code y).all (tb_ckr y)
