/-! A SMALL MACHINE OF MY OWN: values, a heap of rows of whole numbers, one step, a run by fuel. What it answers holds of the real machine (part 'sim'). -/
abbrev tb_V : Type := Int ⊕ (Int ⊕ (Nat ⊕ Nat))
abbrev tb_i (x : Int) : tb_V := Sum.inl x
abbrev tb_j (x : Int) : tb_V := Sum.inr (Sum.inl x)
abbrev tb_r (k : Nat) : tb_V := Sum.inr (Sum.inr (Sum.inl k))
abbrev tb_s (k : Nat) : tb_V := Sum.inr (Sum.inr (Sum.inr k))
abbrev tb_H : Type := (Nat → Int → Int) × (Nat → Int → Int) × (Nat → Int → Nat)
/-- tag, a, b, z, list, next -/
abbrev tb_O : Type := Nat × Nat × Nat × Int × List Nat × Nat
/-- the script: its numbers, how many -/
abbrev tb_X : Type := (Int → Int) × Nat
def tb_w (x : Int) : Int := (x + 2147483648) % 4294967296 - 2147483648
def tb_W (x : Int) : Int := (x + 9223372036854775808) % 18446744073709551616 - 9223372036854775808
def tb_and (x y : Int) : Int := (Int32.ofInt x &&& Int32.ofInt y).toInt
def tb_or (x y : Int) : Int := (Int32.ofInt x ||| Int32.ofInt y).toInt
def tb_xor (x y : Int) : Int := (Int32.ofInt x ^^^ Int32.ofInt y).toInt
def tb_shl (x y : Int) : Int := (Int32.ofInt x <<< (Int32.ofInt y &&& 31)).toInt
def tb_shr (x y : Int) : Int := (Int32.ofInt x >>> (Int32.ofInt y &&& 31)).toInt
def tb_ushr (x y : Int) : Int := ((Int32.ofInt x).toUInt32 >>> ((Int32.ofInt y).toUInt32 &&& Int32.toUInt32 31)).toInt32.toInt
def tb_bin (a : Nat) (x y : Int) : Option Int :=
  match a with
  | 0 => some (tb_w (x + y))
  | 1 => some (tb_w (x - y))
  | 2 => some (tb_w (x * y))
  | 3 => some (tb_and x y)
  | 4 => some (tb_or x y)
  | 5 => some (tb_xor x y)
  | 6 => some (tb_shl x y)
  | 7 => some (tb_shr x y)
  | 8 => some (tb_ushr x y)
  | 9 => if y = 0 then none else some (tb_w (x.tdiv y))
  | 10 => if y = 0 then none else some (x.tmod y)
  | _ => none
def tb_lbin (a : Nat) (x y : Int) : Option Int :=
  match a with
  | 0 => some (tb_W (x + y))
  | 1 => some (tb_W (x - y))
  | 2 => some (tb_W (x * y))
  | _ => none
def tb_b8 (x : Int) : Int := (x + 128) % 256 - 128
def tb_un (a : Nat) (v : tb_V) : Option tb_V :=
  match a, v with
  | 0, .inl x => some (tb_i (tb_w (-x)))
  | 1, .inl x => some (tb_j x)
  | 2, .inr (.inl x) => some (tb_i (tb_w x))
  | 3, .inl x => some (tb_i (tb_b8 x))
  | 4, .inl x => some (tb_i (x % 65536))
  | _, _ => none
/-- 0 eq, 1 ne, 2 lt, 3 ge, 4 gt, 5 le -/
def tb_cmp (c : Nat) (x y : Int) : Bool :=
  match c with
  | 0 => decide (x = y)
  | 1 => !decide (x = y)
  | 2 => decide (x < y)
  | 3 => !decide (x < y)
  | 4 => decide (y < x)
  | _ => !decide (y < x)
def tb_lcmp (x y : Int) : Int := if x < y then -1 else if x = y then 0 else 1
def tb_cat (v : tb_V) : Nat :=
  match v with
  | .inr (.inl _) => 2
  | _ => 1
/-- a local's kind: 0 int, 1 long, 2 reference -/
def tb_isk (k : Nat) (v : tb_V) : Bool :=
  match k, v with
  | 0, .inl _ => true
  | 1, .inr (.inl _) => true
  | 2, .inr (.inr (.inl _)) => true
  | 2, .inr (.inr (.inr 0)) => true
  | 2, .inr (.inr (.inr 2)) => true
  | _, _ => false
/-- a long that began one place ahead of i is gone -/
def tb_wipe (lv : List tb_V) (i : Nat) : List tb_V :=
  match i with
  | 0 => lv
  | j + 1 =>
    match lv[j]? with
    | some (.inr (.inl _)) => lv.set j (tb_s 1)
    | _ => lv
def tb_set1 (lv : List tb_V) (i : Nat) (v : tb_V) : List tb_V := (tb_wipe lv i).set i v
def tb_set2 (lv : List tb_V) (i : Nat) (v : tb_V) : List tb_V := ((tb_wipe lv i).set (i + 1) (tb_s 1)).set i v
def tb_set (lv : List tb_V) (i : Nat) (v : tb_V) : Option (List tb_V) :=
  match v with
  | .inr (.inl _) => if i + 1 < lv.length then some (tb_set2 lv i v) else none
  | _ => if i < lv.length then some (tb_set1 lv i v) else none
def tb_upI (A : tb_H) (o : Nat) (k : Int) (x : Int) : tb_H := (fun o' k' => if o' = o ∧ k' = k then x else A.1 o' k', A.2.1, A.2.2)
def tb_upL (A : tb_H) (o : Nat) (k : Int) (x : Int) : tb_H := (A.1, fun o' k' => if o' = o ∧ k' = k then x else A.2.1 o' k', A.2.2)
def tb_upP (A : tb_H) (o : Nat) (k : Int) (x : Nat) : tb_H := (A.1, A.2.1, fun o' k' => if o' = o ∧ k' = k then x else A.2.2 o' k')
/-- System.arraycopy of ints -/
def tb_cpy (A : tb_H) (o : Nat) (sp : Int) (q : Nat) (dp n : Int) : tb_H := (fun o' k' => if o' = q ∧ dp ≤ k' ∧ k' < dp + n then A.1 o (k' - dp + sp) else A.1 o' k', A.2.1, A.2.2)
/-! what an object is: (0, class, its fields' kinds), (1, length, [kind]) an array, (2, length, targets) an array of references that stays, (3, length, [kind]) an array that nobody writes, (4, _, fields) a String constant, (5, _, _) the script.
a field's kind: 0 int, 1 boolean, 2 byte, 3 long, 4 a reference that changes, 100 + k the reference k, 1000 + d the reference d places on -/
abbrev tb_Kd : Type := Nat → Nat × Nat × List Nat
def tb_fld (A : tb_H) (o k t : Nat) : Option tb_V :=
  if t < 3 then some (tb_i (A.1 o k)) else if t = 3 then some (tb_j (A.2.1 o k)) else if t = 4 then some (tb_r (A.2.2 o k)) else if t < 100 then none else if t < 1000 then some (tb_r (t - 100)) else some (tb_r (o + (t - 1000)))
def tb_getf (kd : tb_Kd) (A : tb_H) (o k ci : Nat) : Option tb_V :=
  match kd o with
  | (0, c, fts) => if c = ci then (match fts[k]? with | some t => tb_fld A o k t | none => none) else none
  | (4, _, fts) => if ci = 99 then (match fts[k]? with | some t => some (if 100 ≤ t then tb_r (t - 100) else tb_i t) | none => none) else none
  | _ => none
def tb_putf (kd : tb_Kd) (A : tb_H) (o k ci : Nat) (v : tb_V) : Option tb_H :=
  match kd o with
  | (0, c, fts) =>
    if c = ci then
      (match fts[k]?, v with
      | some 0, .inl x => some (tb_upI A o k x)
      | some 1, .inl x => if x = 0 ∨ x = 1 then some (tb_upI A o k x) else none
      | some 3, .inr (.inl x) => some (tb_upL A o k x)
      | some 4, .inr (.inr (.inl q)) => some (tb_upP A o k q)
      | _, _ => none)
    else none
  | _ => none
def tb_len (kd : tb_Kd) (X : tb_X) (o : Nat) : Option Nat :=
  match kd o with
  | (1, n, _) => some n
  | (2, n, _) => some n
  | (3, n, _) => some n
  | (5, _, _) => some X.2
  | _ => none
/-- the mnemonic's kind and the array's: i 0, b 2 (bytes 2 and booleans 1), l 3 -/
def tb_akd (b t : Nat) : Bool := (b == 0 && t == 0) || (b == 2 && (t == 1 || t == 2)) || (b == 3 && t == 3)
def tb_ald (kd : tb_Kd) (cI : Nat → Int → Int) (X : tb_X) (A : tb_H) (b o : Nat) (i : Int) : Option tb_V :=
  match kd o with
  | (1, n, [t]) => if tb_akd b t = true ∧ 0 ≤ i ∧ i < n then some (if b = 3 then tb_j (A.2.1 o i) else tb_i (A.1 o i)) else none
  | (3, n, [t]) => if tb_akd b t = true ∧ b ≠ 3 ∧ 0 ≤ i ∧ i < n then some (tb_i (cI o i)) else none
  | (5, _, _) => if b = 0 ∧ 0 ≤ i ∧ i < X.2 then some (tb_i (X.1 i)) else none
  | _ => none
def tb_ast (kd : tb_Kd) (A : tb_H) (b o : Nat) (i : Int) (v : tb_V) : Option tb_H :=
  match kd o with
  | (1, n, [t]) =>
    if tb_akd b t = true ∧ 0 ≤ i ∧ i < n then
      (match b, t, v with
      | 0, _, .inl x => some (tb_upI A o i x)
      | 2, 2, .inl x => some (tb_upI A o i (tb_b8 x))
      | 2, 1, .inl x => if x = 0 ∨ x = 1 then some (tb_upI A o i x) else none
      | 3, _, .inr (.inl x) => some (tb_upL A o i x)
      | _, _, _ => none)
    else none
  | _ => none
def tb_aald (kd : tb_Kd) (o : Nat) (i : Int) : Option tb_V :=
  match kd o with
  | (2, n, tg) => if 0 ≤ i ∧ i < n then (match tg[i.toNat]? with | some q => some (tb_r q) | none => none) else none
  | _ => none
def tb_acpy (kd : tb_Kd) (A : tb_H) (o : Nat) (sp : Int) (q : Nat) (dp n : Int) : Option tb_H :=
  match kd o, kd q with
  | (1, n0, [0]), (1, n1, [0]) => if 0 ≤ sp ∧ 0 ≤ dp ∧ 0 ≤ n ∧ sp + n ≤ n0 ∧ dp + n ≤ n1 then some (tb_cpy A o sp q dp n) else none
  | _, _ => none
/-- the tables of a program: an instruction; locals of a method; kinds of objects; arrays that nobody writes -/
abbrev tb_T : Type := (Nat → Nat → Option tb_O) × (Nat → Nat) × tb_Kd × (Nat → Int → Int)
def tb_step (P : tb_T) (X : tb_X) (o : tb_O) (lv st : List tb_V) (A : tb_H) : Option (Nat × List tb_V × List tb_V × tb_H) :=
  match o with
  | (tag, a, b, z, l, nx) =>
    match tag with
    | 1 => some (nx, lv, tb_i z :: st, A)
    | 2 => some (nx, lv, tb_j z :: st, A)
    | 3 => (match lv[a]? with | some v => if tb_isk b v then some (nx, lv, v :: st, A) else none | none => none)
    | 4 => (match st with | v :: st' => if tb_isk b v then (match tb_set lv a v with | some lv' => some (nx, lv', st', A) | none => none) else none | [] => none)
    | 5 => (match lv[a]? with | some (.inl x) => (match tb_set lv a (tb_i (tb_w (x + z))) with | some lv' => some (nx, lv', st, A) | none => none) | _ => none)
    | 6 => (match st with | .inl y :: .inl x :: st' => (match tb_bin a x y with | some r => some (nx, lv, tb_i r :: st', A) | none => none) | _ => none)
    | 7 => (match st with | v :: st' => (match tb_un a v with | some r => some (nx, lv, r :: st', A) | none => none) | [] => none)
    | 8 => (match st with | .inr (.inl y) :: .inr (.inl x) :: st' => (match tb_lbin a x y with | some r => some (nx, lv, tb_j r :: st', A) | none => none) | _ => none)
    | 9 => (match st with | .inr (.inl y) :: .inr (.inl x) :: st' => some (nx, lv, tb_i (tb_lcmp x y) :: st', A) | _ => none)
    | 10 => (match st with | v :: st' => if tb_cat v = 1 then some (nx, lv, v :: v :: st', A) else none | [] => none)
    | 11 => (match st with | v :: w :: st' => if tb_cat v = 1 ∧ tb_cat w = 1 then some (nx, lv, v :: w :: v :: w :: st', A) else none | _ => none)
    | 12 => (match st with | v :: st' => if tb_cat v = 1 then some (nx, lv, st', A) else none | [] => none)
    | 13 => some (a, lv, st, A)
    | 14 => (match st with | .inl x :: st' => some (if tb_cmp b x 0 then a else nx, lv, st', A) | _ => none)
    | 15 => (match st with | .inl y :: .inl x :: st' => some (if tb_cmp b x y then a else nx, lv, st', A) | _ => none)
    | 16 => (match st with
      | .inr (.inr (.inl _)) :: st' => some (if b = 1 then a else nx, lv, st', A)
      | .inr (.inr (.inr 0)) :: st' => some (if b = 1 then nx else a, lv, st', A)
      | _ => none)
    | 17 => (match st with | .inl x :: st' => some (if x < z ∨ z + l.length ≤ x then a else l.getD (x - z).toNat 0, lv, st', A) | _ => none)
    | 18 => (match st with | .inr (.inr (.inl q)) :: st' => (match tb_getf P.2.2.1 A q a b with | some v => some (nx, lv, v :: st', A) | none => none) | _ => none)
    | 19 => (match st with | v :: .inr (.inr (.inl q)) :: st' => (match tb_putf P.2.2.1 A q a b v with | some A' => some (nx, lv, st', A') | none => none) | _ => none)
    | 20 => some (nx, lv, (if b = 0 then tb_r a else if b = 1 then tb_i z else tb_s 2) :: st, A)
    | 21 => some (nx, lv, tb_r a :: st, A)
    | 22 => (match st with | .inr (.inr (.inl q)) :: st' => (match tb_len P.2.2.1 X q with | some n => some (nx, lv, tb_i n :: st', A) | none => none) | _ => none)
    | 23 => (match st with | .inl i :: .inr (.inr (.inl q)) :: st' => (match tb_ald P.2.2.1 P.2.2.2 X A a q i with | some v => some (nx, lv, v :: st', A) | none => none) | _ => none)
    | 24 => (match st with | v :: .inl i :: .inr (.inr (.inl q)) :: st' => (match tb_ast P.2.2.1 A a q i v with | some A' => some (nx, lv, st', A') | none => none) | _ => none)
    | 25 => (match st with | .inl i :: .inr (.inr (.inl q)) :: st' => (match tb_aald P.2.2.1 q i with | some v => some (nx, lv, v :: st', A) | none => none) | _ => none)
    | 26 => some (nx, lv, tb_s 0 :: st, A)
    | 42 => (match st with | .inl n :: .inl dp :: .inr (.inr (.inl q)) :: .inl sp :: .inr (.inr (.inl o)) :: st' => if (st'.map tb_cat).sum ≤ 8 then (match tb_acpy P.2.2.1 A o sp q dp n with | some A' => some (nx, lv, st', A') | none => none) else none | _ => none)
    | 43 => (match a, st with
      | 0, .inl y :: .inl x :: st' => if (st'.map tb_cat).sum ≤ 8 then some (nx, lv, tb_i (if y < x then y else x) :: st', A) else none
      | 1, .inl y :: .inl x :: st' => if (st'.map tb_cat).sum ≤ 8 then some (nx, lv, tb_i (if x < y then y else x) :: st', A) else none
      | 2, .inl x :: st' => if (st'.map tb_cat).sum ≤ 8 then some (nx, lv, tb_i (if 0 ≤ x then x else tb_w (0 - x)) :: st', A) else none
      | _, _ => none)
    | _ => none
/-- a return's own check; 44: a place where the run stops -/
def tb_stop (o : tb_O) (st : List tb_V) : Bool :=
  match o with
  | (tag, a, _, _, _, _) =>
    match tag, st with
    | 30, [] => true
    | 31, [.inl x] => (a == 0) || (a == 1 && (decide (x = 0) || decide (x = 1))) || (a == 2 && decide (-128 ≤ x) && decide (x < 128)) || (a == 5 && decide (0 ≤ x) && decide (x < 65536))
    | 32, [.inr (.inl _)] => true
    | 33, [.inr (.inr (.inl _))] => true
    | 33, [.inr (.inr (.inr 0))] => true
    | 44, _ => true
    | _, _ => false
def tb_isst (t : Nat) : Bool := t == 30 || t == 31 || t == 32 || t == 33 || t == 44
def tb_isre (P : tb_T) (y pc : Nat) : Bool := match P.1 y pc with | some (t, _) => t == 30 || t == 31 || t == 32 || t == 33 | none => false
def tb_sp (v : tb_V) : List tb_V :=
  match v with
  | .inr (.inl _) => [v, tb_s 1]
  | _ => [v]
def tb_entry (n : Nat) (as : List tb_V) : List tb_V := as.flatMap tb_sp ++ List.replicate (n - (as.flatMap tb_sp).length) (tb_s 1)
/-- a receiver of the class asked for -/
def tb_rcv (P : tb_T) (st : List tb_V) (b ci : Nat) : Bool :=
  match st[b - 1]? with
  | some (.inr (.inr (.inl q))) => (match P.2.2.1 q with | (0, c, _) => c == ci | (4, _, _) => ci == 99 | _ => false)
  | _ => false
def tb_cok (P : tb_T) (o : tb_O) (st : List tb_V) : Bool :=
  match o with
  | (tag, a, b, z, _, _) => decide (b ≤ st.length) && decide (((st.drop b).map tb_cat).sum ≤ 8) && decide (((st.take b).map tb_cat).sum ≤ P.2.1 a) && (if tag = 40 then decide (1 ≤ b) && tb_rcv P st b z.toNat else true)
def tb_run (P : tb_T) (X : tb_X) : Nat → Nat → Nat → List tb_V → List tb_V → tb_H → Option (Nat × List tb_V × List tb_V × tb_H)
  | 0, _, _, _, _, _ => none
  | n + 1, y, pc, lv, st, A =>
    match P.1 y pc with
    | none => none
    | some o =>
      if tb_isst o.1 then (if tb_stop o st then some (pc, lv, st, A) else none)
      else if o.1 = 40 ∨ o.1 = 41 then
        (if tb_cok P o st then
          (match tb_run P X n o.2.1 0 (tb_entry (P.2.1 o.2.1) (st.take o.2.2.1).reverse) [] A with
          | some (pc2, _, r, A1) => if tb_isre P o.2.1 pc2 then tb_run P X n y o.2.2.2.2.2 lv (r ++ st.drop o.2.2.1) A1 else none
          | none => none)
        else none)
      else
        (match tb_step P X o lv st A with
        | some (pc', lv', st', A') => tb_run P X n y pc' lv' st' A'
        | none => none)
abbrev tb_Q : Type := Nat → List tb_V → List tb_V → tb_H → Prop
def tb_Ev (P : tb_T) (X : tb_X) (y pc : Nat) (lv st : List tb_V) (A : tb_H) (Q : tb_Q) : Prop := ∃ n a b c d, tb_run P X n y pc lv st A = some (a, b, c, d) ∧ Q a b c d
theorem tb_run_up (P : tb_T) (X : tb_X) : ∀ (n y pc : Nat) (lv st : List tb_V) (A : tb_H) (r : Nat × List tb_V × List tb_V × tb_H), tb_run P X n y pc lv st A = some r → tb_run P X (n + 1) y pc lv st A = some r
  | 0, _, _, _, _, _, _, h => by simp [tb_run] at h
  | n + 1, y, pc, lv, st, A, r, h => by
    rw [tb_run] at h ⊢
    cases ho : P.1 y pc with
    | none => rw [ho] at h; exact h
    | some o =>
      rw [ho] at h
      dsimp only at h ⊢
      by_cases h1 : tb_isst o.1 = true
      · rw [if_pos h1] at h ⊢; exact h
      · rw [if_neg h1] at h ⊢
        by_cases h2 : o.1 = 40 ∨ o.1 = 41
        · rw [if_pos h2] at h ⊢
          by_cases h3 : tb_cok P o st = true
          · rw [if_pos h3] at h ⊢
            cases hc : tb_run P X n o.2.1 0 (tb_entry (P.2.1 o.2.1) (st.take o.2.2.1).reverse) [] A with
            | none => rw [hc] at h; cases h
            | some q =>
              obtain ⟨pc2, l2, r2, A2⟩ := q
              rw [tb_run_up P X n _ _ _ _ _ _ hc]
              rw [hc] at h
              dsimp only at h ⊢
              by_cases h4 : tb_isre P o.2.1 pc2 = true
              · rw [if_pos h4] at h ⊢; exact tb_run_up P X n _ _ _ _ _ _ h
              · rw [if_neg h4] at h; cases h
          · rw [if_neg h3] at h; cases h
        · rw [if_neg h2] at h ⊢
          cases hs : tb_step P X o lv st A with
          | none => rw [hs] at h; cases h
          | some q =>
            obtain ⟨pc2, l2, r2, A2⟩ := q
            rw [hs] at h
            exact tb_run_up P X n _ _ _ _ _ _ h
theorem tb_run_le {P : tb_T} {X : tb_X} {n m y pc : Nat} {lv st : List tb_V} {A : tb_H} {r : Nat × List tb_V × List tb_V × tb_H} (hnm : n ≤ m) (h : tb_run P X n y pc lv st A = some r) : tb_run P X m y pc lv st A = some r := by
  induction hnm with
  | refl => exact h
  | step _ ih => exact tb_run_up P X _ _ _ _ _ _ _ ih
section TBEV
variable {P : tb_T} {X : tb_X} {y pc : Nat} {lv st : List tb_V} {A : tb_H} {Q : tb_Q}
theorem tb_ev_step {o : tb_O} {pc' : Nat} {lv' st' : List tb_V} {A' : tb_H} (ho : P.1 y pc = some o) (h1 : tb_isst o.1 = false) (h2 : ¬ (o.1 = 40 ∨ o.1 = 41)) (hs : tb_step P X o lv st A = some (pc', lv', st', A'))
    (h : tb_Ev P X y pc' lv' st' A' Q) : tb_Ev P X y pc lv st A Q := by
  obtain ⟨n, a, b, c, d, hr, hq⟩ := h
  refine ⟨n + 1, a, b, c, d, ?_, hq⟩
  rw [tb_run, ho]
  dsimp only
  rw [if_neg (by simp [h1]), if_neg h2, hs]
  exact hr
theorem tb_ev_stop {o : tb_O} (ho : P.1 y pc = some o) (h1 : tb_isst o.1 = true) (h2 : tb_stop o st = true) (h : Q pc lv st A) : tb_Ev P X y pc lv st A Q := by
  refine ⟨1, pc, lv, st, A, ?_, h⟩
  rw [tb_run, ho]
  dsimp only
  rw [if_pos h1, if_pos h2]
/-- what a method's caller sees -/
def tb_R (P : tb_T) (z : Nat) (K : List tb_V → tb_H → Prop) : tb_Q := fun pc2 _ r A1 => tb_isre P z pc2 = true ∧ K r A1
def tb_Cl (P : tb_T) (X : tb_X) (z : Nat) (as : List tb_V) (A : tb_H) (K : List tb_V → tb_H → Prop) : Prop := tb_Ev P X z 0 (tb_entry (P.2.1 z) as) [] A (tb_R P z K)
theorem tb_ev_call {o : tb_O} (ho : P.1 y pc = some o) (h1 : tb_isst o.1 = false) (h2 : o.1 = 40 ∨ o.1 = 41) (h3 : tb_cok P o st = true)
    (h : tb_Cl P X o.2.1 (st.take o.2.2.1).reverse A (fun r A1 => tb_Ev P X y o.2.2.2.2.2 lv (r ++ st.drop o.2.2.1) A1 Q)) : tb_Ev P X y pc lv st A Q := by
  obtain ⟨n, a, b, c, d, hr, hre, m, a', b', c', d', hr', hq⟩ := h
  refine ⟨max n m + 1, a', b', c', d', ?_, hq⟩
  rw [tb_run, ho]
  dsimp only
  rw [if_neg (by simp [h1]), if_pos h2, if_pos h3, tb_run_le (Nat.le_max_left n m) hr]
  dsimp only
  rw [if_pos hre]
  exact tb_run_le (Nat.le_max_right n m) hr'
theorem tb_ev_imp {Q' : tb_Q} (hQ : ∀ a b c d, Q a b c d → Q' a b c d) (h : tb_Ev P X y pc lv st A Q) : tb_Ev P X y pc lv st A Q' := by
  obtain ⟨n, a, b, c, d, hr, hq⟩ := h
  exact ⟨n, a, b, c, d, hr, hQ _ _ _ _ hq⟩
theorem tb_cl_imp {z : Nat} {as : List tb_V} {K K' : List tb_V → tb_H → Prop} (hK : ∀ r A1, K r A1 → K' r A1) (h : tb_Cl P X z as A K) : tb_Cl P X z as A K' := tb_ev_imp (fun _ _ _ _ q => ⟨q.1, hK _ _ q.2⟩) h
end TBEV
