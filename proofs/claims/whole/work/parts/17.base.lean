/-! BASE: wrapped numbers, heaps, frames, sums, loops, calls as equations -/
section TBBASE
variable {X : tb_X} {A A0 A1 A2 : tb_H}
theorem tb_w_id {x : Int} (h0 : -2147483648 ≤ x) (h1 : x < 2147483648) : tb_w x = x := by unfold tb_w; omega
theorem tb_w_lo (x : Int) : -2147483648 ≤ tb_w x := by unfold tb_w; omega
theorem tb_w_hi (x : Int) : tb_w x < 2147483648 := by unfold tb_w; omega
theorem tb_uI1 {o : Nat} {k x : Int} {o' : Nat} {k' : Int} : (tb_upI A o k x).1 o' k' = if o' = o ∧ k' = k then x else A.1 o' k' := rfl
theorem tb_uI2 {o : Nat} {k x : Int} : (tb_upI A o k x).2 = A.2 := rfl
theorem tb_uL1 {o : Nat} {k x : Int} : (tb_upL A o k x).1 = A.1 := rfl
theorem tb_uL2 {o : Nat} {k x : Int} {o' : Nat} {k' : Int} : (tb_upL A o k x).2.1 o' k' = if o' = o ∧ k' = k then x else A.2.1 o' k' := rfl
theorem tb_uL3 {o : Nat} {k x : Int} : (tb_upL A o k x).2.2 = A.2.2 := rfl
theorem tb_uP1 {o : Nat} {k : Int} {x : Nat} : (tb_upP A o k x).1 = A.1 := rfl
theorem tb_uP2 {o : Nat} {k : Int} {x : Nat} : (tb_upP A o k x).2.1 = A.2.1 := rfl
theorem tb_uP3 {o : Nat} {k : Int} {x : Nat} {o' : Nat} {k' : Int} : (tb_upP A o k x).2.2 o' k' = if o' = o ∧ k' = k then x else A.2.2 o' k' := rfl
theorem tb_uI_o {o : Nat} {k x : Int} {o' : Nat} {k' : Int} (h : o' ≠ o) : (tb_upI A o k x).1 o' k' = A.1 o' k' := if_neg (fun q => h q.1)
theorem tb_uI_k {o : Nat} {k x : Int} {k' : Int} (h : k' ≠ k) : (tb_upI A o k x).1 o k' = A.1 o k' := if_neg (fun q => h q.2)
theorem tb_uI_s {o : Nat} {k x : Int} : (tb_upI A o k x).1 o k = x := if_pos ⟨rfl, rfl⟩
theorem tb_uL_s {o : Nat} {k x : Int} : (tb_upL A o k x).2.1 o k = x := if_pos ⟨rfl, rfl⟩
theorem tb_uP_s {o : Nat} {k : Int} {x : Nat} : (tb_upP A o k x).2.2 o k = x := if_pos ⟨rfl, rfl⟩
/-- objects S, fields F may have changed, references of P -/
def tb_fr (S : List Nat) (F : List (Nat × Int)) (P : List Nat) (A A1 : tb_H) : Prop := (∀ o k, S.contains o = false → F.contains (o, k) = false → A1.1 o k = A.1 o k) ∧ (∀ o k, S.contains o = false → A1.2.1 o k = A.2.1 o k) ∧ (∀ o k, P.contains o = false → A1.2.2 o k = A.2.2 o k)
theorem tb_fr.refl {S : List Nat} {F : List (Nat × Int)} {P : List Nat} : tb_fr S F P A A := ⟨fun _ _ _ _ => rfl, fun _ _ _ => rfl, fun _ _ _ => rfl⟩
theorem tb_fr.trans {S : List Nat} {F : List (Nat × Int)} {P : List Nat} (h : tb_fr S F P A A1) (g : tb_fr S F P A1 A2) : tb_fr S F P A A2 := ⟨fun o k a b => (g.1 o k a b).trans (h.1 o k a b), fun o k a => (g.2.1 o k a).trans (h.2.1 o k a), fun o k a => (g.2.2 o k a).trans (h.2.2 o k a)⟩
theorem tb_nc {S S' : List Nat} (h : S.all S'.contains = true) {o : Nat} (ho : S'.contains o = false) : S.contains o = false := by
  rw [← Bool.not_eq_true] at ho ⊢
  intro hc
  exact ho (List.all_eq_true.mp h o (by simpa using hc))
theorem tb_fr.mono {S S' : List Nat} {F F' : List (Nat × Int)} {P P' : List Nat} (h : tb_fr S F P A A1) (hS : S.all S'.contains = true) (hF : F.all (fun q => S'.contains q.1 || F'.contains q) = true) (hP : P.all P'.contains = true) : tb_fr S' F' P' A A1 := by
  refine ⟨fun o k a b => h.1 o k (tb_nc hS a) ?_, fun o k a => h.2.1 o k (tb_nc hS a), fun o k a => h.2.2 o k (tb_nc hP a)⟩
  rw [← Bool.not_eq_true]
  intro hc
  have := List.all_eq_true.mp hF (o, k) (by simpa using hc)
  rw [a, b] at this
  cases this
theorem tb_fr.upI {S : List Nat} {F : List (Nat × Int)} {P : List Nat} {o : Nat} {k x : Int} (h : tb_fr S F P A A1) (ho : (S.contains o || F.contains (o, k)) = true) : tb_fr S F P A (tb_upI A1 o k x) := by
  refine ⟨fun o' k' a b => ?_, h.2.1, h.2.2⟩
  rw [tb_uI1, if_neg ?_]
  · exact h.1 o' k' a b
  · rintro ⟨rfl, rfl⟩
    rw [a, b] at ho
    cases ho
theorem tb_fr.upL {S : List Nat} {F : List (Nat × Int)} {P : List Nat} {o : Nat} {k x : Int} (h : tb_fr S F P A A1) (ho : S.contains o = true) : tb_fr S F P A (tb_upL A1 o k x) := by
  refine ⟨h.1, fun o' k' a => ?_, h.2.2⟩
  rw [tb_uL2, if_neg ?_]
  · exact h.2.1 o' k' a
  · rintro ⟨rfl, rfl⟩
    rw [a] at ho
    cases ho
theorem tb_fr.upP {S : List Nat} {F : List (Nat × Int)} {P : List Nat} {o : Nat} {k : Int} {x : Nat} (h : tb_fr S F P A A1) (ho : P.contains o = true) : tb_fr S F P A (tb_upP A1 o k x) := by
  refine ⟨h.1, h.2.1, fun o' k' a => ?_⟩
  rw [tb_uP3, if_neg ?_]
  · exact h.2.2 o' k' a
  · rintro ⟨rfl, rfl⟩
    rw [a] at ho
    cases ho
theorem tb_fr.cpy {S : List Nat} {F : List (Nat × Int)} {P : List Nat} {o q : Nat} {sp dp n : Int} (h : tb_fr S F P A A1) (ho : S.contains q = true) : tb_fr S F P A (tb_cpy A1 o sp q dp n) := by
  refine ⟨fun o' k' a b => ?_, h.2.1, h.2.2⟩
  show (if o' = q ∧ _ then _ else _) = _
  rw [if_neg ?_]
  · exact h.1 o' k' a b
  · rintro ⟨rfl, _⟩
    rw [a] at ho
    cases ho
/-- a sum over 0 .. n - 1 -/
def tb_sm (f : Int → Int) : Nat → Int
  | 0 => 0
  | n + 1 => tb_sm f n + f n
def tb_sum (f : Int → Int) (n : Int) : Int := tb_sm f n.toNat
theorem tb_sum_0 {f : Int → Int} : tb_sum f 0 = 0 := rfl
theorem tb_sum_s {f : Int → Int} {i : Int} (h : 0 ≤ i) : tb_sum f (i + 1) = tb_sum f i + f i := by
  unfold tb_sum
  rw [show (i + 1).toNat = i.toNat + 1 by omega, tb_sm, Int.toNat_of_nonneg h]
theorem tb_ind {P : Int → Prop} (h0 : P 0) (hs : ∀ i, 0 ≤ i → P i → P (i + 1)) : ∀ n, 0 ≤ n → P n := by
  intro n hn
  obtain ⟨k, rfl⟩ := Int.eq_ofNat_of_zero_le hn
  induction k with
  | zero => exact h0
  | succ k ih => exact hs _ (by omega) (ih (by omega))
theorem tb_indN {P : Int → Prop} {N : Int} (h0 : P 0) (hs : ∀ i, 0 ≤ i → i < N → P i → P (i + 1)) : ∀ n, 0 ≤ n → n ≤ N → P n := by
  refine tb_ind (P := fun n => n ≤ N → P n) (fun _ => h0) ?_
  intro i h0 ih h1
  exact hs i h0 (by omega) (ih (by omega))
theorem tb_sum_le {f : Int → Int} {c n : Int} (hn : 0 ≤ n) (h : ∀ i, 0 ≤ i → i < n → f i ≤ c) : tb_sum f n ≤ n * c := by
  refine tb_indN (P := fun m => tb_sum f m ≤ m * c) (N := n) (by rw [tb_sum_0]; omega) ?_ n hn (by omega)
  intro i h0 h1 ih
  rw [tb_sum_s h0, Int.add_mul]
  have := h i h0 h1
  omega
theorem tb_sum_ge {f : Int → Int} {c n : Int} (hn : 0 ≤ n) (h : ∀ i, 0 ≤ i → i < n → c ≤ f i) : n * c ≤ tb_sum f n := by
  refine tb_indN (P := fun m => m * c ≤ tb_sum f m) (N := n) (by rw [tb_sum_0]; omega) ?_ n hn (by omega)
  intro i h0 h1 ih
  rw [tb_sum_s h0, Int.add_mul]
  have := h i h0 h1
  omega
theorem tb_sum_bd {f : Int → Int} {c N n : Int} (hn : 0 ≤ n) (hN : n ≤ N) (hc : 0 ≤ c) (h : ∀ i, 0 ≤ i → i < n → 0 ≤ f i ∧ f i ≤ c) : 0 ≤ tb_sum f n ∧ tb_sum f n ≤ N * c := by
  have h1 := tb_sum_le (c := c) hn (fun i a b => (h i a b).2)
  have h2 := tb_sum_ge (c := 0) hn (fun i a b => (h i a b).1)
  have h3 : n * c ≤ N * c := Int.mul_le_mul_of_nonneg_right hN hc
  omega
theorem tb_sum_ab {f : Int → Int} {c N n : Int} (hn : 0 ≤ n) (hN : n ≤ N) (hc : 0 ≤ c) (h : ∀ i, 0 ≤ i → i < n → -c ≤ f i ∧ f i ≤ c) : -(N * c) ≤ tb_sum f n ∧ tb_sum f n ≤ N * c := by
  have h1 := tb_sum_le (c := c) hn (fun i a b => (h i a b).2)
  have h2 := tb_sum_ge (c := -c) hn (fun i a b => (h i a b).1)
  have h3 : n * c ≤ N * c := Int.mul_le_mul_of_nonneg_right hN hc
  rw [Int.mul_neg] at h2
  omega
theorem tb_sum_congr {f g : Int → Int} {n : Int} (hn : 0 ≤ n) (h : ∀ i, 0 ≤ i → i < n → f i = g i) : tb_sum f n = tb_sum g n := by
  refine tb_indN (P := fun m => tb_sum f m = tb_sum g m) (N := n) rfl ?_ n hn (by omega)
  intro i h0 h1 ih
  rw [tb_sum_s h0, tb_sum_s h0, ih, h i h0 h1]
/-- a loop that counts up -/
theorem tb_lp {E : Int → Prop} {n : Int} (hn : 0 ≤ n) (he : E n) (hs : ∀ i, 0 ≤ i → i < n → E (i + 1) → E i) : E 0 := by
  have key : ∀ k : Nat, ∀ i : Int, 0 ≤ i → i + k = n → E i := by
    intro k
    induction k with
    | zero =>
      intro i h0 h1
      have : i = n := by omega
      rw [this]; exact he
    | succ k ih =>
      intro i h0 h1
      exact hs i h0 (by omega) (ih (i + 1) (by omega) (by omega))
  exact key n.toNat 0 (by omega) (by omega)
/-- and down, from n - 1 to -1 -/
theorem tb_ld {E : Int → Prop} {n : Int} (hn : 0 ≤ n) (he : E (-1)) (hs : ∀ i, 0 ≤ i → i < n → E (i - 1) → E i) : E (n - 1) := by
  refine tb_indN (P := fun m => E (m - 1)) (N := n) (by rw [show (0 - 1 : Int) = -1 from rfl]; exact he) ?_ n hn (by omega)
  intro i h0 h1 ih
  have : i + 1 - 1 = i := by omega
  rw [this]
  exact hs i h0 h1 ih
/-- what comes back is one thing: a call is an equation -/
theorem tb_run_eq {P : tb_T} {n m y pc : Nat} {lv st : List tb_V} {r r' : Nat × List tb_V × List tb_V × tb_H} (h : tb_run P X n y pc lv st A = some r) (h' : tb_run P X m y pc lv st A = some r') : r = r' := by
  have a := tb_run_le (Nat.le_max_left n m) h
  have b := tb_run_le (Nat.le_max_right n m) h'
  exact Option.some.inj (a.symm.trans b)
theorem tb_dei {w : Nat} {as : List tb_V} {v : Int} {K : Int → tb_H → Prop} (h : tb_Ci X w as A (fun v' A' => v' = v ∧ A' = A0)) : tb_Ci X w as A K = K v A0 := by
  refine propext ⟨?_, fun k => h.imp (fun v' A' q => by rw [q.1, q.2]; exact k)⟩
  rintro ⟨n, a, b, c, d, hr, _, v1, hc, hk⟩
  obtain ⟨m, a', b', c', d', hr', _, v2, hc', h1, h2⟩ := h
  have e := tb_run_eq hr hr'
  have ec : c = c' := congrArg (fun q => q.2.2.1) e
  have ed : d = d' := congrArg (fun q => q.2.2.2) e
  subst h1; subst h2; subst ec; subst ed
  rw [hc] at hc'
  have : v1 = v2 := by simpa using hc'
  rw [← this]; exact hk
theorem tb_dej {w : Nat} {as : List tb_V} {v : Int} {K : Int → tb_H → Prop} (h : tb_Cj X w as A (fun v' A' => v' = v ∧ A' = A0)) : tb_Cj X w as A K = K v A0 := by
  refine propext ⟨?_, fun k => h.imp (fun v' A' q => by rw [q.1, q.2]; exact k)⟩
  rintro ⟨n, a, b, c, d, hr, _, v1, hc, hk⟩
  obtain ⟨m, a', b', c', d', hr', _, v2, hc', h1, h2⟩ := h
  have e := tb_run_eq hr hr'
  have ec : c = c' := congrArg (fun q => q.2.2.1) e
  have ed : d = d' := congrArg (fun q => q.2.2.2) e
  subst h1; subst h2; subst ec; subst ed
  rw [hc] at hc'
  have : v1 = v2 := by simpa using hc'
  rw [← this]; exact hk
theorem tb_dev {w : Nat} {as : List tb_V} {K : tb_H → Prop} (h : tb_Cv X w as A (fun A' => A' = A0)) : tb_Cv X w as A K = K A0 := by
  refine propext ⟨?_, fun k => h.imp (fun A' q => by rw [q]; exact k)⟩
  rintro ⟨n, a, b, c, d, hr, _, hc, hk⟩
  obtain ⟨m, a', b', c', d', hr', _, hc', h2⟩ := h
  have e := tb_run_eq hr hr'
  have ed : d = d' := congrArg (fun q => q.2.2.2) e
  subst h2; subst ed
  exact hk
theorem tb_it {c : Prop} [Decidable c] : ((if c then (1 : Int) else 0) = 0) = ¬ c := by by_cases h : c <;> simp [h]
theorem tb_if {c : Prop} [Decidable c] : ((if c then (0 : Int) else 1) = 0) = c := by by_cases h : c <;> simp [h]
/-- objects, fields, references that a frame leaves alone -/
def tb_av (S : List Nat) (F : List (Nat × Int)) (P : List Nat) (os : List Nat) (fs : List (Nat × Int)) (ps : List Nat) : Bool := os.all (fun o => !S.contains o && F.all (fun q => q.1 != o)) && fs.all (fun q => !S.contains q.1 && !F.contains q) && ps.all (fun p => !P.contains p)
section TBAV
variable {S : List Nat} {F : List (Nat × Int)} {P : List Nat} {os : List Nat} {fs : List (Nat × Int)} {ps : List Nat}
theorem tb_fr.o (hf : tb_fr S F P A A1) (c : tb_av S F P os fs ps = true) {o : Nat} (ho : os.contains o = true) : A1.1 o = A.1 o := by
  funext k
  unfold tb_av at c
  simp only [Bool.and_eq_true] at c
  have h := List.all_eq_true.mp c.1.1 o (by simpa using ho)
  simp only [Bool.and_eq_true, Bool.not_eq_true'] at h
  refine hf.1 o k h.1 ?_
  rw [← Bool.not_eq_true]
  intro hc
  have := List.all_eq_true.mp h.2 (o, k) (by simpa using hc)
  simp at this
theorem tb_fr.f (hf : tb_fr S F P A A1) (c : tb_av S F P os fs ps = true) {o : Nat} {k : Int} (ho : fs.contains (o, k) = true) : A1.1 o k = A.1 o k := by
  unfold tb_av at c
  simp only [Bool.and_eq_true] at c
  have h := List.all_eq_true.mp c.1.2 (o, k) (by simpa using ho)
  simp only [Bool.and_eq_true, Bool.not_eq_true'] at h
  exact hf.1 o k h.1 h.2
theorem tb_fr.p (hf : tb_fr S F P A A1) (c : tb_av S F P os fs ps = true) {o : Nat} (ho : ps.contains o = true) : A1.2.2 o = A.2.2 o := by
  funext k
  unfold tb_av at c
  simp only [Bool.and_eq_true] at c
  have h := List.all_eq_true.mp c.2 o (by simpa using ho)
  exact hf.2.2 o k (by simpa using h)
end TBAV
end TBBASE
