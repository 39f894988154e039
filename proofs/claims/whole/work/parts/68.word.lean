/-! STEER 1: words of turns -/
section TEWORD
/-- the spot behind a word of l turns, told base 3 with a 1 ahead -/
def te_W (nx : Int → Int → Int) (s0 : Int) : Nat → Int → Int
  | 0, _ => s0
  | l + 1, m => nx (te_W nx s0 l (m / 3)) (m % 3)
/-- m is a word of l turns that are let -/
def te_ok (al : Int → Prop) : Nat → Int → Prop
  | 0, m => m = 1
  | l + 1, m => te_ok al l (m / 3) ∧ al (m % 3)
/-- turn i of it -/
def te_tn : Nat → Int → Int → Int
  | 0, _, _ => 0
  | l + 1, m, i => if i = l then m % 3 else te_tn l (m / 3) i
variable {al : Int → Prop} {nx : Int → Int → Int} {s0 : Int}
theorem te_ok_1 : ∀ {l : Nat} {m : Int}, te_ok al l m → 1 ≤ m
  | 0, m, h => by
    have h' : m = 1 := h
    omega
  | l + 1, m, h => by
    have := te_ok_1 (l := l) h.1
    omega
theorem te_ok_lt : ∀ {l l' : Nat} {m m' : Int}, te_ok al l m → te_ok al l' m' → l < l' → m < m'
  | 0, 0, _, _, _, _, h => absurd h (by omega)
  | 0, l' + 1, m, m', h, h', _ => by
    have e : m = 1 := h
    have := te_ok_1 (l := l') h'.1
    omega
  | l + 1, 0, _, _, _, _, h => absurd h (by omega)
  | l + 1, l' + 1, m, m', h, h', q => by
    have := te_ok_lt (l := l) (l' := l') h.1 h'.1 (by omega)
    omega
theorem te_ok_le {l l' : Nat} {m m' : Int} (h : te_ok al l m) (h' : te_ok al l' m') (q : m ≤ m') : l ≤ l' := by
  by_cases c : l ≤ l'
  · exact c
  · have := te_ok_lt h' h (by omega)
    omega
theorem te_ok_c {l : Nat} {m t : Int} (h : te_ok al l m) (t0 : 0 ≤ t) (t2 : t ≤ 2) (a : al t) : te_ok al (l + 1) (3 * m + t) := by
  refine ⟨?_, ?_⟩
  · rw [show (3 * m + t) / 3 = m by omega]; exact h
  · rw [show (3 * m + t) % 3 = t by omega]; exact a
theorem te_W_c {l : Nat} {m t : Int} (t0 : 0 ≤ t) (t2 : t ≤ 2) : te_W nx s0 (l + 1) (3 * m + t) = nx (te_W nx s0 l m) t := by
  show nx (te_W nx s0 l ((3 * m + t) / 3)) ((3 * m + t) % 3) = _
  rw [show (3 * m + t) / 3 = m by omega, show (3 * m + t) % 3 = t by omega]
theorem te_tn_c {l : Nat} {m t i : Int} (t0 : 0 ≤ t) (t2 : t ≤ 2) : te_tn (l + 1) (3 * m + t) i = if i = l then t else te_tn l m i := by
  show (if i = l then (3 * m + t) % 3 else te_tn l ((3 * m + t) / 3) i) = _
  rw [show (3 * m + t) / 3 = m by omega, show (3 * m + t) % 3 = t by omega]
theorem te_W_in {D : Int → Prop} (h0 : D s0) (hn : ∀ p t, D p → 0 ≤ t → t ≤ 2 → D (nx p t)) : ∀ (l : Nat) (m : Int), D (te_W nx s0 l m)
  | 0, _ => h0
  | l + 1, m => hn _ _ (te_W_in h0 hn l (m / 3)) (by omega) (by omega)
theorem te_W_map {nx' : Int → Int → Int} {g : Int → Int} {D : Int → Prop} (h0 : D s0) (hn : ∀ p t, D p → 0 ≤ t → t ≤ 2 → D (nx p t)) (hg : ∀ p t, D p → 0 ≤ t → t ≤ 2 → g (nx p t) = nx' (g p) t) : ∀ (l : Nat) (m : Int), te_W nx' (g s0) l m = g (te_W nx s0 l m)
  | 0, _ => rfl
  | l + 1, m => by
    show nx' (te_W nx' (g s0) l (m / 3)) (m % 3) = g (nx (te_W nx s0 l (m / 3)) (m % 3))
    rw [te_W_map h0 hn hg l (m / 3), hg _ _ (te_W_in h0 hn l (m / 3)) (by omega) (by omega)]
/-- what steer asks: the least word, of 40 turns at most, that leads to where G is; n its turns, -2 without one -/
def te_ST (al : Int → Prop) (nx : Int → Int → Int) (s0 : Int) (G : Int → Prop) (n m : Int) : Prop := (n = -2 ∧ ∀ (l : Nat) (m' : Int), l ≤ 40 → te_ok al l m' → ¬ G (te_W nx s0 l m')) ∨ ((0 ≤ n ∧ n ≤ 40) ∧ te_ok al n.toNat m ∧ G (te_W nx s0 n.toNat m) ∧ ∀ (l : Nat) (m' : Int), l ≤ 40 → te_ok al l m' → G (te_W nx s0 l m') → m ≤ m')
theorem te_ST.u {G : Int → Prop} {n m n' m' : Int} (h : te_ST al nx s0 G n m) (h' : te_ST al nx s0 G n' m') : n = n' ∧ (n ≠ -2 → m = m') := by
  rcases h with h | h <;> rcases h' with h' | h'
  · exact ⟨h.1.trans h'.1.symm, fun q => absurd h.1 q⟩
  · exact absurd h'.2.2.1 (h.2 n'.toNat m' (by omega) h'.2.1)
  · exact absurd h.2.2.1 (h'.2 n.toNat m (by omega) h.2.1)
  · have a := h.2.2.2 n'.toNat m' (by omega) h'.2.1 h'.2.2.1
    have b := h'.2.2.2 n.toNat m (by omega) h.2.1 h.2.2.1
    have e : m = m' := by omega
    have c := te_ok_le h.2.1 h'.2.1 a
    have d := te_ok_le h'.2.1 h.2.1 b
    exact ⟨by omega, fun _ => e⟩
theorem te_ST.map {nx' : Int → Int → Int} {g : Int → Int} {D : Int → Prop} {G G' : Int → Prop} (h0 : D s0) (hn : ∀ p t, D p → 0 ≤ t → t ≤ 2 → D (nx p t)) (hg : ∀ p t, D p → 0 ≤ t → t ≤ 2 → g (nx p t) = nx' (g p) t) (hG : ∀ p, D p → (G' (g p) ↔ G p)) {n m : Int} (h : te_ST al nx' (g s0) G' n m) : te_ST al nx s0 G n m := by
  have e : ∀ (l : Nat) (m : Int), G' (te_W nx' (g s0) l m) ↔ G (te_W nx s0 l m) := fun l m => by
    rw [te_W_map h0 hn hg l m]
    exact hG _ (te_W_in h0 hn l m)
  rcases h with h | h
  · exact Or.inl ⟨h.1, fun l m' a b c => h.2 l m' a b ((e l m').mpr c)⟩
  · exact Or.inr ⟨h.1, h.2.1, (e _ _).mp h.2.2.1, fun l m' a b c => h.2.2.2 l m' a b ((e l m').mpr c)⟩
/-- how many of 0 .. 799 are marked -/
def te_ct (d : Int → Int) : Int := tb_sum (fun s => if d s = -1 then 0 else 1) 800
theorem te_ct_b {d : Int → Int} {b : Int} (b0 : 0 ≤ b) (b1 : b < 800) (h : d b = -1) : te_ct d < 800 := by
  have z := te_sum_up (g := fun s => if d s = -1 then (0 : Int) else 1) (h := fun s => if s = b then (1 : Int) else if d s = -1 then 0 else 1) b0 b1 (fun i _ _ ne => if_neg ne)
  have u := tb_sum_le (f := fun s => if s = b then (1 : Int) else if d s = -1 then 0 else 1) (c := 1) (n := 800) (by decide) (fun i _ _ => by
    show (if i = b then (1 : Int) else if d i = -1 then 0 else 1) ≤ 1
    ((repeat' split) <;> omega))
  rw [if_pos h, if_pos rfl] at z
  unfold te_ct
  omega
theorem te_ct_s {d d' : Int → Int} {b : Int} (b0 : 0 ≤ b) (b1 : b < 800) (h : d b = -1) (h' : d' b ≠ -1) (e : ∀ i, 0 ≤ i → i < 800 → i ≠ b → d' i = d i) : te_ct d' = te_ct d + 1 := by
  have z := te_sum_up (g := fun s => if d s = -1 then (0 : Int) else 1) (h := fun s => if d' s = -1 then (0 : Int) else 1) b0 b1 (fun i i0 i1 ne => by
    show (if d' i = -1 then (0 : Int) else 1) = if d i = -1 then 0 else 1
    rw [e i i0 i1 ne])
  rw [if_pos h, if_neg h'] at z
  unfold te_ct
  omega
theorem te_ct_0 {d : Int → Int} (h : ∀ s, 0 ≤ s → s < 800 → d s = -1) : te_ct d = 0 := by
  unfold te_ct
  have a := tb_sum_le (f := fun s => if d s = -1 then (0 : Int) else 1) (c := 0) (n := 800) (by decide) (fun i i0 i1 => by
    show (if d i = -1 then (0 : Int) else 1) ≤ 0
    rw [if_pos (h i i0 i1)]
    decide)
  have b := tb_sum_ge (f := fun s => if d s = -1 then (0 : Int) else 1) (c := 0) (n := 800) (by decide) (fun i i0 i1 => by
    show 0 ≤ (if d i = -1 then (0 : Int) else 1)
    ((repeat' split) <;> omega))
  omega
end TEWORD
