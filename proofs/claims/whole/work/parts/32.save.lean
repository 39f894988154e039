/-! save, saved: the most worth that can be tied -/
section TBSAVE
variable {X : tb_X} {A D : tb_H} {K : Int → tb_H → Prop} {Kv : tb_H → Prop}
theorem tb_sum_cut {f : Int → Int} {n : Int} (hn : 0 ≤ n) : ∀ m, n ≤ m → (∀ i, n ≤ i → i < m → f i = 0) → tb_sum f m = tb_sum f n := by
  intro m hm h
  have key : ∀ k : Nat, n + k ≤ m → tb_sum f (n + k) = tb_sum f n := by
    intro k
    induction k with
    | zero => intro _; rw [show n + ((0 : Nat) : Int) = n by omega]
    | succ k ih =>
      intro hk
      rw [show n + ((k + 1 : Nat) : Int) = n + k + 1 by omega, tb_sum_s (by omega), ih (by omega), h (n + k) (by omega) (by omega), Int.add_zero]
  have := key (m - n).toNat (by omega)
  rwa [show n + ((m - n).toNat : Int) = m by omega] at this
def tb_wth (r : Int → Int) (x h : Int) : Int := if tb_bt x h = 1 then r (51 + h) else 0
def tb_tis (r : Int → Int) (x h : Int) : Int := if tb_bt x h = 1 then r (45 + h) else 0
def tb_ned (r s : Int → Int) (x h : Int) : Int := if tb_bt x h = 1 ∧ s (21 + h) = 0 then r (45 + h) else 0
def tc_W (r : Int → Int) (x : Int) : Int := tb_sum (tb_wth r x) (r 113)
def tb_N (r s : Int → Int) (x : Int) : Int := tb_sum (tb_ned r s x) (r 113)
def tb_the (r s : Int → Int) (h : Int) : Prop := h < r 113 ∧ s (15 + h) = 0
def tb_Fe (r s : Int → Int) (m x : Int) : Prop := (∀ h, 0 ≤ h → h < 6 → (tb_bt x h = 1 → tb_the r s h) ∧ (tb_bt x h = 0 → ¬ (tb_the r s h ∧ s (21 + h) = 1))) ∧ tb_N r s x ≤ m
def tb_Be (r s : Int → Int) (m b : Int) : Prop := (0 ≤ b ∧ b < 64) ∧ tb_Fe r s m b ∧ ∀ x, 0 ≤ x → x < 64 → tb_Fe r s m x → tc_W r x < tc_W r b ∨ (tc_W r x = tc_W r b ∧ b ≤ x)
theorem tb_Be.u {r s : Int → Int} {m b b' : Int} (h : tb_Be r s m b) (h' : tb_Be r s m b') : b = b' := by
  have p := h.2.2 b' h'.1.1 h'.1.2 h'.2.1
  have q := h'.2.2 b h.1.1 h.1.2 h.2.1
  omega
theorem tc_M.wB (M : tc_M A) {x n : Int} (h0 : 0 ≤ n) (h1 : n ≤ A.1 80 113) : 0 ≤ tb_sum (tb_wth (A.1 80) x) n ∧ tb_sum (tb_wth (A.1 80) x) n ≤ 594 := by
  have := M.c113
  have := tb_sum_bd (f := tb_wth (A.1 80) x) (N := 6) (c := 99) h0 (by omega) (by decide) (fun i a b => by
    have := M.v51 a (show i < A.1 80 113 by omega)
    unfold tb_wth
    split <;> omega)
  omega
theorem tc_M.tB (M : tc_M A) {x n : Int} (h0 : 0 ≤ n) (h1 : n ≤ A.1 80 113) : 0 ≤ tb_sum (tb_tis (A.1 80) x) n ∧ tb_sum (tb_tis (A.1 80) x) n ≤ 360 := by
  have := M.c113
  have := tb_sum_bd (f := tb_tis (A.1 80) x) (N := 6) (c := 60) h0 (by omega) (by decide) (fun i a b => by
    have := M.v45 a (show i < A.1 80 113 by omega)
    unfold tb_tis
    split <;> omega)
  omega
theorem tc_M.nB (M : tc_M A) {x n : Int} (h0 : 0 ≤ n) (h1 : n ≤ A.1 80 113) : 0 ≤ tb_sum (tb_ned (A.1 80) (A.1 82) x) n ∧ tb_sum (tb_ned (A.1 80) (A.1 82) x) n ≤ 360 := by
  have := M.c113
  have := tb_sum_bd (f := tb_ned (A.1 80) (A.1 82) x) (N := 6) (c := 60) h0 (by omega) (by decide) (fun i a b => by
    have := M.v45 a (show i < A.1 80 113 by omega)
    unfold tb_ned
    split <;> omega)
  omega
/-- the reference's sums over a set -/
theorem e313 (M : tc_M A) {x : Int} : tb_Ci X 313 [tb_r 77, tb_i x] A K = K (tc_W (A.1 80) x) A := by
  have c := M.c113
  refine tb_dei (q313 ?_)
  refine tb_lp (E := fun i => tb_E X 313 4 [tb_r 77, tb_i x, tb_i (tb_sum (tb_wth (A.1 80) x) i), tb_i i] [] A (tb_Ri 313 _)) c.1 ?_ ?_
  · exact q313_4 ⟨fun _ => ⟨rfl, rfl⟩, fun q => by omega⟩
  · intro i i0 i1 ih
    have b := M.wB (x := x) i0 (by omega)
    have v := M.v51 i0 i1
    rw [tb_sum_s i0] at ih
    refine q313_4 ⟨fun q => by omega, fun _ => ?_⟩
    rw [e224, tb_w_id (x := i + 1) (by omega) (by omega), tb_w_id (x := 51 + i) (by omega) (by omega)]
    unfold tb_wth at ih
    unfold tb_wth at b ⊢
    rcases tb_bt01 x i with z | z
    · rw [if_neg (by rw [z]; decide), Int.add_zero] at ih
      rw [show tb_and (tb_shr x i) 1 = 0 from z, if_pos (by decide), tb_w_id (by omega) (by omega), Int.add_zero]
      exact ⟨fun _ => ih, fun q => absurd rfl q⟩
    · rw [if_pos z] at ih
      rw [show tb_and (tb_shr x i) 1 = 1 from z, if_neg (by decide), tb_w_id (x := _ + A.1 80 (51 + i)) (by omega) (by omega)]
      exact ⟨fun q => absurd q (by decide), fun _ => ⟨by omega, ih⟩⟩
theorem e312 (M : tc_M A) {x : Int} : tb_Ci X 312 [tb_r 77, tb_i x] A K = K (tb_sum (tb_tis (A.1 80) x) (A.1 80 113)) A := by
  have c := M.c113
  refine tb_dei (q312 ?_)
  refine tb_lp (E := fun i => tb_E X 312 4 [tb_r 77, tb_i x, tb_i (tb_sum (tb_tis (A.1 80) x) i), tb_i i] [] A (tb_Ri 312 _)) c.1 ?_ ?_
  · exact q312_4 ⟨fun _ => ⟨rfl, rfl⟩, fun q => by omega⟩
  · intro i i0 i1 ih
    have b := M.tB (x := x) i0 (by omega)
    have v := M.v45 i0 i1
    rw [tb_sum_s i0] at ih
    refine q312_4 ⟨fun q => by omega, fun _ => ?_⟩
    rw [e224, tb_w_id (x := i + 1) (by omega) (by omega), tb_w_id (x := 45 + i) (by omega) (by omega)]
    unfold tb_tis at ih
    unfold tb_tis at b ⊢
    rcases tb_bt01 x i with z | z
    · rw [if_neg (by rw [z]; decide), Int.add_zero] at ih
      rw [show tb_and (tb_shr x i) 1 = 0 from z, if_pos (by decide), tb_w_id (by omega) (by omega), Int.add_zero]
      exact ⟨fun _ => ih, fun q => absurd rfl q⟩
    · rw [if_pos z] at ih
      rw [show tb_and (tb_shr x i) 1 = 1 from z, if_neg (by decide), tb_w_id (x := _ + A.1 80 (45 + i)) (by omega) (by omega)]
      exact ⟨fun q => absurd q (by decide), fun _ => ⟨by omega, ih⟩⟩
/-- a set told by a test -/
def tb_ors (p : Int → Bool) : Nat → Int
  | 0 => 0
  | n + 1 => tb_or (tb_ors p n) (if p n then tb_shl 1 n else 0)
theorem tb_ors_b (p : Int → Bool) : ∀ n : Nat, n ≤ 6 → (0 ≤ tb_ors p n ∧ tb_ors p n < 64) ∧ ∀ h, 0 ≤ h → h < 6 → tb_bt (tb_ors p n) h = if h < n ∧ p h = true then 1 else 0 := by
  intro n
  induction n with
  | zero =>
    intro _
    show (0 ≤ (0 : Int) ∧ (0 : Int) < 64) ∧ ∀ h, 0 ≤ h → h < 6 → tb_bt 0 h = _
    refine ⟨by decide, fun h h0 h1 => ?_⟩
    rw [if_neg (by omega)]
    have : h = 0 ∨ h = 1 ∨ h = 2 ∨ h = 3 ∨ h = 4 ∨ h = 5 := by omega
    rcases this with rfl | rfl | rfl | rfl | rfl | rfl <;> decide
  | succ n ih =>
    intro hn
    have i := ih (by omega)
    unfold tb_ors
    have f := tb_setf i.1.1 i.1.2 (h := n) (by omega) (by omega)
    cases hp : p n
    · simp only [Bool.false_eq_true, if_false]
      rw [f.2.1]
      refine ⟨i.1, fun h h0 h1 => ?_⟩
      rw [i.2 h h0 h1]
      by_cases e : h = n
      · rw [if_neg (by omega), if_neg (by rw [e, hp]; simp)]
      · by_cases c : h < n ∧ p h = true
        · rw [if_pos c, if_pos ⟨by omega, c.2⟩]
        · rw [if_neg c, if_neg (fun q => c ⟨by omega, q.2⟩)]
    · simp only [if_true]
      refine ⟨f.1, fun h h0 h1 => ?_⟩
      rw [f.2.2 h h0 h1, i.2 h h0 h1]
      by_cases e : h = n
      · rw [if_pos e, if_pos ⟨by omega, by rw [e, hp]⟩]
      · rw [if_neg e]
        by_cases c : h < n ∧ p h = true
        · rw [if_pos c, if_pos ⟨by omega, c.2⟩]
        · rw [if_neg c, if_neg (fun q => c ⟨by omega, q.2⟩)]
def tb_ts (r s : Int → Int) : Int := tb_ors (fun h => decide (s (15 + h) = 0)) (r 113).toNat
def tb_ds (r s : Int → Int) : Int := tb_ors (fun h => decide (s (15 + h) = 0 ∧ s (21 + h) = 1)) (r 113).toNat
theorem e311 (M : tc_M A) : tb_Ci X 311 [tb_r 77] A K = K (tb_ts (A.1 80) (A.1 82)) A := by
  have c := M.c113
  refine tb_dei (q311 ?_)
  refine tb_lp (E := fun i => tb_E X 311 4 [tb_r 77, tb_i (tb_ors (fun h => decide (A.1 82 (15 + h) = 0)) i.toNat), tb_i i] [] A (tb_Ri 311 _)) c.1 ?_ ?_
  · exact q311_4 ⟨fun _ => ⟨rfl, rfl⟩, fun q => by omega⟩
  · intro i i0 i1 ih
    refine q311_4 ⟨fun q => by omega, fun _ => ?_⟩
    rw [tb_w_id (x := i + 1) (by omega) (by omega), tb_w_id (x := 15 + i) (by omega) (by omega)]
    refine ⟨by omega, ?_⟩
    rw [show (i + 1).toNat = i.toNat + 1 by omega] at ih
    unfold tb_ors at ih
    rw [show ((i.toNat : Nat) : Int) = i by omega] at ih
    by_cases z : A.1 82 (15 + i) = 0
    · rw [if_neg (fun q => q z)]
      simp only [z, decide_true, if_true] at ih
      exact ih
    · rw [if_pos z]
      simp only [z, decide_false, Bool.false_eq_true, if_false] at ih
      exact ih
theorem e255 (M : tc_M A) : tb_Ci X 255 [tb_r 77] A K = K (tb_ds (A.1 80) (A.1 82)) A := by
  have c := M.c113
  refine tb_dei (q255 ?_)
  refine tb_lp (E := fun i => tb_E X 255 4 [tb_r 77, tb_i (tb_ors (fun h => decide (A.1 82 (15 + h) = 0 ∧ A.1 82 (21 + h) = 1)) i.toNat), tb_i i] [] A (tb_Ri 255 _)) c.1 ?_ ?_
  · exact q255_4 ⟨fun _ => ⟨rfl, rfl⟩, fun q => by omega⟩
  · intro i i0 i1 ih
    refine q255_4 ⟨fun q => by omega, fun _ => ?_⟩
    rw [tb_w_id (x := i + 1) (by omega) (by omega), tb_w_id (x := 15 + i) (by omega) (by omega), tb_w_id (x := 21 + i) (by omega) (by omega)]
    rw [show (i + 1).toNat = i.toNat + 1 by omega] at ih
    unfold tb_ors at ih
    rw [show ((i.toNat : Nat) : Int) = i by omega] at ih
    refine ⟨by omega, fun z => ?_, fun z => ⟨by omega, ?_⟩⟩
    · simp only [z, false_and, decide_false, Bool.false_eq_true, if_false] at ih
      exact ih
    · by_cases y : A.1 82 (21 + i) = 1
      · rw [if_neg (fun q => q y)]
        simp only [z, y, and_self, decide_true, if_true] at ih
        exact ih
      · rw [if_pos y]
        simp only [z, y, and_false, decide_false, Bool.false_eq_true, if_false] at ih
        exact ih
theorem tc_M.tsb (M : tc_M A) : (0 ≤ tb_ts (A.1 80) (A.1 82) ∧ tb_ts (A.1 80) (A.1 82) < 64) ∧ ∀ h, 0 ≤ h → h < 6 → (tb_bt (tb_ts (A.1 80) (A.1 82)) h = 1 ↔ tb_the (A.1 80) (A.1 82) h) := by
  have c := M.c113
  have t := tb_ors_b (fun h => decide (A.1 82 (15 + h) = 0)) (A.1 80 113).toNat (by omega)
  refine ⟨t.1, fun h h0 h1 => ?_⟩
  unfold tb_ts
  rw [t.2 h h0 h1]
  unfold tb_the
  constructor
  · intro q
    by_cases e : h < ((A.1 80 113).toNat : Int) ∧ decide (A.1 82 (15 + h) = 0) = true
    · exact ⟨by omega, of_decide_eq_true e.2⟩
    · rw [if_neg e] at q
      exact absurd q (by decide)
  · intro q
    rw [if_pos ⟨by omega, decide_eq_true q.2⟩]
theorem tc_M.dsb (M : tc_M A) : (0 ≤ tb_ds (A.1 80) (A.1 82) ∧ tb_ds (A.1 80) (A.1 82) < 64) ∧ ∀ h, 0 ≤ h → h < 6 → (tb_bt (tb_ds (A.1 80) (A.1 82)) h = 1 ↔ tb_the (A.1 80) (A.1 82) h ∧ A.1 82 (21 + h) = 1) := by
  have c := M.c113
  have t := tb_ors_b (fun h => decide (A.1 82 (15 + h) = 0 ∧ A.1 82 (21 + h) = 1)) (A.1 80 113).toNat (by omega)
  refine ⟨t.1, fun h h0 h1 => ?_⟩
  unfold tb_ds
  rw [t.2 h h0 h1]
  unfold tb_the
  constructor
  · intro q
    by_cases e : h < ((A.1 80 113).toNat : Int) ∧ decide (A.1 82 (15 + h) = 0 ∧ A.1 82 (21 + h) = 1) = true
    · have w := of_decide_eq_true e.2
      exact ⟨⟨by omega, w.1⟩, w.2⟩
    · rw [if_neg e] at q
      exact absurd q (by decide)
  · intro q
    rw [if_pos ⟨by omega, decide_eq_true ⟨q.1.2, q.2⟩⟩]
/-- what the reference asks of a set is that it is feasible -/
theorem tc_M.fe (M : tc_M A) {m x : Int} (x0 : 0 ≤ x) (x1 : x < 64) : tb_Fe (A.1 80) (A.1 82) m x ↔ tb_and x (tb_xor (tb_ts (A.1 80) (A.1 82)) (-1)) = 0 ∧ tb_and (tb_ds (A.1 80) (A.1 82)) (tb_xor x (-1)) = 0 ∧ tb_sum (tb_tis (A.1 80) (tb_and x (tb_xor (tb_ds (A.1 80) (A.1 82)) (-1)))) (A.1 80 113) ≤ m := by
  have c := M.c113
  have t := M.tsb
  have d := M.dsb
  have a := tb_sub x0 x1 t.1.1 t.1.2
  have b := tb_sub d.1.1 d.1.2 x0 x1
  have e := tb_sub x0 x1 d.1.1 d.1.2
  rw [a.2.2.1, b.2.2.1]
  have ns : (∀ h, 0 ≤ h → h < 6 → tb_bt x h = 1 → tb_the (A.1 80) (A.1 82) h) → tb_sum (tb_tis (A.1 80) (tb_and x (tb_xor (tb_ds (A.1 80) (A.1 82)) (-1)))) (A.1 80 113) = tb_N (A.1 80) (A.1 82) x := by
    intro q
    unfold tb_N
    refine tb_sum_congr c.1 (fun h h0 h1 => ?_)
    unfold tb_tis tb_ned
    rw [e.2.1 h h0 (by omega)]
    have y := (M.s15 h0 (show h < 6 by omega)).2
    have dh := d.2 h h0 (by omega)
    by_cases z : tb_bt x h = 1
    · have th := q h h0 (by omega) z
      by_cases w : A.1 82 (21 + h) = 1
      · have d1 : tb_bt (tb_ds (A.1 80) (A.1 82)) h = 1 := dh.mpr ⟨th, w⟩
        simp [z, w, d1]
      · have d0 : tb_bt (tb_ds (A.1 80) (A.1 82)) h = 0 := by
          rcases tb_bt01 (tb_ds (A.1 80) (A.1 82)) h with k | k
          · exact k
          · exact absurd (dh.mp k).2 w
        have w0 : A.1 82 (21 + h) = 0 := by omega
        simp [z, d0, w0]
    · simp [z]
  constructor
  · intro f
    have q : ∀ h, 0 ≤ h → h < 6 → tb_bt x h = 1 → tb_the (A.1 80) (A.1 82) h := fun h h0 h1 z => (f.1 h h0 h1).1 z
    refine ⟨fun h h0 h1 z => (t.2 h h0 h1).mpr (q h h0 h1 z), fun h h0 h1 z => ?_, by rw [ns q]; exact f.2⟩
    rcases tb_bt01 x h with k | k
    · exact absurd ((d.2 h h0 h1).mp z) ((f.1 h h0 h1).2 k)
    · exact k
  · intro f
    have q : ∀ h, 0 ≤ h → h < 6 → tb_bt x h = 1 → tb_the (A.1 80) (A.1 82) h := fun h h0 h1 z => (t.2 h h0 h1).mp (f.1 h h0 h1 z)
    refine ⟨fun h h0 h1 => ⟨q h h0 h1, fun k w => ?_⟩, by rw [← ns q]; exact f.2.2⟩
    have := f.2.1 h h0 h1 ((d.2 h h0 h1).mpr w)
    omega
theorem tc_M.feD (M : tc_M A) {m : Int} (hm : 0 ≤ m) : tb_Fe (A.1 80) (A.1 82) m (tb_ds (A.1 80) (A.1 82)) := by
  have c := M.c113
  have d := M.dsb
  refine ⟨fun h h0 h1 => ⟨fun q => ((d.2 h h0 h1).mp q).1, fun q w => ?_⟩, ?_⟩
  · have := (d.2 h h0 h1).mpr w
    omega
  · have : tb_N (A.1 80) (A.1 82) (tb_ds (A.1 80) (A.1 82)) = 0 := by
      unfold tb_N
      have e := tb_sum_congr (f := tb_ned (A.1 80) (A.1 82) (tb_ds (A.1 80) (A.1 82))) (g := fun _ => 0) c.1 (fun h h0 h1 => by
        unfold tb_ned
        refine if_neg (fun q => ?_)
        have := ((d.2 h h0 (by omega)).mp q.1).2
        omega)
      rw [e]
      have := tb_sum_le (f := fun _ => 0) (c := 0) c.1 (fun _ _ _ => by omega)
      have := tb_sum_ge (f := fun _ => 0) (c := 0) c.1 (fun _ _ _ => by omega)
      omega
    omega
theorem sp310 (M : tc_M A) {m : Int} (hm : 0 ≤ m) (k : ∀ b, tb_Be (A.1 80) (A.1 82) m b → K b A) : tb_Ci X 310 [tb_r 77, tb_i m] A K := by
  have c := M.c113
  have d := M.dsb
  have t := M.tsb
  refine q310 ?_
  rw [e255 M]
  have sh := (tb_cut (x := 0) (by decide) (by decide) c.1 c.2).1
  have key := tb_lm (m := 0) (n := tb_shl 1 (A.1 80 113)) (E := fun i => ∀ b, (0 ≤ b ∧ b < 64) → tb_Fe (A.1 80) (A.1 82) m b → (∀ x, 0 ≤ x → x < i → tb_Fe (A.1 80) (A.1 82) m x → tc_W (A.1 80) x < tc_W (A.1 80) b ∨ (tc_W (A.1 80) x = tc_W (A.1 80) b ∧ b ≤ x)) → (b = tb_ds (A.1 80) (A.1 82) ∨ b < i) → tb_E X 310 10 [tb_r 77, tb_i m, tb_i (tb_ds (A.1 80) (A.1 82)), tb_i b, tb_i i] [] A (tb_Ri 310 K)) ?_ ?_ (tb_shl 1 (A.1 80 113)).toNat 0 (by decide) (by omega)
  · exact key _ d.1 (M.feD hm) (fun x a b => by omega) (Or.inl rfl)
  · intro b b0 b1 b2 _
    refine q310_10 ⟨fun _ => k b ⟨b0, b1, fun x x0 x1 fx => ?_⟩, fun q => by omega⟩
    by_cases q : x < tb_shl 1 (A.1 80 113)
    · exact b2 x x0 q fx
    · obtain ⟨h, h0, h1, h2⟩ := (tb_cut x0 x1 c.1 c.2).2 (by omega)
      have := ((fx.1 h (by omega) h1).1 h2).1
      omega
  · intro i i0 i1 ih b b0 b1 b2 b3
    refine q310_10 ⟨fun q => by omega, fun _ => ?_⟩
    rw [e311 M, tb_w_id (x := i + 1) (by omega) (by omega)]
    have fe := M.fe (m := m) i0 (show i < 64 by omega)
    have no : ¬ tb_Fe (A.1 80) (A.1 82) m i → tb_E X 310 10 [tb_r 77, tb_i m, tb_i (tb_ds (A.1 80) (A.1 82)), tb_i b, tb_i (i + 1)] [] A (tb_Ri 310 K) := by
      intro nf
      refine ih b b0 b1 (fun x x0 x1 fx => ?_) (by omega)
      by_cases e : x = i
      · rw [e] at fx; exact absurd fx nf
      · exact b2 x x0 (by omega) fx
    refine ⟨fun q => no (fun f => q (fe.mp f).1), fun q1 => ⟨fun q => no (fun f => q (fe.mp f).2.1), fun q2 => ?_⟩⟩
    rw [e312 M]
    refine ⟨fun q3 => ?_, fun q => no (fun f => by have := (fe.mp f).2.2; omega)⟩
    have f := fe.mpr ⟨q1, q2, q3⟩
    have di := (tb_sub d.1.1 d.1.2 i0 (show i < 64 by omega)).2.2.2 q2
    rw [e313 M, e313 M]
    refine ⟨fun q => ih b b0 b1 (fun x x0 x1 fx => ?_) (by omega), fun q => ih i ⟨i0, by omega⟩ f (fun x x0 x1 fx => ?_) (by omega)⟩
    · by_cases e : x = i
      · rw [e]
        by_cases w : tc_W (A.1 80) i = tc_W (A.1 80) b
        · exact Or.inr ⟨w, by omega⟩
        · exact Or.inl (by omega)
      · exact b2 x x0 (by omega) fx
    · by_cases e : x = i
      · rw [e]
        exact Or.inr ⟨rfl, Int.le_refl _⟩
      · have := b2 x x0 (by omega) fx
        exact Or.inl (by omega)
/-- the class's -/
theorem e181 (L : tb_L A) {x : Int} : tb_Ci X 181 [tb_r 4, tb_i x] A K = K (tc_W (A.1 80) x) A := by
  have c := L.c113
  have M := L.M
  refine tb_dei (q181 ?_)
  have hs : ∀ i, 0 ≤ i → i ≤ 6 → 0 ≤ tb_sum (fun h => if h < A.1 80 113 then tb_wth (A.1 80) x h else 0) i ∧ tb_sum (fun h => if h < A.1 80 113 then tb_wth (A.1 80) x h else 0) i ≤ 6 * 99 := fun i i0 i1 => tb_sum_bd i0 i1 (by decide) (fun j a b => by
    by_cases e : j < A.1 80 113
    · have := L.v51 a e
      rw [if_pos e]
      unfold tb_wth
      split <;> omega
    · rw [if_neg e]
      omega)
  have fin : tb_sum (fun h => if h < A.1 80 113 then tb_wth (A.1 80) x h else 0) 6 = tc_W (A.1 80) x := by
    rw [tb_sum_cut c.1 6 c.2 (fun i a _ => if_neg (by omega))]
    exact tb_sum_congr c.1 (fun i _ b => if_pos b)
  refine tb_lp (n := 6) (E := fun i => tb_E X 181 4 [tb_r 4, tb_i x, tb_i (tb_sum (fun h => if h < A.1 80 113 then tb_wth (A.1 80) x h else 0) i), tb_i i] [] A (tb_Ri 181 _)) (by decide) ?_ ?_
  · exact q181_4 ⟨fun _ => ⟨fin, rfl⟩, fun q => by omega⟩
  · intro i i0 i1 ih
    have b := hs i i0 (by omega)
    rw [tb_sum_s i0] at ih
    refine q181_4 ⟨fun q => by omega, fun _ => ?_⟩
    rw [tb_w_id (x := i + 1) (by omega) (by omega)]
    refine ⟨fun z => ?_, fun z => ⟨L.b, ?_⟩⟩
    · have z' : tb_bt x i = 0 := z
      have e : (if i < A.1 80 113 then tb_wth (A.1 80) x i else 0) = 0 := by
        unfold tb_wth
        rw [if_neg (show ¬ tb_bt x i = 1 by omega)]
        split <;> rfl
      rw [e, Int.add_zero] at ih
      exact ih
    · have z' : tb_bt x i = 1 := (tb_bt01 x i).elim (fun q => absurd q z) id
      by_cases e : i < A.1 80 113
      · have v := L.v51 i0 e
        rw [if_pos e] at ih
        rw [show tb_wth (A.1 80) x i = A.1 80 (51 + i) from if_pos z'] at ih
        rw [e41_33 L i0 e, tb_w_id (by omega) (by omega)]
        exact ih
      · rw [if_neg e] at ih
        rw [e41n (s := 3) (x := 3) L (by decide) (by decide) (by decide) (by decide) i0 (show A.1 80 (110 + 3) ≤ i by show A.1 80 113 ≤ i; omega), tb_w_id (by omega) (by omega)]
        exact ih
end TBSAVE
