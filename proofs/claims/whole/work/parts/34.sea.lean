/-! THE SEA: cells, headings, swims, weed -/
def tb_sx (h : Int) : Int := if 1 ≤ h ∧ h ≤ 3 then 1 else if 5 ≤ h ∧ h ≤ 7 then -1 else 0
def tb_sy (h : Int) : Int := if 3 ≤ h ∧ h ≤ 5 then 1 else if h = 7 ∨ (0 ≤ h ∧ h ≤ 1) then -1 else 0
def tb_okc (x y : Int) : Prop := 0 ≤ x ∧ x ≤ 9 ∧ 0 ≤ y ∧ y ≤ 9
def tb_inb (x y h : Int) : Bool := decide (0 ≤ x + tb_sx h ∧ x + tb_sx h ≤ 9 ∧ 0 ≤ y + tb_sy h ∧ y + tb_sy h ≤ 9)
def tb_wx (x y h : Int) : Int := if tb_inb x y h = true then x + tb_sx h else x
def tb_wy (x y h : Int) : Int := if tb_inb x y h = true then y + tb_sy h else y
def tb_wh (x y h : Int) : Int := if tb_inb x y h = true then h else (h + 4) % 8
def tb_sgn (x : Int) : Int := if 0 ≤ x then (if x ≤ 0 then 0 else 1) else -1
/-- the heading of both signs -/
def tb_hd (a d : Int) : Int := if a = 0 then (if d = -1 then 0 else 4) else if a = 1 then (if d = -1 then 1 else if d = 0 then 2 else 3) else (if d = 1 then 5 else if d = 0 then 6 else 7)
def tb_hdF : Bool := [-1, 0, 1].all fun a => [-1, 0, 1].all fun d =>
  if a = 0 ∧ d = 0 then (List.range 8).all fun i => decide (¬ (tb_sx i = 0 ∧ tb_sy i = 0))
  else decide (0 ≤ tb_hd a d ∧ tb_hd a d < 8 ∧ tb_sx (tb_hd a d) = a ∧ tb_sy (tb_hd a d) = d) && (List.range 8).all fun i => decide ((i : Int) < tb_hd a d → ¬ (tb_sx i = a ∧ tb_sy i = d))
theorem tb_hdF_t : tb_hdF = true := by decide +kernel
theorem tb_hdf {a d : Int} (ha : a = -1 ∨ a = 0 ∨ a = 1) (hd : d = -1 ∨ d = 0 ∨ d = 1) (n : ¬ (a = 0 ∧ d = 0)) : (0 ≤ tb_hd a d ∧ tb_hd a d < 8 ∧ tb_sx (tb_hd a d) = a ∧ tb_sy (tb_hd a d) = d) ∧ ∀ i, 0 ≤ i → i < tb_hd a d → ¬ (tb_sx i = a ∧ tb_sy i = d) := by
  have t := List.all_eq_true.mp tb_hdF_t a (by simp; omega)
  have t := List.all_eq_true.mp t d (by simp; omega)
  rw [if_neg n] at t
  simp only [Bool.and_eq_true, decide_eq_true_eq] at t
  refine ⟨t.1, fun i i0 i1 => ?_⟩
  obtain ⟨c, rfl⟩ := Int.eq_ofNat_of_zero_le i0
  have u := List.all_eq_true.mp t.2 c (by simp; omega)
  exact of_decide_eq_true u i1
theorem tb_hd0 : ∀ i, 0 ≤ i → i < 8 → ¬ (tb_sx i = 0 ∧ tb_sy i = 0) := by
  intro i i0 i1
  have t := List.all_eq_true.mp tb_hdF_t 0 (by simp)
  have t := List.all_eq_true.mp t 0 (by simp)
  rw [if_pos ⟨rfl, rfl⟩] at t
  obtain ⟨c, rfl⟩ := Int.eq_ofNat_of_zero_le i0
  have u := List.all_eq_true.mp t c (by simp; omega)
  exact of_decide_eq_true u
theorem tb_sgn3 (x : Int) : tb_sgn x = -1 ∨ tb_sgn x = 0 ∨ tb_sgn x = 1 := by
  unfold tb_sgn
  ((repeat' split) <;> omega)
theorem tb_sgn0 (x : Int) : tb_sgn x = 0 ↔ x = 0 := by
  unfold tb_sgn
  ((repeat' split) <;> omega)
theorem tb_sxB (h : Int) : -1 ≤ tb_sx h ∧ tb_sx h ≤ 1 := by
  unfold tb_sx
  ((repeat' split) <;> omega)
theorem tb_syB (h : Int) : -1 ≤ tb_sy h ∧ tb_sy h ≤ 1 := by
  unfold tb_sy
  ((repeat' split) <;> omega)
theorem tb_wB {x y h : Int} (x0 : 0 ≤ x) (x1 : x ≤ 9) (y0 : 0 ≤ y) (y1 : y ≤ 9) (h0 : 0 ≤ h) (h1 : h ≤ 7) : (0 ≤ tb_wx x y h ∧ tb_wx x y h ≤ 9) ∧ (0 ≤ tb_wy x y h ∧ tb_wy x y h ≤ 9) ∧ (0 ≤ tb_wh x y h ∧ tb_wh x y h ≤ 7) := by
  unfold tb_wx tb_wy tb_wh
  cases q : tb_inb x y h
  · simp only [Bool.false_eq_true, if_false]
    omega
  · simp only [if_true]
    have := of_decide_eq_true q
    omega
def tb_tabF : Bool := ((List.range 8).all fun h => decide (tb_cI 105 h = tb_sx h) && decide (tb_cI 106 h = tb_sy h)) && (List.range 100).all fun c => decide (tb_shl c 3 = c * 8)
theorem tb_tabF_t : tb_tabF = true := by decide +kernel
theorem tb_tabx {h : Int} (h0 : 0 ≤ h) (h1 : h < 8) : tb_cI 105 h = tb_sx h ∧ tb_cI 106 h = tb_sy h := by
  have t := tb_tabF_t
  unfold tb_tabF at t
  rw [Bool.and_eq_true] at t
  obtain ⟨c, rfl⟩ := Int.eq_ofNat_of_zero_le h0
  have u := List.all_eq_true.mp t.1 c (by simp; omega)
  simpa [Bool.and_eq_true] using u
theorem tb_shl3 {c : Int} (h0 : 0 ≤ c) (h1 : c < 100) : tb_shl c 3 = c * 8 := by
  have t := tb_tabF_t
  unfold tb_tabF at t
  rw [Bool.and_eq_true] at t
  obtain ⟨c, rfl⟩ := Int.eq_ofNat_of_zero_le h0
  have u := List.all_eq_true.mp t.2 c (by simp; omega)
  exact of_decide_eq_true u
def tb_fW (r : Int → Int) (x y w : Int) : Int := tb_far x y (r (73 + w)) (r (77 + w))
def tb_nw (r : Int → Int) (x y : Int) : Nat → Int
  | 0 => 0
  | n + 1 => if tb_fW r x y n < tb_fW r x y (tb_nw r x y n) then n else tb_nw r x y n
def tb_tw (r : Int → Int) (x y h : Int) : Int :=
  if tb_sgn (r (73 + tb_nw r x y (r 116).toNat) - x) = 0 ∧ tb_sgn (r (77 + tb_nw r x y (r 116).toNat) - y) = 0 then h else tb_hd (tb_sgn (r (73 + tb_nw r x y (r 116).toNat) - x)) (tb_sgn (r (77 + tb_nw r x y (r 116).toNat) - y))
def tb_isw (r : Int → Int) (x y : Int) : Prop := ∃ w, 0 ≤ w ∧ w < r 116 ∧ r (73 + w) = x ∧ r (77 + w) = y
theorem tb_nw_s (r : Int → Int) (x y : Int) (n : Nat) : tb_nw r x y (n + 1) = if tb_fW r x y n < tb_fW r x y (tb_nw r x y n) then (n : Int) else tb_nw r x y n := rfl
theorem tb_nwB (r : Int → Int) (x y : Int) : ∀ n : Nat, 1 ≤ n → 0 ≤ tb_nw r x y n ∧ tb_nw r x y n < n := by
  intro n
  induction n with
  | zero => intro h; omega
  | succ n ih =>
    intro _
    unfold tb_nw
    split
    · omega
    · by_cases e : n = 0
      · subst e
        show 0 ≤ (0 : Int) ∧ (0 : Int) < _
        omega
      · have := ih (by omega)
        omega
section TBSEA
variable {X : tb_X} {A : tb_H} {K : Int → tb_H → Prop} {Kv : tb_H → Prop}
theorem e85 {x : Int} : tb_Ci X 85 [tb_i x] A K = K (tb_sgn x) A := tb_dei (q85 ⟨rfl, rfl⟩)
theorem e241 {x : Int} : tb_Ci X 241 [tb_i x] A K = K (tb_sgn x) A := tb_dei (q241 ⟨rfl, rfl⟩)
theorem e86 {h t : Int} (h0 : 0 ≤ h) (h1 : h ≤ 7) (t0 : 0 ≤ t) (t1 : t ≤ 2) : tb_Ci X 86 [tb_i h, tb_i t] A K = K ((h + t + 7) % 8) A := tb_dei (q86 (by
  rw [tb_and7, tb_w_id (x := h + t) (by omega) (by omega), tb_w_id (by omega) (by omega)]
  exact ⟨by omega, rfl⟩))
theorem e248 {h t : Int} (h0 : 0 ≤ h) (h1 : h ≤ 7) (t0 : 0 ≤ t) (t1 : t ≤ 2) : tb_Ci X 248 [tb_i h, tb_i t] A K = K ((h + t + 7) % 8) A := tb_dei (q248 (by
  rw [tb_w_id (x := h + t) (by omega) (by omega), tb_w_id (by omega) (by omega), Int.tmod_eq_emod_of_nonneg (by omega)]
  exact ⟨rfl, rfl⟩))
theorem e87 {c h : Int} (c0 : 0 ≤ c) (c1 : c < 100) : tb_Ci X 87 [tb_i c, tb_i h] A K = K (c * 8 + h % 8) A := tb_dei (q87 (by
  rw [tb_and7, tb_shl3 c0 c1, tb_w_id (by omega) (by omega)]
  exact ⟨rfl, rfl⟩))
theorem e89 {x : Int} : tb_Ci X 89 [tb_i x] A K = K (x % 8) A := tb_dei (q89 (by rw [tb_and7]; exact ⟨rfl, rfl⟩))
theorem e90 {x : Int} (h0 : 0 ≤ x) (h1 : x < 2147483648) : tb_Ci X 90 [tb_i x] A K = K (x / 8) A := tb_dei (q90 (by rw [tb_shr3 (by omega) h1]; exact ⟨rfl, rfl⟩))
theorem e52c {x y : Int} (x0 : 0 ≤ x) (x1 : x ≤ 9) (y0 : 0 ≤ y) (y1 : y ≤ 9) : tb_Ci X 52 [tb_i x, tb_i y] A K = K (y * 10 + x) A := by rw [e52, tb_w_id (x := y * 10) (by omega) (by omega), tb_w_id (by omega) (by omega)]
theorem e91i {x y h : Int} : tb_Ci X 91 [tb_i (x + tb_sx h), tb_i (y + tb_sy h)] A K = K (if tb_inb x y h = true then 1 else 0 : Int) A := by
  rw [e91]
  unfold tb_inb
  simp only [decide_eq_true_eq]
theorem e88 {x y h : Int} (x0 : 0 ≤ x) (x1 : x ≤ 9) (y0 : 0 ≤ y) (y1 : y ≤ 9) (h0 : 0 ≤ h) (h1 : h ≤ 7) : tb_Ci X 88 [tb_i ((y * 10 + x) * 8 + h)] A K = K ((tb_wy x y h * 10 + tb_wx x y h) * 8 + tb_wh x y h) A := by
  refine tb_dei (q88 ?_)
  have t := tb_tabx h0 (show h < 8 by omega)
  have b1 := tb_sxB h
  have b2 := tb_syB h
  rw [e89, show ((y * 10 + x) * 8 + h) % 8 = h by omega, e90 (by omega) (by omega), show ((y * 10 + x) * 8 + h) / 8 = y * 10 + x by omega, e82 (by omega), show (y * 10 + x) % 10 = x by omega]
  refine ⟨by omega, ?_⟩
  rw [e83 (by omega) (by omega), show (y * 10 + x) / 10 = y by omega]
  refine ⟨by omega, ?_⟩
  rw [t.1, t.2, tb_w_id (x := x + tb_sx h) (by omega) (by omega), tb_w_id (x := y + tb_sy h) (by omega) (by omega), tb_w_id (x := h + 4) (by omega) (by omega), e91i]
  unfold tb_wx tb_wy tb_wh
  cases q : tb_inb x y h
  · simp only [Bool.false_eq_true, if_false]
    refine ⟨fun _ => ?_, fun z => absurd rfl z⟩
    rw [e87 (by omega) (by omega)]
    exact ⟨rfl, rfl⟩
  · simp only [if_true]
    have := of_decide_eq_true q
    refine ⟨fun z => absurd z (by decide), fun _ => ?_⟩
    rw [e52c (by omega) (by omega) (by omega) (by omega), e87 (by omega) (by omega)]
    exact ⟨by omega, rfl⟩
theorem tb_far_c (x y a b : Int) : tb_far x y a b = tb_far a b x y := by
  unfold tb_far tc_ab
  rw [show (if 0 ≤ x - a then x - a else -(x - a)) = (if 0 ≤ a - x then a - x else -(a - x)) by ((repeat' split) <;> omega), show (if 0 ≤ y - b then y - b else -(y - b)) = (if 0 ≤ b - y then b - y else -(b - y)) by ((repeat' split) <;> omega)]
theorem e81 {x y a b : Int} (x0 : 0 ≤ x) (x1 : x ≤ 9) (y0 : 0 ≤ y) (y1 : y ≤ 9) (a0 : 0 ≤ a) (a1 : a ≤ 9) (b0 : 0 ≤ b) (b1 : b ≤ 9) : tb_Ci X 81 [tb_i (y * 10 + x), tb_i (b * 10 + a)] A K = K (tb_far x y a b) A := by
  refine tb_dei (q81 ?_)
  rw [e82 (by omega), e82 (by omega), e83 (by omega) (by omega), e83 (by omega) (by omega), show (y * 10 + x) % 10 = x by omega, show (b * 10 + a) % 10 = a by omega, show (y * 10 + x) / 10 = y by omega, show (b * 10 + a) / 10 = b by omega]
  rw [tb_w_id (x := x - a) (by omega) (by omega), tb_w_id (x := y - b) (by omega) (by omega), tb_w_id (x := 0 - (x - a)) (by omega) (by omega), tb_w_id (x := 0 - (y - b)) (by omega) (by omega)]
  refine ⟨?_, rfl⟩
  unfold tb_far tb_mx2 tc_ab
  ((repeat' split) <;> omega)
theorem e238 {x y a b : Int} (x0 : 0 ≤ x) (x1 : x ≤ 9) (y0 : 0 ≤ y) (y1 : y ≤ 9) (a0 : 0 ≤ a) (a1 : a ≤ 9) (b0 : 0 ≤ b) (b1 : b ≤ 9) : tb_Ci X 238 [tb_i x, tb_i y, tb_i a, tb_i b] A K = K (tb_far x y a b) A := by
  refine tb_dei (q238 ?_)
  rw [tb_w_id (x := x - a) (by omega) (by omega), tb_w_id (x := y - b) (by omega) (by omega), e239 (by omega) (by omega), e239 (by omega) (by omega), e240]
  exact ⟨rfl, rfl⟩
/-- by the signs of both differences -/
def tb_tow (x y a b h : Int) : Int := if tb_sgn (a - x) = 0 ∧ tb_sgn (b - y) = 0 then h else tb_hd (tb_sgn (a - x)) (tb_sgn (b - y))
theorem e84 {x y a b h : Int} (x0 : 0 ≤ x) (x1 : x ≤ 9) (y0 : 0 ≤ y) (y1 : y ≤ 9) (a0 : 0 ≤ a) (a1 : a ≤ 9) (b0 : 0 ≤ b) (b1 : b ≤ 9) : tb_Ci X 84 [tb_i (b * 10 + a), tb_i (y * 10 + x), tb_i h] A K = K (tb_tow x y a b h) A := by
  refine tb_dei (q84 ?_)
  rw [e82 (by omega), e82 (by omega), show (y * 10 + x) % 10 = x by omega, show (b * 10 + a) % 10 = a by omega, tb_w_id (x := a - x) (by omega) (by omega), e85, e83 (by omega) (by omega), e83 (by omega) (by omega), show (y * 10 + x) / 10 = y by omega, show (b * 10 + a) / 10 = b by omega, tb_w_id (x := b - y) (by omega) (by omega), e85]
  unfold tb_tow
  generalize hP : tb_sgn (a - x) = p
  generalize hQ : tb_sgn (b - y) = q
  have p3 := tb_sgn3 (a - x)
  have q3 := tb_sgn3 (b - y)
  rw [hP] at p3
  rw [hQ] at q3
  by_cases z : p = 0 ∧ q = 0
  · rw [if_pos z]
    refine tb_lp (n := 8) (E := fun i => tb_E X 84 30 [tb_i (b * 10 + a), tb_i (y * 10 + x), tb_i h, tb_i p, tb_i q, tb_i i] [] A (tb_Ri 84 _)) (by decide) ?_ ?_
    · exact q84_30 ⟨fun _ => ⟨rfl, rfl⟩, fun u => absurd u (by decide)⟩
    · intro i i0 i1 ih
      have t := tb_tabx i0 i1
      have d := tb_hd0 i i0 i1
      refine q84_30 ⟨fun u => by omega, fun _ => ⟨fun u => by omega, fun _ => ⟨by omega, ?_⟩⟩⟩
      rw [t.1, t.2, tb_w_id (x := i + 1) (by omega) (by omega)]
      exact ⟨fun _ => ih, fun u => ⟨by omega, fun _ => ih, fun v => absurd ⟨u.trans z.1, v.trans z.2⟩ d⟩⟩
  · rw [if_neg z]
    have f := tb_hdf p3 q3 z
    refine tb_lp (n := tb_hd p q) (E := fun i => tb_E X 84 30 [tb_i (b * 10 + a), tb_i (y * 10 + x), tb_i h, tb_i p, tb_i q, tb_i i] [] A (tb_Ri 84 _)) f.1.1 ?_ ?_
    · have t := tb_tabx f.1.1 f.1.2.1
      refine q84_30 ⟨fun u => by omega, fun _ => ⟨fun u => by omega, fun _ => ⟨by omega, ?_⟩⟩⟩
      rw [t.1, t.2]
      exact ⟨fun u => absurd f.1.2.2.1 u, fun _ => ⟨by omega, fun u => absurd f.1.2.2.2 u, fun _ => ⟨rfl, rfl⟩⟩⟩
    · intro i i0 i1 ih
      have t := tb_tabx i0 (show i < 8 by omega)
      have d := f.2 i i0 i1
      refine q84_30 ⟨fun u => by omega, fun _ => ⟨fun u => by omega, fun _ => ⟨by omega, ?_⟩⟩⟩
      rw [t.1, t.2, tb_w_id (x := i + 1) (by omega) (by omega)]
      exact ⟨fun _ => ih, fun u => ⟨by omega, fun _ => ih, fun v => absurd ⟨u, v⟩ d⟩⟩
theorem e243 {h : Int} : tb_Ci X 243 [tb_i h] A K = K (tb_sx h) A := by
  refine tb_dei (q243 ?_)
  unfold tb_sx
  by_cases a : 1 ≤ h ∧ h ≤ 3
  · rw [e202t a, if_pos a]
    exact ⟨fun q => absurd q (by decide), fun _ => ⟨rfl, rfl⟩⟩
  · rw [e202f a, if_neg a]
    refine ⟨fun _ => ?_, fun q => absurd rfl q⟩
    by_cases b : 5 ≤ h ∧ h ≤ 7
    · rw [e202t b, if_pos b, if_neg (by decide)]
      exact ⟨rfl, rfl⟩
    · rw [e202f b, if_neg b, if_pos rfl]
      exact ⟨rfl, rfl⟩
theorem e244 {h : Int} : tb_Ci X 244 [tb_i h] A K = K (tb_sy h) A := by
  refine tb_dei (q244 ?_)
  unfold tb_sy
  by_cases a : 3 ≤ h ∧ h ≤ 5
  · rw [e202t a, if_pos a]
    exact ⟨fun q => absurd q (by decide), fun _ => ⟨rfl, rfl⟩⟩
  · rw [e202f a, if_neg a]
    refine ⟨fun _ => ⟨fun q => ⟨by rw [if_pos (Or.inl q)], rfl⟩, fun q => ?_⟩, fun q => absurd rfl q⟩
    by_cases b : 0 ≤ h ∧ h ≤ 1
    · rw [e202t b, if_pos (Or.inr b), if_neg (by decide)]
      exact ⟨rfl, rfl⟩
    · rw [e202f b, if_pos rfl, if_neg (show ¬ (h = 7 ∨ (0 ≤ h ∧ h ≤ 1)) from fun u => u.elim q b)]
      exact ⟨rfl, rfl⟩
theorem e242 {p q : Int} (p3 : p = -1 ∨ p = 0 ∨ p = 1) (q3 : q = -1 ∨ q = 0 ∨ q = 1) (z : ¬ (p = 0 ∧ q = 0)) : tb_Ci X 242 [tb_i p, tb_i q] A K = K (tb_hd p q) A := by
  refine tb_dei (q242 ?_)
  have f := tb_hdf p3 q3 z
  refine tb_lp (n := tb_hd p q) (E := fun i => tb_E X 242 2 [tb_i p, tb_i q, tb_i i] [] A (tb_Ri 242 _)) f.1.1 ?_ ?_
  · refine q242_2 ?_
    rw [e243]
    refine ⟨fun u => absurd f.1.2.2.1 u, fun _ => ?_⟩
    rw [e244]
    exact ⟨fun _ => ⟨rfl, rfl⟩, fun u => absurd f.1.2.2.2 u⟩
  · intro i i0 i1 ih
    have d := f.2 i i0 i1
    refine q242_2 ?_
    rw [e243, tb_w_id (x := i + 1) (by omega) (by omega)]
    refine ⟨fun _ => ih, fun u => ?_⟩
    rw [e244]
    exact ⟨fun v => absurd ⟨u, v⟩ d, fun _ => ih⟩
/-- the reference's three numbers of a swim -/
def tc_sw (A : tb_H) (a b c : Int) : tb_H := tb_upI (tb_upI (tb_upI A 77 28 a) 77 29 b) 77 30 c
theorem e249 {x y h : Int} (x0 : 0 ≤ x) (x1 : x ≤ 9) (y0 : 0 ≤ y) (y1 : y ≤ 9) (h0 : 0 ≤ h) (h1 : h ≤ 7) : tb_Cv X 249 [tb_r 77, tb_i x, tb_i y, tb_i h] A Kv = Kv (tc_sw A (tb_wx x y h) (tb_wy x y h) (tb_wh x y h)) := by
  refine tb_dev (q249 ?_)
  have b1 := tb_sxB h
  have b2 := tb_syB h
  rw [e243, e244, tb_uI_s, tb_w_id (x := x + tb_sx h) (by omega) (by omega), tb_w_id (x := y + tb_sy h) (by omega) (by omega), e250, tb_w_id (x := h + 4) (by omega) (by omega), Int.tmod_eq_emod_of_nonneg (by omega)]
  unfold tb_wx tb_wy tb_wh tc_sw
  cases q : tb_inb x y h
  · have n := of_decide_eq_false q
    rw [if_neg n]
    simp only [Bool.false_eq_true, if_false]
    refine ⟨fun _ => ?_, fun z => absurd rfl z⟩
    refine Prod.ext ?_ rfl
    funext o k
    simp only [tb_uI1]
    by_cases ho : o = 77 <;> by_cases k8 : k = 28 <;> by_cases k9 : k = 29 <;> by_cases k0 : k = 30 <;> simp [ho, k8, k9, k0]
  · have n := of_decide_eq_true q
    rw [if_pos n]
    simp only [if_true]
    exact ⟨fun z => absurd z (by decide), fun _ => trivial⟩
theorem e291 {x y h : Int} (x0 : 0 ≤ x) (x1 : x ≤ 9) (y0 : 0 ≤ y) (y1 : y ≤ 9) (h0 : 0 ≤ h) (h1 : h ≤ 7) : tb_Ci X 291 [tb_i x, tb_i y, tb_i h] A K = K ((x * 10 + y) * 8 + h) A := tb_dei (q291 (by
  rw [tb_w_id (x := x * 10) (by omega) (by omega), tb_w_id (x := x * 10 + y) (by omega) (by omega), tb_w_id (x := (x * 10 + y) * 8) (by omega) (by omega), tb_w_id (by omega) (by omega)]
  exact ⟨rfl, rfl⟩))
theorem e292 {x y h t : Int} (x0 : 0 ≤ x) (x1 : x ≤ 9) (y0 : 0 ≤ y) (y1 : y ≤ 9) (h0 : 0 ≤ h) (h1 : h ≤ 7) (t0 : 0 ≤ t) (t1 : t ≤ 2) : tb_Ci X 292 [tb_r 77, tb_i ((x * 10 + y) * 8 + h), tb_i t] A K = K ((tb_wx x y ((h + t + 7) % 8) * 10 + tb_wy x y ((h + t + 7) % 8)) * 8 + tb_wh x y ((h + t + 7) % 8)) (tc_sw A (tb_wx x y ((h + t + 7) % 8)) (tb_wy x y ((h + t + 7) % 8)) (tb_wh x y ((h + t + 7) % 8))) := by
  refine tb_dei (q292 ?_)
  have w := tb_wB (h := (h + t + 7) % 8) x0 x1 y0 y1 (by omega) (by omega)
  rw [Int.tmod_eq_emod_of_nonneg (by omega), show ((x * 10 + y) * 8 + h) % 8 = h by omega, e248 h0 h1 t0 t1, Int.tdiv_eq_ediv_of_nonneg (by omega), Int.tdiv_eq_ediv_of_nonneg (by omega), show ((x * 10 + y) * 8 + h) / 80 = x by omega, show ((x * 10 + y) * 8 + h) / 8 = x * 10 + y by omega, tb_w_id (x := x) (by omega) (by omega), tb_w_id (x := x * 10 + y) (by omega) (by omega), Int.tmod_eq_emod_of_nonneg (by omega), show (x * 10 + y) % 10 = y by omega, e249 x0 x1 y0 y1 (by omega) (by omega)]
  rw [show (tc_sw A (tb_wx x y ((h + t + 7) % 8)) (tb_wy x y ((h + t + 7) % 8)) (tb_wh x y ((h + t + 7) % 8))).1 77 28 = tb_wx x y ((h + t + 7) % 8) from rfl, show (tc_sw A (tb_wx x y ((h + t + 7) % 8)) (tb_wy x y ((h + t + 7) % 8)) (tb_wh x y ((h + t + 7) % 8))).1 77 29 = tb_wy x y ((h + t + 7) % 8) from rfl, show (tc_sw A (tb_wx x y ((h + t + 7) % 8)) (tb_wy x y ((h + t + 7) % 8)) (tb_wh x y ((h + t + 7) % 8))).1 77 30 = tb_wh x y ((h + t + 7) % 8) from rfl]
  rw [e291 w.1.1 w.1.2 w.2.1.1 w.2.1.2 w.2.2.1 w.2.2.2]
  exact ⟨rfl, rfl⟩
/-- weed -/
theorem tc_M.w7 (M : tc_M A) {w : Int} (w0 : 0 ≤ w) (w1 : w < A.1 80 116) : (0 ≤ A.1 80 (73 + w) ∧ A.1 80 (73 + w) ≤ 9) ∧ (0 ≤ A.1 80 (77 + w) ∧ A.1 80 (77 + w) ≤ 9) := ⟨M.v73 w0 w1, M.v77 w0 w1⟩
theorem e80 (L : tb_L A) {w : Int} (w0 : 0 ≤ w) (w1 : w < A.1 80 116) : tb_Ci X 80 [tb_r (A.2.2 4 1), tb_i w] A K = K (A.1 80 (77 + w) * 10 + A.1 80 (73 + w)) A := by
  have b := L.M.w7 w0 w1
  refine tb_dei (q80 L.b ?_)
  rw [e41_60 L w0 w1, e41_61 L w0 w1, e52c b.1.1 b.1.2 b.2.1 b.2.2]
  exact ⟨rfl, rfl⟩
theorem sp92 (L : tb_L A) {x y : Int} (x0 : 0 ≤ x) (x1 : x ≤ 9) (y0 : 0 ≤ y) (y1 : y ≤ 9) (k1 : tb_isw (A.1 80) x y → K 1 A) (k0 : ¬ tb_isw (A.1 80) x y → K 0 A) : tb_Ci X 92 [tb_r (A.2.2 4 1), tb_i (y * 10 + x)] A K := by
  have c := L.c116
  refine q92 L.b ?_
  have key := tb_lp (n := A.1 80 116) (E := fun i => (∀ w, 0 ≤ w → w < i → ¬ (A.1 80 (73 + w) = x ∧ A.1 80 (77 + w) = y)) → tb_E X 92 2 [tb_r (A.2.2 4 1), tb_i (y * 10 + x), tb_i i] [] A (tb_Ri 92 K)) c.1 ?_ ?_
  · exact key (fun w a b => by omega)
  · intro n
    refine q92_2 L.b ?_
    rw [e28_6 L]
    exact ⟨fun _ => k0 (fun ⟨w, w0, w1, w2⟩ => n w w0 w1 w2), fun q => by omega⟩
  · intro i i0 i1 ih n
    have b := L.M.w7 i0 i1
    refine q92_2 L.b ?_
    rw [e28_6 L]
    refine ⟨fun q => by omega, fun _ => ?_⟩
    rw [e80 L i0 i1, tb_w_id (x := i + 1) (by omega) (by omega)]
    refine ⟨fun q => ih (fun w w0 w1 => ?_), fun q => k1 ⟨i, i0, i1, by omega, by omega⟩⟩
    by_cases e : w = i
    · rw [e]
      intro u
      omega
    · exact n w w0 (by omega)
theorem sp251 (M : tc_M A) {x y : Int} (k1 : tb_isw (A.1 80) x y → K 1 A) (k0 : ¬ tb_isw (A.1 80) x y → K 0 A) : tb_Ci X 251 [tb_r 77, tb_i x, tb_i y] A K := by
  have c := M.c116
  refine q251 ?_
  have key := tb_lp (n := A.1 80 116) (E := fun i => ∀ f, ((f = 0 ∧ ∀ w, 0 ≤ w → w < i → ¬ (A.1 80 (73 + w) = x ∧ A.1 80 (77 + w) = y)) ∨ (f = 1 ∧ tb_isw (A.1 80) x y)) → tb_E X 251 5 [tb_r 77, tb_i x, tb_i y, tb_i f, tb_i i] [] A (tb_Ri 251 K)) c.1 ?_ ?_
  · exact key _ (Or.inl ⟨rfl, fun w a b => by omega⟩)
  · intro f h
    refine q251_5 ⟨fun _ => ⟨by omega, ?_⟩, fun q => by omega⟩
    rcases h with ⟨h, n⟩ | ⟨h, n⟩
    · rw [h]
      exact k0 (fun ⟨w, w0, w1, w2⟩ => n w w0 w1 w2)
    · rw [h]
      exact k1 n
  · intro i i0 i1 ih f h
    refine q251_5 ⟨fun q => by omega, fun _ => ?_⟩
    rw [tb_w_id (x := i + 1) (by omega) (by omega), tb_w_id (x := 73 + i) (by omega) (by omega), tb_w_id (x := 77 + i) (by omega) (by omega)]
    rcases h with ⟨h, n⟩ | ⟨h, n⟩
    · refine ⟨fun q => absurd h q, fun _ => ⟨by omega, fun q => ih 0 (Or.inl ⟨rfl, fun w w0 w1 => ?_⟩), fun q => ⟨by omega, ?_⟩⟩⟩
      · by_cases e : w = i
        · rw [e]
          exact fun u => q u.1
        · exact n w w0 (by omega)
      · by_cases u : A.1 80 (77 + i) = y
        · rw [if_neg (fun v => v u)]
          exact ih 1 (Or.inr ⟨rfl, i, i0, i1, q, u⟩)
        · rw [if_pos u]
          refine ih 0 (Or.inl ⟨rfl, fun w w0 w1 => ?_⟩)
          by_cases e : w = i
          · rw [e]
            exact fun v => u v.2
          · exact n w w0 (by omega)
    · exact ⟨fun _ => ih 1 (Or.inr ⟨rfl, n⟩), fun q => by omega⟩
theorem e79 (L : tb_L A) {x y : Int} (x0 : 0 ≤ x) (x1 : x ≤ 9) (y0 : 0 ≤ y) (y1 : y ≤ 9) : tb_Ci X 79 [tb_r (A.2.2 4 1), tb_i (y * 10 + x)] A K = K (if A.1 80 116 = 0 then -1 else A.1 80 (77 + tb_nw (A.1 80) x y (A.1 80 116).toNat) * 10 + A.1 80 (73 + tb_nw (A.1 80) x y (A.1 80 116).toNat) : Int) A := by
  have c := L.c116
  refine tb_dei (q79 L.b ?_)
  have key := tb_lp (n := A.1 80 116) (E := fun i => ∀ j : tb_V, tb_E X 79 4 [tb_r (A.2.2 4 1), tb_i (y * 10 + x), tb_i (if i = 0 then -1 else A.1 80 (77 + tb_nw (A.1 80) x y i.toNat) * 10 + A.1 80 (73 + tb_nw (A.1 80) x y i.toNat)), tb_i i, j] [] A (tb_Ri 79 (fun v' A' => v' = (if A.1 80 116 = 0 then -1 else A.1 80 (77 + tb_nw (A.1 80) x y (A.1 80 116).toNat) * 10 + A.1 80 (73 + tb_nw (A.1 80) x y (A.1 80 116).toNat)) ∧ A' = A))) c.1 ?_ ?_
  · exact key _
  · intro j
    refine q79_4 L.b ?_
    rw [e28_6 L]
    exact ⟨fun _ => ⟨rfl, rfl⟩, fun q => by omega⟩
  · intro i i0 i1 ih j
    have b := L.M.w7 i0 i1
    rw [show (i + 1).toNat = i.toNat + 1 by omega, if_neg (by omega)] at ih
    rw [tb_nw_s, show ((i.toNat : Nat) : Int) = i by omega] at ih
    refine q79_4 L.b ?_
    rw [e28_6 L]
    refine ⟨fun q => by omega, fun _ => ?_⟩
    rw [e80 L i0 i1, tb_w_id (x := i + 1) (by omega) (by omega)]
    by_cases e : i = 0
    · rw [if_pos e]
      refine ⟨fun _ => ?_, fun q => absurd rfl q⟩
      have e0 : tb_nw (A.1 80) x y i.toNat = 0 := by rw [e]; rfl
      rw [e0, e] at ih
      rw [if_neg (Int.lt_irrefl _)] at ih
      rw [e]
      exact ih _
    · have nb := tb_nwB (A.1 80) x y i.toNat (by omega)
      have b' := L.M.w7 (w := tb_nw (A.1 80) x y i.toNat) nb.1 (by omega)
      rw [if_neg e]
      refine ⟨fun q => by omega, fun _ => ?_⟩
      rw [e81 b.1.1 b.1.2 b.2.1 b.2.2 x0 x1 y0 y1, e81 b'.1.1 b'.1.2 b'.2.1 b'.2.2 x0 x1 y0 y1, tb_far_c (A.1 80 (73 + i)), tb_far_c (A.1 80 (73 + tb_nw (A.1 80) x y i.toNat))]
      refine ⟨fun q => ?_, fun q => ?_⟩
      · rw [if_neg (show ¬ tb_fW (A.1 80) x y i < tb_fW (A.1 80) x y (tb_nw (A.1 80) x y i.toNat) by unfold tb_fW; omega)] at ih
        exact ih _
      · rw [if_pos (show tb_fW (A.1 80) x y i < tb_fW (A.1 80) x y (tb_nw (A.1 80) x y i.toNat) from q)] at ih
        exact ih _
theorem e237 (M : tc_M A) {x y h : Int} (x0 : 0 ≤ x) (x1 : x ≤ 9) (y0 : 0 ≤ y) (y1 : y ≤ 9) (c1 : 0 < A.1 80 116) : tb_Ci X 237 [tb_r 77, tb_i x, tb_i y, tb_i h] A K = K (tb_tw (A.1 80) x y h) A := by
  have c := M.c116
  refine tb_dei (q237 ?_)
  have key := tb_lm (m := 1) (n := A.1 80 116) (E := fun i => ∀ j : tb_V, tb_E X 237 6 [tb_r 77, tb_i x, tb_i y, tb_i h, tb_i (tb_nw (A.1 80) x y i.toNat), tb_i i, j] [] A (tb_Ri 237 (fun v' A' => v' = tb_tw (A.1 80) x y h ∧ A' = A))) ?_ ?_ (A.1 80 116 - 1).toNat 1 (by decide) (by omega)
  · have e1 : tb_nw (A.1 80) x y (1 : Int).toNat = 0 := by
      show (if _ then ((0 : Nat) : Int) else 0) = 0
      split <;> rfl
    rw [e1] at key
    exact key _
  · intro j
    have nb := tb_nwB (A.1 80) x y (A.1 80 116).toNat (by omega)
    have b' := M.w7 (w := tb_nw (A.1 80) x y (A.1 80 116).toNat) nb.1 (by omega)
    refine q237_6 ⟨fun _ => ?_, fun q => by omega⟩
    rw [tb_w_id (x := 73 + tb_nw (A.1 80) x y (A.1 80 116).toNat) (by omega) (by omega), tb_w_id (x := 77 + tb_nw (A.1 80) x y (A.1 80 116).toNat) (by omega) (by omega), tb_w_id (x := A.1 80 (73 + tb_nw (A.1 80) x y (A.1 80 116).toNat) - x) (by omega) (by omega), e241]
    refine ⟨by omega, by omega, ?_⟩
    rw [tb_w_id (x := A.1 80 (77 + tb_nw (A.1 80) x y (A.1 80 116).toNat) - y) (by omega) (by omega), e241]
    unfold tb_tw
    refine ⟨fun q => ?_, fun q => ⟨fun q1 => ?_, fun q1 => ⟨by rw [if_pos ⟨q, q1⟩], rfl⟩⟩⟩
    · rw [e242 (tb_sgn3 _) (tb_sgn3 _) (fun u => q u.1), if_neg (fun u => q u.1)]
      exact ⟨rfl, rfl⟩
    · rw [e242 (tb_sgn3 _) (tb_sgn3 _) (fun u => q1 u.2), if_neg (fun u => q1 u.2)]
      exact ⟨rfl, rfl⟩
  · intro i i0 i1 ih j
    have b := M.w7 (show 0 ≤ i by omega) i1
    have nb := tb_nwB (A.1 80) x y i.toNat (by omega)
    have b' := M.w7 (w := tb_nw (A.1 80) x y i.toNat) nb.1 (by omega)
    rw [show (i + 1).toNat = i.toNat + 1 by omega] at ih
    rw [tb_nw_s, show ((i.toNat : Nat) : Int) = i by omega] at ih
    refine q237_6 ⟨fun q => by omega, fun _ => ?_⟩
    rw [tb_w_id (x := 73 + i) (by omega) (by omega), tb_w_id (x := 77 + i) (by omega) (by omega), tb_w_id (x := 73 + tb_nw (A.1 80) x y i.toNat) (by omega) (by omega), tb_w_id (x := 77 + tb_nw (A.1 80) x y i.toNat) (by omega) (by omega), tb_w_id (x := i + 1) (by omega) (by omega), e238 x0 x1 y0 y1 b.1.1 b.1.2 b.2.1 b.2.2]
    refine ⟨by omega, by omega, by omega, by omega, ?_⟩
    rw [e238 x0 x1 y0 y1 b'.1.1 b'.1.2 b'.2.1 b'.2.2]
    have e : (if tb_far x y (A.1 80 (73 + tb_nw (A.1 80) x y i.toNat)) (A.1 80 (77 + tb_nw (A.1 80) x y i.toNat)) ≤ tb_far x y (A.1 80 (73 + i)) (A.1 80 (77 + i)) then tb_nw (A.1 80) x y i.toNat else i) = (if tb_fW (A.1 80) x y i < tb_fW (A.1 80) x y (tb_nw (A.1 80) x y i.toNat) then i else tb_nw (A.1 80) x y i.toNat) := by
      unfold tb_fW
      ((repeat' split) <;> omega)
    rw [e]
    exact ih _
/-- the bearing of a day -/
def tb_bear (r : Int → Int) (pl x y h hu ln : Int) : Int := if r 5 ≤ hu ∧ 0 < r 116 then tb_tw r x y h else if r 2 ≤ ln then (h + 2 + 7) % 8 else if ln ≤ -(r 2) then (h + 0 + 7) % 8 else if r 4 ≤ pl then h else 8
theorem e78 (L : tb_L A) {x y h hu ln : Int} (x0 : 0 ≤ x) (x1 : x ≤ 9) (y0 : 0 ≤ y) (y1 : y ≤ 9) (h0 : 0 ≤ h) (h1 : h ≤ 7) : tb_Ci X 78 [tb_r 4, tb_i (y * 10 + x), tb_i h, tb_i hu, tb_i ln] A K = K (tb_bear (A.1 80) (A.1 82 8) x y h hu ln) A := by
  have c := L.c116
  have v2 := L.v2
  have s9 := L.sc0.2.2.2.2.2.2.2.2.2
  refine tb_dei (q78 ⟨L.b, ?_⟩)
  rw [e76_5 L]
  have rest : (ln < A.1 80 2 → (tb_w (-A.1 80 2) < ln → tb_isB (A.2.2 4 1) ∧ tb_Ci X 76 [tb_r (A.2.2 4 1), tb_i 4] A (fun v A' => (if A.1 5 9 < v then 8 else h) = (if A.1 80 2 ≤ ln then (h + 2 + 7) % 8 else if ln ≤ -(A.1 80 2) then (h + 0 + 7) % 8 else if A.1 80 4 ≤ A.1 82 8 then h else 8) ∧ A' = A)) ∧ (ln ≤ tb_w (-A.1 80 2) → tb_Ci X 86 [tb_i h, tb_i 0] A (fun v A' => v = (if A.1 80 2 ≤ ln then (h + 2 + 7) % 8 else if ln ≤ -(A.1 80 2) then (h + 0 + 7) % 8 else if A.1 80 4 ≤ A.1 82 8 then h else 8) ∧ A' = A))) ∧ (A.1 80 2 ≤ ln → tb_Ci X 86 [tb_i h, tb_i 2] A (fun v A' => v = (if A.1 80 2 ≤ ln then (h + 2 + 7) % 8 else if ln ≤ -(A.1 80 2) then (h + 0 + 7) % 8 else if A.1 80 4 ≤ A.1 82 8 then h else 8) ∧ A' = A)) := by
    rw [tb_w_id (x := -A.1 80 2) (by omega) (by omega)]
    refine ⟨fun a => ⟨fun b => ⟨L.b, ?_⟩, fun b => ?_⟩, fun a => ?_⟩
    · rw [e76_4 L, s9, if_neg (show ¬ A.1 80 2 ≤ ln by omega), if_neg (show ¬ ln ≤ -A.1 80 2 by omega)]
      refine ⟨?_, rfl⟩
      ((repeat' split) <;> omega)
    · rw [e86 h0 h1 (by decide) (by decide), if_neg (show ¬ A.1 80 2 ≤ ln by omega), if_pos b]
      exact ⟨rfl, rfl⟩
    · rw [e86 h0 h1 (by decide) (by decide), if_pos a]
      exact ⟨rfl, rfl⟩
  unfold tb_bear
  refine ⟨fun q => ⟨L.b, ?_⟩, fun q => ⟨L.b, ?_⟩⟩
  · rw [e76_2 L, if_neg (show ¬ (A.1 80 5 ≤ hu ∧ 0 < A.1 80 116) by omega)]
    exact rest
  · rw [e79 L x0 x1 y0 y1]
    by_cases e : A.1 80 116 = 0
    · rw [if_pos e, if_neg (show ¬ (A.1 80 5 ≤ hu ∧ 0 < A.1 80 116) by omega)]
      refine ⟨fun _ => ⟨L.b, ?_⟩, fun u => absurd rfl u⟩
      rw [e76_2 L]
      exact rest
    · have nb := tb_nwB (A.1 80) x y (A.1 80 116).toNat (by omega)
      have b' := L.M.w7 (w := tb_nw (A.1 80) x y (A.1 80 116).toNat) nb.1 (by omega)
      rw [if_neg e, if_pos (show A.1 80 5 ≤ hu ∧ 0 < A.1 80 116 by omega)]
      refine ⟨fun u => by omega, fun _ => ?_⟩
      rw [e84 x0 x1 y0 y1 b'.1.1 b'.1.2 b'.2.1 b'.2.2]
      exact ⟨rfl, rfl⟩
def tb_lng (r : Int → Int) (pl ln : Int) : Int := if ln < r 2 then (if -(r 2) < ln then (if pl < r 4 then -1 else 1) else 0) else 2
theorem e245 (M : tc_M A) : tb_Ci X 245 [tb_r 77] A K = K (tb_lng (A.1 80) (A.1 82 8) (tb_lean (A.1 80) (A.1 82) (fun f => A.1 82 (31 + f)) 9 (A.1 80 0))) A := by
  have v2 := M.v2
  refine tb_dei (q245 ?_)
  rw [e246 M, tb_w_id (x := -A.1 80 2) (by omega) (by omega)]
  exact ⟨rfl, rfl⟩
end TBSEA
