/-! fits: the sightings against the headings -/
section TBFITS
variable {X : tb_X} {A : tb_H} {K : Int → tb_H → Prop} {Kv : tb_H → Prop}
def td_bb (b : Bool) : Int := if b = true then 1 else 0
theorem td_bb01 (b : Bool) : td_bb b = 0 ∨ td_bb b = 1 := by cases b <;> decide
def td_wd (x1 : Int) : Int := tb_and (tb_or (tb_or x1 (tb_or (tb_shr x1 1) (tb_shl x1 7))) (tb_or (tb_shl x1 1) (tb_shr x1 7))) 255
def td_b1 (x : Int) : Int := tb_w (x - (tb_and (tb_ushr x 1) 1431655765))
def td_b2 (a : Int) : Int := tb_w ((tb_and a 858993459) + (tb_and (tb_ushr a 2) 858993459))
def td_b3 (b : Int) : Int := tb_and (tb_w (b + (tb_ushr b 4))) 252645135
def td_b4 (c : Int) : Int := tb_w (c + (tb_ushr c 8))
def td_b5 (d : Int) : Int := tb_and (tb_w (d + (tb_ushr d 16))) 63
def td_bc (x : Int) : Int := td_b5 (td_b4 (td_b3 (td_b2 (td_b1 x))))
def td_wF : Bool := (List.range 256).all fun x => decide (0 ≤ td_wd x ∧ td_wd x < 256) && decide (td_bc x = tb_sum (fun h => tb_bt x h) 8) && (List.range 8).all fun h => decide (tb_bt (td_wd x) h = if tb_bt x (((h : Int) + 0 + 7) % 8) = 1 ∨ tb_bt x (((h : Int) + 1 + 7) % 8) = 1 ∨ tb_bt x (((h : Int) + 2 + 7) % 8) = 1 then 1 else 0)
theorem td_wF_t : td_wF = true := by decide +kernel
theorem td_wdf {x : Int} (x0 : 0 ≤ x) (x1 : x < 256) : (0 ≤ td_wd x ∧ td_wd x < 256) ∧ td_bc x = tb_sum (fun h => tb_bt x h) 8 ∧ ∀ h, 0 ≤ h → h < 8 → tb_bt (td_wd x) h = if tb_bt x ((h + 0 + 7) % 8) = 1 ∨ tb_bt x ((h + 1 + 7) % 8) = 1 ∨ tb_bt x ((h + 2 + 7) % 8) = 1 then 1 else 0 := by
  obtain ⟨a, rfl⟩ := Int.eq_ofNat_of_zero_le x0
  have t := List.all_eq_true.mp td_wF_t a (by simp; omega)
  simp only [Bool.and_eq_true, decide_eq_true_eq] at t
  refine ⟨t.1.1, t.1.2, fun h h0 h1 => ?_⟩
  obtain ⟨b, rfl⟩ := Int.eq_ofNat_of_zero_le h0
  have u := List.all_eq_true.mp t.2 b (by simp; omega)
  exact of_decide_eq_true u
def td_oF : Bool := (List.range 8).all fun h => (List.range (2 ^ h)).all fun x => decide (0 ≤ tb_or x (tb_shl 1 h) ∧ tb_or x (tb_shl 1 h) < ((2 ^ (h + 1) : Nat) : Int)) && (List.range 8).all fun j => decide (tb_bt (tb_or x (tb_shl 1 h)) j = if j = h then 1 else tb_bt x j)
theorem td_oF_t : td_oF = true := by decide +kernel
def td_or8 (p : Int → Bool) : Nat → Int
  | 0 => 0
  | n + 1 => if p n = true then tb_or (td_or8 p n) (tb_shl 1 n) else td_or8 p n
theorem td_or8_s (p : Int → Bool) (n : Nat) : td_or8 p (n + 1) = if p n = true then tb_or (td_or8 p n) (tb_shl 1 n) else td_or8 p n := rfl
theorem td_or8_b (p : Int → Bool) : ∀ n : Nat, n ≤ 8 → (0 ≤ td_or8 p n ∧ td_or8 p n < ((2 ^ n : Nat) : Int)) ∧ ∀ h, 0 ≤ h → h < 8 → tb_bt (td_or8 p n) h = if h < n ∧ p h = true then 1 else 0 := by
  intro n
  induction n with
  | zero =>
    intro _
    show (0 ≤ (0 : Int) ∧ (0 : Int) < _) ∧ ∀ h, 0 ≤ h → h < 8 → tb_bt 0 h = _
    refine ⟨by decide, fun h h0 h1 => ?_⟩
    rw [if_neg (by omega)]
    have : h = 0 ∨ h = 1 ∨ h = 2 ∨ h = 3 ∨ h = 4 ∨ h = 5 ∨ h = 6 ∨ h = 7 := by omega
    rcases this with rfl | rfl | rfl | rfl | rfl | rfl | rfl | rfl <;> decide
  | succ n ih =>
    intro hn
    have i := ih (by omega)
    have p2 : (2 : Nat) ^ (n + 1) = 2 ^ n * 2 := Nat.pow_succ _ _
    rw [td_or8_s]
    obtain ⟨a, ha⟩ := Int.eq_ofNat_of_zero_le i.1.1
    have t := List.all_eq_true.mp td_oF_t n (by simp; omega)
    have t := List.all_eq_true.mp t a (by have := i.1.2; simp; omega)
    simp only [Bool.and_eq_true, decide_eq_true_eq] at t
    cases hp : p n
    · simp only [Bool.false_eq_true, if_false]
      refine ⟨⟨i.1.1, by have := i.1.2; omega⟩, fun h h0 h1 => ?_⟩
      rw [i.2 h h0 h1]
      by_cases e : h = n
      · rw [if_neg (by omega), if_neg (by rw [e, hp]; simp)]
      · by_cases c : h < n ∧ p h = true
        · rw [if_pos c, if_pos ⟨by omega, c.2⟩]
        · rw [if_neg c, if_neg (fun q => c ⟨by omega, q.2⟩)]
    · simp only [if_true]
      rw [ha]
      refine ⟨t.1, fun h h0 h1 => ?_⟩
      obtain ⟨b, rfl⟩ := Int.eq_ofNat_of_zero_le h0
      have u := of_decide_eq_true (List.all_eq_true.mp t.2 b (by simp; omega))
      rw [u]
      by_cases e : b = n
      · rw [if_pos e, if_pos ⟨by omega, by rw [e, hp]⟩]
      · rw [if_neg e, ← ha, i.2 b h0 h1]
        by_cases c : (b : Int) < n ∧ p b = true
        · rw [if_pos c, if_pos ⟨by omega, c.2⟩]
        · rw [if_neg c, if_neg (fun q => c ⟨by omega, q.2⟩)]
theorem td_255 {h : Int} (h0 : 0 ≤ h) (h1 : h < 8) : tb_bt 255 h = 1 ∧ tb_bt 0 h = 0 := by
  have : h = 0 ∨ h = 1 ∨ h = 2 ∨ h = 3 ∨ h = 4 ∨ h = 5 ∨ h = 6 ∨ h = 7 := by omega
  rcases this with rfl | rfl | rfl | rfl | rfl | rfl | rfl | rfl <;> decide
/-- a cell was not seen elsewhere on a day -/
def td_sn (p q r : Int → Int) (d x y : Int) : Nat → Bool
  | 0 => true
  | n + 1 => td_sn p q r d x y n && decide (p n = d → q n = x ∧ r n = y)
theorem td_sn_i {p q r : Int → Int} {d x y : Int} : ∀ n : Nat, td_sn p q r d x y n = true ↔ ∀ i : Int, 0 ≤ i → i < n → p i = d → q i = x ∧ r i = y := by
  intro n
  induction n with
  | zero => exact ⟨fun _ i a b => absurd b (by omega), fun _ => rfl⟩
  | succ n ih =>
    show (td_sn p q r d x y n && decide (p n = d → q n = x ∧ r n = y)) = true ↔ _
    rw [Bool.and_eq_true, decide_eq_true_eq, ih]
    refine ⟨fun h i a b e => ?_, fun h => ⟨fun i a b e => h i a (by omega) e, fun e => h n (by omega) (by omega) e⟩⟩
    by_cases c : i = n
    · subst c; exact h.2 e
    · exact h.1 i a (by omega) e
theorem td_sn_s {p q r : Int → Int} {d x y : Int} {i : Int} (h : 0 ≤ i) : td_sn p q r d x y (i + 1).toNat = (td_sn p q r d x y i.toNat && decide (p i = d → q i = x ∧ r i = y)) := by
  obtain ⟨n, rfl⟩ := Int.eq_ofNat_of_zero_le h
  rfl
theorem e306 (hG : tb_RG A) {x y h d : Int} (x0 : 0 ≤ x) (x1 : x ≤ 9) (y0 : 0 ≤ y) (y1 : y ≤ 9) (h0 : 0 ≤ h) (h1 : h ≤ 7) : tb_Ci X 306 [tb_r 77, tb_i ((x * 10 + y) * 8 + h), tb_i d] A K = K (td_bb (td_sn (A.1 87) (A.1 88) (A.1 89) d x y (A.1 77 27).toNat)) A := by
  refine tb_dei (q306 ?_)
  refine tb_lp (E := fun i => tb_E X 306 5 [tb_r 77, tb_i ((x * 10 + y) * 8 + h), tb_i d, tb_i (td_bb (td_sn (A.1 87) (A.1 88) (A.1 89) d x y i.toNat)), tb_i i] [] A (tb_Ri 306 _)) (n := A.1 77 27) hG.2.1.1 ?_ ?_
  · exact q306_5 ⟨fun _ => ⟨td_bb01 _, rfl, rfl⟩, fun q => absurd q (by omega)⟩
  · intro i i0 i1 e
    have g := hG.2.2 i i0 i1
    have n6 := hG.2.1.2
    refine q306_5 ⟨fun q => absurd q (by omega), fun _ => ?_⟩
    rw [tb_w_id (x := i + 1) (by omega) (by omega)]
    rw [td_sn_s i0] at e
    refine ⟨fun q => ?_, fun q => ⟨⟨i0, by omega⟩, fun n => ?_, fun n => ⟨⟨i0, by omega⟩, ⟨i0, by omega⟩, ?_⟩⟩⟩
    · have : td_sn (A.1 87) (A.1 88) (A.1 89) d x y i.toNat = false := by
        cases c : td_sn (A.1 87) (A.1 88) (A.1 89) d x y i.toNat
        · rfl
        · rw [c] at q; exact absurd q (by decide)
      rw [this] at e
      exact e
    · have : td_sn (A.1 87) (A.1 88) (A.1 89) d x y i.toNat = true := by
        cases c : td_sn (A.1 87) (A.1 88) (A.1 89) d x y i.toNat
        · rw [c] at q; exact absurd rfl q
        · rfl
      rw [this, decide_eq_true (fun c => absurd c n)] at e
      exact e
    · have : td_sn (A.1 87) (A.1 88) (A.1 89) d x y i.toNat = true := by
        cases c : td_sn (A.1 87) (A.1 88) (A.1 89) d x y i.toNat
        · rw [c] at q; exact absurd rfl q
        · rfl
      rw [Int.tdiv_eq_ediv_of_nonneg (by omega), show ((x * 10 + y) * 8 + h) / 8 = x * 10 + y by omega, tb_w_id (x := x * 10 + y) (by omega) (by omega), tb_w_id (x := A.1 88 i * 10) (by omega) (by omega), tb_w_id (by omega) (by omega)]
      rw [this, Bool.true_and] at e
      by_cases c : A.1 88 i * 10 + A.1 89 i = x * 10 + y
      · rw [if_neg (fun z => z c)]
        rw [decide_eq_true (fun _ => ⟨by omega, by omega⟩)] at e
        exact e
      · rw [if_pos c]
        rw [decide_eq_false (fun z => by have := z n; omega)] at e
        exact e
theorem e171 {d c : Int} (d0 : 0 ≤ d) (d1 : d ≤ 20) (c0 : 0 ≤ c) (c1 : c < 100) : tb_Ci X 171 [tb_i d, tb_i c] A K = K 1 A := tb_dei (q171 (by
  rw [if_neg (by omega), if_neg (by omega), if_neg (by omega), if_neg (by omega)]
  exact ⟨rfl, rfl⟩))
theorem e172 {x : Int} : tb_Ci X 172 [tb_i x] A K = K (td_wd x) A := tb_dei (q172 ⟨rfl, rfl⟩)
theorem e174 {x : Int} : tb_Ci X 174 [tb_i x] A K = K (td_bc x) A := tb_dei (q174 ⟨rfl, rfl⟩)
theorem e170 {d c : Int} (d0 : 0 ≤ d) (d1 : d ≤ 20) (c0 : 0 ≤ c) (c1 : c < 100) : tb_Ci X 170 [tb_r 42, tb_i d, tb_i c] A K = K (A.1 45 (d * 100 + c)) A := tb_dei (q170 (by
  rw [e171 d0 d1 c0 c1, tb_w_id (x := d * 100) (by omega) (by omega), tb_w_id (x := d * 100 + c) (by omega) (by omega)]
  exact ⟨fun q => absurd q (by decide), fun _ => ⟨⟨by omega, by omega⟩, rfl, rfl⟩⟩))
def td_at (r : Int → Int) (d x y h : Int) : Int := tb_bt (r (d * 100 + (y * 10 + x))) h
theorem e169 {d x y h : Int} (d0 : 0 ≤ d) (d1 : d ≤ 20) (x0 : 0 ≤ x) (x1 : x ≤ 9) (y0 : 0 ≤ y) (y1 : y ≤ 9) (h0 : 0 ≤ h) (h1 : h ≤ 7) : tb_Ci X 169 [tb_r 42, tb_i d, tb_i ((y * 10 + x) * 8 + h)] A K = K (td_at (A.1 45) d x y h) A := tb_dei (q169 (by
  rw [e90 (by omega) (by omega), show ((y * 10 + x) * 8 + h) / 8 = y * 10 + x by omega, e170 d0 d1 (by omega) (by omega), e89, show ((y * 10 + x) * 8 + h) % 8 = h by omega]
  refine ⟨?_, rfl⟩
  show (if tb_bt (A.1 45 (d * 100 + (y * 10 + x))) h = 0 then 0 else 1 : Int) = tb_bt (A.1 45 (d * 100 + (y * 10 + x))) h
  rcases tb_bt01 (A.1 45 (d * 100 + (y * 10 + x))) h with e | e <;> rw [e] <;> decide))
def td_nx (f : Int → Int → Int → Int) (x y h : Int) : Int := f (tb_wx x y h) (tb_wy x y h) (tb_wh x y h)
def td_ho (r : Int → Int) (d x y : Int) : Int := td_or8 (fun h => decide (td_nx (td_at r (d + 1)) x y h = 1)) 8
theorem e168 {d x y : Int} (d0 : 0 ≤ d) (d1 : d ≤ 19) (x0 : 0 ≤ x) (x1 : x ≤ 9) (y0 : 0 ≤ y) (y1 : y ≤ 9) : tb_Ci X 168 [tb_r 42, tb_i d, tb_i (y * 10 + x)] A K = K (td_ho (A.1 45) d x y) A := by
  refine tb_dei (q168 ?_)
  refine tb_lp (E := fun i => tb_E X 168 5 [tb_r 42, tb_i d, tb_i (y * 10 + x), tb_i (td_or8 (fun h => decide (td_nx (td_at (A.1 45) (d + 1)) x y h = 1)) i.toNat), tb_i i] [] A (tb_Ri 168 _)) (n := 8) (by decide) ?_ ?_
  · exact q168_5 ⟨fun _ => ⟨rfl, rfl⟩, fun q => absurd q (by decide)⟩
  · intro i i0 i1 e
    have w := tb_wB (h := i) x0 x1 y0 y1 (by omega) (by omega)
    refine q168_5 ⟨fun q => absurd q (by omega), fun _ => ?_⟩
    rw [e87 (by omega) (by omega), show i % 8 = i by omega, e88 x0 x1 y0 y1 i0 (by omega), tb_w_id (x := d + 1) (by omega) (by omega), e169 (by omega) (by omega) w.1.1 w.1.2 w.2.1.1 w.2.1.2 w.2.2.1 w.2.2.2, tb_w_id (x := i + 1) (by omega) (by omega)]
    obtain ⟨n, rfl⟩ := Int.eq_ofNat_of_zero_le i0
    have e : tb_E X 168 5 [tb_r 42, tb_i d, tb_i (y * 10 + x), tb_i (td_or8 (fun h => decide (td_nx (td_at (A.1 45) (d + 1)) x y h = 1)) (n + 1)), tb_i ((n : Int) + 1)] [] A (tb_Ri 168 _) := e
    rw [td_or8_s] at e
    refine ⟨fun q => ?_, fun q => ?_⟩
    · rw [if_neg (show ¬ (decide (td_nx (td_at (A.1 45) (d + 1)) x y n = 1) = true) from by rw [decide_eq_true_eq]; intro z; exact absurd (q.symm.trans z) (by decide))] at e
      exact e
    · have z : td_nx (td_at (A.1 45) (d + 1)) x y n = 1 := by
        rcases tb_bt01 (A.1 45 ((d + 1) * 100 + (tb_wy x y n * 10 + tb_wx x y n))) (tb_wh x y n) with z | z
        · exact absurd z q
        · exact z
      rw [if_pos (decide_eq_true z)] at e
      exact e
theorem e173 (hG : tb_RG A) {x y d : Int} (x0 : 0 ≤ x) (x1 : x ≤ 9) (y0 : 0 ≤ y) (y1 : y ≤ 9) : tb_Ci X 173 [tb_r 42, tb_i d, tb_i (y * 10 + x)] A K = K (td_bb (td_sn (A.1 87) (A.1 88) (A.1 89) d x y (A.1 77 27).toNat)) A := by
  have n6 := hG.2.1
  refine tb_dei (q173 ?_)
  have key : td_sn (A.1 87) (A.1 88) (A.1 89) d x y (0 : Int).toNat = true → tb_E X 173 2 [tb_r 42, tb_i d, tb_i (y * 10 + x), tb_i 0] [] A (tb_Ri 173 (fun v A' => v = td_bb (td_sn (A.1 87) (A.1 88) (A.1 89) d x y (A.1 77 27).toNat) ∧ A' = A)) := by
    refine tb_lp (E := fun i => td_sn (A.1 87) (A.1 88) (A.1 89) d x y i.toNat = true → tb_E X 173 2 [tb_r 42, tb_i d, tb_i (y * 10 + x), tb_i i] [] A (tb_Ri 173 (fun v A' => v = td_bb (td_sn (A.1 87) (A.1 88) (A.1 89) d x y (A.1 77 27).toNat) ∧ A' = A))) (n := A.1 77 27) n6.1 ?_ ?_
    · intro z
      rw [z]
      exact q173_2 ⟨fun _ => ⟨rfl, rfl⟩, fun q => absurd q (by rw [hG.1]; omega)⟩
    · intro i i0 i1 e z
      have g := hG.2.2 i i0 i1
      rw [td_sn_s i0, z, Bool.true_and] at e
      refine q173_2 ⟨fun q => absurd q (by rw [hG.1]; omega), fun _ => ⟨fun q => absurd q (by omega), fun _ => ⟨⟨i0, by omega⟩, ?_⟩⟩⟩
      rw [tb_w_id (x := i + 1) (by omega) (by omega), g.1, g.2.2.1]
      refine ⟨fun n => e (decide_eq_true (fun c => absurd c n)), fun n => ⟨⟨i0, by omega⟩, fun c => e (decide_eq_true (fun _ => ⟨by omega, by omega⟩)), fun c => ⟨?_, rfl⟩⟩⟩
      have : td_sn (A.1 87) (A.1 88) (A.1 89) d x y (A.1 77 27).toNat = false := by
        cases c' : td_sn (A.1 87) (A.1 88) (A.1 89) d x y (A.1 77 27).toNat
        · rfl
        · have := (td_sn_i _).mp c' i i0 (by omega) n
          omega
      rw [this]; rfl
  exact key rfl
/-- the last day seen -/
def td_ls (r : Int → Int) (b : Int) : Nat → Int
  | 0 => b
  | n + 1 => tb_mx2 (td_ls r b n) (r n)
theorem td_ls_s (r : Int → Int) (b : Int) {i : Int} (h : 0 ≤ i) : td_ls r b (i + 1).toNat = tb_mx2 (td_ls r b i.toNat) (r i) := by
  obtain ⟨n, rfl⟩ := Int.eq_ofNat_of_zero_le h
  rfl
theorem td_ls_b {r : Int → Int} : ∀ n : Nat, (∀ i : Int, 0 ≤ i → i < n → 0 ≤ r i ∧ r i ≤ 20) → (-1 ≤ td_ls r (-1) n ∧ td_ls r (-1) n ≤ 20) ∧ td_ls r 0 n = tb_mx2 0 (td_ls r (-1) n) ∧ (0 < n → 0 ≤ td_ls r (-1) n) := by
  intro n
  induction n with
  | zero => intro _; exact ⟨⟨Int.le_refl _, show (-1 : Int) ≤ 20 by decide⟩, rfl, fun h => absurd h (by decide)⟩
  | succ n ih =>
    intro h
    have i := ih (fun j a b => h j a (by omega))
    have g := h n (by omega) (by omega)
    show (-1 ≤ tb_mx2 (td_ls r (-1) n) (r n) ∧ tb_mx2 (td_ls r (-1) n) (r n) ≤ 20) ∧ tb_mx2 (td_ls r 0 n) (r n) = tb_mx2 0 (tb_mx2 (td_ls r (-1) n) (r n)) ∧ (0 < n + 1 → 0 ≤ tb_mx2 (td_ls r (-1) n) (r n))
    rw [i.2.1]
    unfold tb_mx2
    refine ⟨by split <;> omega, ?_, fun _ => by split <;> omega⟩
    ((repeat' split) <;> omega)
theorem e305 (hG : tb_RG A) : tb_Ci X 305 [tb_r 77] A K = K (td_ls (A.1 87) (-1) (A.1 77 27).toNat) A := by
  refine tb_dei (q305 ?_)
  refine tb_lp (E := fun i => tb_E X 305 4 [tb_r 77, tb_i (td_ls (A.1 87) (-1) i.toNat), tb_i i] [] A (tb_Ri 305 _)) (n := A.1 77 27) hG.2.1.1 ?_ ?_
  · exact q305_4 ⟨fun _ => ⟨rfl, rfl⟩, fun q => absurd q (by omega)⟩
  · intro i i0 i1 e
    have n6 := hG.2.1.2
    refine q305_4 ⟨fun q => absurd q (by omega), fun _ => ⟨⟨i0, by omega⟩, ?_⟩⟩
    rw [e240, tb_w_id (x := i + 1) (by omega) (by omega)]
    rw [td_ls_s _ _ i0] at e
    exact e
theorem e167 (hG : tb_RG A) : tb_Ci X 167 [tb_r 42] A K = K (td_ls (A.1 87) 0 (A.1 77 27).toNat) A := by
  refine tb_dei (q167 ?_)
  refine tb_lp (E := fun i => tb_E X 167 4 [tb_r 42, tb_i (td_ls (A.1 87) 0 i.toNat), tb_i i] [] A (tb_Ri 167 _)) (n := A.1 77 27) hG.2.1.1 ?_ ?_
  · exact q167_4 ⟨fun _ => ⟨rfl, rfl⟩, fun q => absurd q (by rw [hG.1]; omega)⟩
  · intro i i0 i1 e
    have n6 := hG.2.1.2
    have g := hG.2.2 i i0 i1
    refine q167_4 ⟨fun q => absurd q (by rw [hG.1]; omega), fun _ => ⟨fun q => absurd q (by omega), fun _ => ⟨⟨i0, by omega⟩, ?_⟩⟩⟩
    rw [tb_w_id (x := i + 1) (by omega) (by omega), g.1]
    rw [td_ls_s _ _ i0] at e
    have : (if td_ls (A.1 87) 0 i.toNat < A.1 87 i then A.1 87 i else td_ls (A.1 87) 0 i.toNat : Int) = tb_mx2 (td_ls (A.1 87) 0 i.toNat) (A.1 87 i) := by
      unfold tb_mx2; ((repeat' split) <;> omega)
    rw [this]
    exact e
end TBFITS
