/-! sets as bits -/
section TBBITS
def tb_bt (x k : Int) : Int := tb_and (tb_shr x k) 1
theorem tb_bt01 (x k : Int) : tb_bt x k = 0 ∨ tb_bt x k = 1 := by
  unfold tb_bt
  rw [tb_and1]
  omega
def tb_setF : Bool := (List.range 64).all fun x => (List.range 6).all fun h =>
  (decide (tb_bt x h = ((x / 2 ^ h % 2 : Nat) : Int))) && decide (0 ≤ tb_or x (tb_shl 1 h) ∧ tb_or x (tb_shl 1 h) < 64) && decide (tb_or x 0 = x) && (List.range 6).all fun j => decide (tb_bt (tb_or x (tb_shl 1 h)) j = if j = h then 1 else tb_bt x j)
theorem tb_setF_t : tb_setF = true := by decide +kernel
theorem tb_setf {x h : Int} (x0 : 0 ≤ x) (x1 : x < 64) (h0 : 0 ≤ h) (h1 : h < 6) : (0 ≤ tb_or x (tb_shl 1 h) ∧ tb_or x (tb_shl 1 h) < 64) ∧ tb_or x 0 = x ∧ ∀ j, 0 ≤ j → j < 6 → tb_bt (tb_or x (tb_shl 1 h)) j = if j = h then 1 else tb_bt x j := by
  obtain ⟨a, rfl⟩ := Int.eq_ofNat_of_zero_le x0
  obtain ⟨b, rfl⟩ := Int.eq_ofNat_of_zero_le h0
  have t := List.all_eq_true.mp tb_setF_t a (by simp; omega)
  have t := List.all_eq_true.mp t b (by simp; omega)
  simp only [Bool.and_eq_true, decide_eq_true_eq] at t
  refine ⟨t.1.1.2, t.1.2, fun j j0 j1 => ?_⟩
  obtain ⟨c, rfl⟩ := Int.eq_ofNat_of_zero_le j0
  have u := List.all_eq_true.mp t.2 c (by simp; omega)
  rw [decide_eq_true_eq] at u
  rw [u]
  by_cases e : c = b
  · rw [if_pos e, if_pos (by omega)]
  · rw [if_neg e, if_neg (by omega)]
/-- bits decide: subset, difference -/
def tb_subF : Bool := (List.range 64).all fun x => (List.range 64).all fun y =>
  let d := tb_and x (tb_xor y (-1))
  decide (0 ≤ d ∧ d < 64) && ((List.range 6).all fun h => decide (tb_bt d h = if tb_bt x h = 1 ∧ tb_bt y h = 0 then 1 else 0)) && (decide (d = 0) == (List.range 6).all fun h => decide (tb_bt x h = 1 → tb_bt y h = 1)) && ((decide (d = 0)) → x ≤ y)
theorem tb_subF_t : tb_subF = true := by decide +kernel
theorem tb_sub {x y : Int} (x0 : 0 ≤ x) (x1 : x < 64) (y0 : 0 ≤ y) (y1 : y < 64) : (0 ≤ tb_and x (tb_xor y (-1)) ∧ tb_and x (tb_xor y (-1)) < 64) ∧ (∀ h, 0 ≤ h → h < 6 → tb_bt (tb_and x (tb_xor y (-1))) h = if tb_bt x h = 1 ∧ tb_bt y h = 0 then 1 else 0) ∧ (tb_and x (tb_xor y (-1)) = 0 ↔ ∀ h, 0 ≤ h → h < 6 → tb_bt x h = 1 → tb_bt y h = 1) ∧ (tb_and x (tb_xor y (-1)) = 0 → x ≤ y) := by
  obtain ⟨a, rfl⟩ := Int.eq_ofNat_of_zero_le x0
  obtain ⟨b, rfl⟩ := Int.eq_ofNat_of_zero_le y0
  have t := List.all_eq_true.mp tb_subF_t a (by simp; omega)
  have t := List.all_eq_true.mp t b (by simp; omega)
  simp only [Bool.and_eq_true, decide_eq_true_eq, beq_iff_eq] at t
  obtain ⟨⟨⟨t1, t2⟩, t3⟩, t4⟩ := t
  refine ⟨t1, fun h h0 h1 => ?_, ?_, fun q => by have := t4 q; omega⟩
  · obtain ⟨c, rfl⟩ := Int.eq_ofNat_of_zero_le h0
    have u := List.all_eq_true.mp t2 c (by simp; omega)
    rwa [decide_eq_true_eq] at u
  · constructor
    · intro q h h0 h1
      obtain ⟨c, rfl⟩ := Int.eq_ofNat_of_zero_le h0
      rw [show decide (tb_and (a : Int) (tb_xor (b : Int) (-1)) = 0) = true from decide_eq_true q] at t3
      have u := List.all_eq_true.mp t3.symm c (by simp; omega)
      rwa [decide_eq_true_eq] at u
    · intro q
      have : (List.range 6).all (fun h => decide (tb_bt (a : Int) (h : Int) = 1 → tb_bt (b : Int) (h : Int) = 1)) = true := by
        rw [List.all_eq_true]
        intro c hc
        rw [decide_eq_true_eq]
        exact q c (by omega) (by simp at hc; omega)
      rw [this] at t3
      exact of_decide_eq_true t3
def tb_cutF : Bool := (List.range 64).all fun x => (List.range 7).all fun n => decide (tb_shl 1 n = ((2 ^ n : Nat) : Int)) && (decide (x < 2 ^ n) || (List.range 6).any fun h => decide (n ≤ h) && decide (tb_bt x h = 1))
theorem tb_cutF_t : tb_cutF = true := by decide +kernel
theorem tb_cut {x n : Int} (x0 : 0 ≤ x) (x1 : x < 64) (n0 : 0 ≤ n) (n1 : n ≤ 6) : (tb_shl 1 n ≤ 64 ∧ 1 ≤ tb_shl 1 n) ∧ (tb_shl 1 n ≤ x → ∃ h, n ≤ h ∧ h < 6 ∧ tb_bt x h = 1) := by
  obtain ⟨a, rfl⟩ := Int.eq_ofNat_of_zero_le x0
  obtain ⟨b, rfl⟩ := Int.eq_ofNat_of_zero_le n0
  have t := List.all_eq_true.mp tb_cutF_t a (by simp; omega)
  have t := List.all_eq_true.mp t b (by simp; omega)
  simp only [Bool.and_eq_true, Bool.or_eq_true, decide_eq_true_eq] at t
  have p : 2 ^ b ≤ 2 ^ 6 := Nat.pow_le_pow_right (by decide) (by omega)
  have p0 : 0 < 2 ^ b := Nat.pow_pos (by decide)
  rw [t.1]
  refine ⟨⟨by omega, by omega⟩, fun q => ?_⟩
  rcases t.2 with u | u
  · omega
  · obtain ⟨c, hc, hd⟩ := List.any_eq_true.mp u
    simp only [Bool.and_eq_true, decide_eq_true_eq] at hd
    simp at hc
    exact ⟨c, by omega, by omega, hd.2⟩
end TBBITS
