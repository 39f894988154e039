/-! numbers of the two machines -/
def tb_inI (x : Int) : Prop := -2147483648 ≤ x ∧ x < 2147483648
def tb_inL (x : Int) : Prop := -9223372036854775808 ≤ x ∧ x < 9223372036854775808
theorem tb_w_in (x : Int) : tb_inI (tb_w x) := by unfold tb_inI tb_w; omega
theorem tb_W_in (x : Int) : tb_inL (tb_W x) := by unfold tb_inL tb_W; omega
theorem tb_b8_in (x : Int) : tb_inI (tb_b8 x) := by unfold tb_inI tb_b8; omega
theorem tb_i32_in (v : Int32) : tb_inI v.toInt := ⟨by have := v.le_toInt; simpa using this, by have := v.toInt_lt; simpa using this⟩
theorem tb_inR_in {z : Int} (h : tb_inR z = true) : tb_inI z := by simpa [tb_inR, tb_inI] using h
theorem tb_inW_in {z : Int} (h : tb_inW z = true) : tb_inL z := by simpa [tb_inW, tb_inL] using h
theorem tb_bmod_w (x : Int) : x.bmod (2 ^ 32) = tb_w x := by
  show x.bmod 4294967296 = tb_w x
  unfold tb_w
  rw [Int.bmod_def]
  split <;> omega
theorem tb_ofw (x : Int) : Int32.ofInt (tb_w x) = Int32.ofInt x := by
  rw [← Int32.toInt_inj, Int32.toInt_ofInt, Int32.toInt_ofInt]
  show (tb_w x).bmod (2 ^ 32) = x.bmod (2 ^ 32)
  rw [tb_bmod_w, tb_bmod_w]
  unfold tb_w
  omega
theorem tb_bmod_W (x : Int) : x.bmod (2 ^ 64) = tb_W x := by
  show x.bmod 18446744073709551616 = tb_W x
  unfold tb_W
  rw [Int.bmod_def]
  split <;> omega
theorem tb_ofW (x : Int) : Int64.ofInt (tb_W x) = Int64.ofInt x := by
  rw [← Int64.toInt_inj, Int64.toInt_ofInt, Int64.toInt_ofInt]
  show (tb_W x).bmod (2 ^ 64) = x.bmod (2 ^ 64)
  rw [tb_bmod_W, tb_bmod_W]
  unfold tb_W
  omega
theorem tb_toInt {x : Int} (h : tb_inI x) : (Int32.ofInt x).toInt = x := Int32.toInt_ofInt_of_le (by simpa using h.1) (by simpa using h.2)
theorem tb_minI : Int32.minValue.toInt = -2147483648 := by decide
theorem tb_maxI : Int32.maxValue.toInt = 2147483647 := by decide
theorem tb_minL : Int64.minValue.toInt = -9223372036854775808 := by decide
theorem tb_maxL : Int64.maxValue.toInt = 9223372036854775807 := by decide
theorem tb_lt {x y : Int} (hx : tb_inI x) (hy : tb_inI y) : Int32.ofInt x < Int32.ofInt y ↔ x < y := by
  obtain ⟨h1, h2⟩ := hx; obtain ⟨h3, h4⟩ := hy
  exact Int32.ofInt_lt_iff_lt (by rw [tb_minI]; exact h1) (by rw [tb_maxI]; omega) (by rw [tb_minI]; exact h3) (by rw [tb_maxI]; omega)
theorem tb_le {x y : Int} (hx : tb_inI x) (hy : tb_inI y) : Int32.ofInt x ≤ Int32.ofInt y ↔ x ≤ y := by
  obtain ⟨h1, h2⟩ := hx; obtain ⟨h3, h4⟩ := hy
  exact Int32.ofInt_le_iff_le (by rw [tb_minI]; exact h1) (by rw [tb_maxI]; omega) (by rw [tb_minI]; exact h3) (by rw [tb_maxI]; omega)
theorem tb_eq {x y : Int} (hx : tb_inI x) (hy : tb_inI y) : Int32.ofInt x = Int32.ofInt y ↔ x = y := by
  constructor
  · intro h
    rw [← tb_toInt hx, ← tb_toInt hy, h]
  · intro h
    rw [h]
theorem tb_toIntL {x : Int} (h : tb_inL x) : (Int64.ofInt x).toInt = x := Int64.toInt_ofInt_of_le (by simpa using h.1) (by simpa using h.2)
theorem tb_ltL {x y : Int} (hx : tb_inL x) (hy : tb_inL y) : Int64.ofInt x < Int64.ofInt y ↔ x < y := by
  obtain ⟨h1, h2⟩ := hx; obtain ⟨h3, h4⟩ := hy
  exact Int64.ofInt_lt_iff_lt (by rw [tb_minL]; exact h1) (by rw [tb_maxL]; omega) (by rw [tb_minL]; exact h3) (by rw [tb_maxL]; omega)
theorem tb_eqL {x y : Int} (hx : tb_inL x) (hy : tb_inL y) : Int64.ofInt x = Int64.ofInt y ↔ x = y := by
  constructor
  · intro h
    rw [← tb_toIntL hx, ← tb_toIntL hy, h]
  · intro h
    rw [h]
theorem tb_tdiv {x y : Int} (hx : tb_inI x) (hy : tb_inI y) : Int32.ofInt x / Int32.ofInt y = Int32.ofInt (tb_w (x.tdiv y)) := by
  obtain ⟨h1, h2⟩ := hx; obtain ⟨h3, h4⟩ := hy
  rw [tb_ofw, Int32.ofInt_tdiv (by rw [tb_minI]; exact h1) (by rw [tb_maxI]; omega) (by rw [tb_minI]; exact h3) (by rw [tb_maxI]; omega)]
theorem tb_tmod {x y : Int} (hx : tb_inI x) (hy : tb_inI y) : Int32.ofInt x - Int32.ofInt x / Int32.ofInt y * Int32.ofInt y = Int32.ofInt (x.tmod y) := by
  rw [tb_tdiv hx hy, tb_ofw, ← Int32.ofInt_mul, ← Int32.ofInt_sub, Int.tmod_def, Int.mul_comm]
theorem tb_tmod_in {x y : Int} (hx : tb_inI x) (hy : tb_inI y) (h0 : ¬ y = 0) : tb_inI (x.tmod y) := by
  obtain ⟨h1, h2⟩ := hx; obtain ⟨h3, h4⟩ := hy
  have a := Int.natAbs_tmod x y
  have b := Nat.mod_lt x.natAbs (show 0 < y.natAbs by omega)
  unfold tb_inI
  omega
theorem tb_neg (x : Int) : -Int32.ofInt x = Int32.ofInt (tb_w (-x)) := by rw [tb_ofw, Int32.ofInt_neg]
theorem tb_i2l {x : Int} (hx : tb_inI x) : (Int32.ofInt x).toInt64 = Int64.ofInt x := by
  obtain ⟨h1, h2⟩ := hx
  exact Int32.toInt64_ofInt (by rw [tb_minI]; exact h1) (by rw [tb_maxI]; omega)
theorem tb_l2i (x : Int) : (Int64.ofInt x).toInt32 = Int32.ofInt (tb_w x) := by rw [tb_ofw, Int64.toInt32_ofInt]
theorem tb_i2b (x : Int) : (Int32.ofInt x).toInt8.toInt32 = Int32.ofInt (tb_b8 x) := by
  rw [← Int32.toInt_inj, tb_toInt (tb_b8_in x), Int8.toInt_toInt32, Int32.toInt8_ofInt, Int8.toInt_ofInt]
  show x.bmod 256 = tb_b8 x
  unfold tb_b8
  rw [Int.bmod_def]
  split <;> omega
theorem tb_nat {i : Int} (h0 : 0 ≤ i) (h1 : i < 2147483648) : (Int32.ofInt i).toNatClampNeg = i.toNat := by
  show (Int32.ofInt i).toInt.toNat = i.toNat
  rw [tb_toInt ⟨by omega, h1⟩]
theorem tb_vpin {i : Int} {n : Nat} (h0 : 0 ≤ i) (h1 : i < n) (hn : n < 2147483648) : vp_in (Int32.ofInt i) n := by
  have hi : tb_inI i := ⟨by omega, by omega⟩
  unfold vp_in
  rw [tb_nat h0 (by omega)]
  intro h
  rcases h with h | h
  · have := (tb_lt hi (y := 0) ⟨by omega, by omega⟩).mp h
    omega
  · omega
theorem tb_i2c (x : Int) : ((Int32.ofInt x).toUInt32 % 65536).toInt32 = Int32.ofInt (x % 65536) := by
  apply Int32.toBitVec.inj
  apply BitVec.eq_of_toNat_eq
  show (BitVec.ofInt 32 x % 65536#32).toNat = (BitVec.ofInt 32 (x % 65536)).toNat
  rw [BitVec.toNat_umod, BitVec.toNat_ofInt, BitVec.toNat_ofInt]
  show (x % 4294967296).toNat % 65536 = (x % 65536 % 4294967296).toNat
  omega
