/-! bounds stay through the parts of a day (printed by a program, the second half by hand) -/
section TBBZ
variable {r s : Int → Int}
theorem tb_bz.uX (z : tb_bz r s) {v : Int} (hv : 0 ≤ v ∧ v ≤ 9) : tb_bz r (td_set s 0 v) := ⟨⟨hv, z.1.2.1, z.1.2.2.1, z.1.2.2.2.1, z.1.2.2.2.2.1, z.1.2.2.2.2.2.1, z.1.2.2.2.2.2.2.1, z.1.2.2.2.2.2.2.2.1, z.1.2.2.2.2.2.2.2.2.1, z.1.2.2.2.2.2.2.2.2.2.1, z.1.2.2.2.2.2.2.2.2.2.2⟩, fun h a b => by rw [td_set_n (by omega), td_set_n (by omega)]; exact z.2.1 h a b, fun h a b => by rw [td_set_n (by omega), td_set_n (by omega)]; exact z.2.2.1 h a b, fun h a b => by rw [td_set_n (by omega), td_set_n (by omega)]; exact z.2.2.2 h a b⟩
theorem tb_bz.uY (z : tb_bz r s) {v : Int} (hv : 0 ≤ v ∧ v ≤ 9) : tb_bz r (td_set s 1 v) := ⟨⟨z.1.1, hv, z.1.2.2.1, z.1.2.2.2.1, z.1.2.2.2.2.1, z.1.2.2.2.2.2.1, z.1.2.2.2.2.2.2.1, z.1.2.2.2.2.2.2.2.1, z.1.2.2.2.2.2.2.2.2.1, z.1.2.2.2.2.2.2.2.2.2.1, z.1.2.2.2.2.2.2.2.2.2.2⟩, fun h a b => by rw [td_set_n (by omega), td_set_n (by omega)]; exact z.2.1 h a b, fun h a b => by rw [td_set_n (by omega), td_set_n (by omega)]; exact z.2.2.1 h a b, fun h a b => by rw [td_set_n (by omega), td_set_n (by omega)]; exact z.2.2.2 h a b⟩
theorem tb_bz.uHead (z : tb_bz r s) {v : Int} (hv : 0 ≤ v ∧ v ≤ 7) : tb_bz r (td_set s 2 v) := ⟨⟨z.1.1, z.1.2.1, hv, z.1.2.2.2.1, z.1.2.2.2.2.1, z.1.2.2.2.2.2.1, z.1.2.2.2.2.2.2.1, z.1.2.2.2.2.2.2.2.1, z.1.2.2.2.2.2.2.2.2.1, z.1.2.2.2.2.2.2.2.2.2.1, z.1.2.2.2.2.2.2.2.2.2.2⟩, fun h a b => by rw [td_set_n (by omega), td_set_n (by omega)]; exact z.2.1 h a b, fun h a b => by rw [td_set_n (by omega), td_set_n (by omega)]; exact z.2.2.1 h a b, fun h a b => by rw [td_set_n (by omega), td_set_n (by omega)]; exact z.2.2.2 h a b⟩
theorem tb_bz.uHung (z : tb_bz r s) {v : Int} (hv : 0 ≤ v ∧ v ≤ s 9) : tb_bz r (td_set s 3 v) := ⟨⟨z.1.1, z.1.2.1, z.1.2.2.1, hv, z.1.2.2.2.2.1, z.1.2.2.2.2.2.1, z.1.2.2.2.2.2.2.1, z.1.2.2.2.2.2.2.2.1, z.1.2.2.2.2.2.2.2.2.1, z.1.2.2.2.2.2.2.2.2.2.1, z.1.2.2.2.2.2.2.2.2.2.2⟩, fun h a b => by rw [td_set_n (by omega), td_set_n (by omega)]; exact z.2.1 h a b, fun h a b => by rw [td_set_n (by omega), td_set_n (by omega)]; exact z.2.2.1 h a b, fun h a b => by rw [td_set_n (by omega), td_set_n (by omega)]; exact z.2.2.2 h a b⟩
theorem tb_bz.uCoin (z : tb_bz r s) {v : Int} (hv : -2147483648 ≤ v ∧ v < 2147483648) : tb_bz r (td_set s 4 v) := ⟨⟨z.1.1, z.1.2.1, z.1.2.2.1, z.1.2.2.2.1, hv, z.1.2.2.2.2.2.1, z.1.2.2.2.2.2.2.1, z.1.2.2.2.2.2.2.2.1, z.1.2.2.2.2.2.2.2.2.1, z.1.2.2.2.2.2.2.2.2.2.1, z.1.2.2.2.2.2.2.2.2.2.2⟩, fun h a b => by rw [td_set_n (by omega), td_set_n (by omega)]; exact z.2.1 h a b, fun h a b => by rw [td_set_n (by omega), td_set_n (by omega)]; exact z.2.2.1 h a b, fun h a b => by rw [td_set_n (by omega), td_set_n (by omega)]; exact z.2.2.2 h a b⟩
theorem tb_bz.uDive (z : tb_bz r s) {v : Int} (hv : -2147483648 ≤ v ∧ v < 2147483648) : tb_bz r (td_set s 5 v) := ⟨⟨z.1.1, z.1.2.1, z.1.2.2.1, z.1.2.2.2.1, z.1.2.2.2.2.1, hv, z.1.2.2.2.2.2.2.1, z.1.2.2.2.2.2.2.2.1, z.1.2.2.2.2.2.2.2.2.1, z.1.2.2.2.2.2.2.2.2.2.1, z.1.2.2.2.2.2.2.2.2.2.2⟩, fun h a b => by rw [td_set_n (by omega), td_set_n (by omega)]; exact z.2.1 h a b, fun h a b => by rw [td_set_n (by omega), td_set_n (by omega)]; exact z.2.2.1 h a b, fun h a b => by rw [td_set_n (by omega), td_set_n (by omega)]; exact z.2.2.2 h a b⟩
theorem tb_bz.uBuys (z : tb_bz r s) {v : Int} (hv : 0 ≤ v ∧ v ≤ 15) : tb_bz r (td_set s 6 v) := ⟨⟨z.1.1, z.1.2.1, z.1.2.2.1, z.1.2.2.2.1, z.1.2.2.2.2.1, z.1.2.2.2.2.2.1, hv, z.1.2.2.2.2.2.2.2.1, z.1.2.2.2.2.2.2.2.2.1, z.1.2.2.2.2.2.2.2.2.2.1, z.1.2.2.2.2.2.2.2.2.2.2⟩, fun h a b => by rw [td_set_n (by omega), td_set_n (by omega)]; exact z.2.1 h a b, fun h a b => by rw [td_set_n (by omega), td_set_n (by omega)]; exact z.2.2.1 h a b, fun h a b => by rw [td_set_n (by omega), td_set_n (by omega)]; exact z.2.2.2 h a b⟩
theorem tb_bz.uClai (z : tb_bz r s) {v : Int} (hv : 0 ≤ v ∧ v ≤ 15) : tb_bz r (td_set s 7 v) := ⟨⟨z.1.1, z.1.2.1, z.1.2.2.1, z.1.2.2.2.1, z.1.2.2.2.2.1, z.1.2.2.2.2.2.1, z.1.2.2.2.2.2.2.1, hv, z.1.2.2.2.2.2.2.2.2.1, z.1.2.2.2.2.2.2.2.2.2.1, z.1.2.2.2.2.2.2.2.2.2.2⟩, fun h a b => by rw [td_set_n (by omega), td_set_n (by omega)]; exact z.2.1 h a b, fun h a b => by rw [td_set_n (by omega), td_set_n (by omega)]; exact z.2.2.1 h a b, fun h a b => by rw [td_set_n (by omega), td_set_n (by omega)]; exact z.2.2.2 h a b⟩
theorem tb_bz.uPlea (z : tb_bz r s) {v : Int} (hv : -2147483648 ≤ v ∧ v < 2147483648) : tb_bz r (td_set s 8 v) := ⟨⟨z.1.1, z.1.2.1, z.1.2.2.1, z.1.2.2.2.1, z.1.2.2.2.2.1, z.1.2.2.2.2.2.1, z.1.2.2.2.2.2.2.1, z.1.2.2.2.2.2.2.2.1, hv, z.1.2.2.2.2.2.2.2.2.2.1, z.1.2.2.2.2.2.2.2.2.2.2⟩, fun h a b => by rw [td_set_n (by omega), td_set_n (by omega)]; exact z.2.1 h a b, fun h a b => by rw [td_set_n (by omega), td_set_n (by omega)]; exact z.2.2.1 h a b, fun h a b => by rw [td_set_n (by omega), td_set_n (by omega)]; exact z.2.2.2 h a b⟩
theorem tb_bz.uSeed (z : tb_bz r s) {v : Int} (hv : 0 ≤ v ∧ v ≤ 65536) : tb_bz r (td_set s 10 v) := ⟨⟨z.1.1, z.1.2.1, z.1.2.2.1, z.1.2.2.2.1, z.1.2.2.2.2.1, z.1.2.2.2.2.2.1, z.1.2.2.2.2.2.2.1, z.1.2.2.2.2.2.2.2.1, z.1.2.2.2.2.2.2.2.2.1, z.1.2.2.2.2.2.2.2.2.2.1, hv⟩, fun h a b => by rw [td_set_n (by omega), td_set_n (by omega)]; exact z.2.1 h a b, fun h a b => by rw [td_set_n (by omega), td_set_n (by omega)]; exact z.2.2.1 h a b, fun h a b => by rw [td_set_n (by omega), td_set_n (by omega)]; exact z.2.2.2 h a b⟩
theorem tb_bz.uDay (z : tb_bz r s) {v : Int} (hv : s 9 ≤ v ∧ v ≤ 200) : tb_bz r (td_set s 9 v) := ⟨⟨z.1.1, z.1.2.1, z.1.2.2.1, ⟨z.1.2.2.2.1.1, by show s 3 ≤ v; have := z.1.2.2.2.1; omega⟩, z.1.2.2.2.2.1, z.1.2.2.2.2.2.1, z.1.2.2.2.2.2.2.1, z.1.2.2.2.2.2.2.2.1, z.1.2.2.2.2.2.2.2.2.1, ⟨by show (0 : Int) ≤ v; have := z.1.2.2.2.2.2.2.2.2.2.1; omega, by show v ≤ 200; omega⟩, z.1.2.2.2.2.2.2.2.2.2.2⟩, fun h a b => by rw [td_set_n (by omega), td_set_n (by omega)]; exact z.2.1 h a b, fun h a b => by rw [td_set_n (by omega), td_set_n (by omega)]; exact z.2.2.1 h a b, fun h a b => by rw [td_set_n (by omega), td_set_n (by omega)]; exact z.2.2.2 h a b⟩
theorem tb_bz.uHF (z : tb_bz r s) {i v : Int} (i0 : 0 ≤ i) (i1 : i < 6) (hv : 0 ≤ v ∧ v ≤ 2) : tb_bz r (td_set s (15 + i) v) := by
  refine ⟨⟨by rw [td_set_n (by omega)]; exact z.1.1, by rw [td_set_n (by omega)]; exact z.1.2.1, by rw [td_set_n (by omega)]; exact z.1.2.2.1, by rw [td_set_n (by omega), td_set_n (by omega)]; exact z.1.2.2.2.1, by rw [td_set_n (by omega)]; exact z.1.2.2.2.2.1, by rw [td_set_n (by omega)]; exact z.1.2.2.2.2.2.1, by rw [td_set_n (by omega)]; exact z.1.2.2.2.2.2.2.1, by rw [td_set_n (by omega)]; exact z.1.2.2.2.2.2.2.2.1, by rw [td_set_n (by omega)]; exact z.1.2.2.2.2.2.2.2.2.1, by rw [td_set_n (by omega)]; exact z.1.2.2.2.2.2.2.2.2.2.1, by rw [td_set_n (by omega)]; exact z.1.2.2.2.2.2.2.2.2.2.2⟩, fun h a b => ?_, fun h a b => by rw [td_set_n (by omega), td_set_n (by omega)]; exact z.2.2.1 h a b, fun h a b => by rw [td_set_n (by omega), td_set_n (by omega)]; exact z.2.2.2 h a b⟩
  rw [td_set_n (k := 21 + h) (by omega)]
  refine ⟨?_, (z.2.1 h a b).2⟩
  by_cases e : h = i
  · rw [e, td_set_s]; exact hv
  · rw [td_set_n (by omega)]; exact (z.2.1 h a b).1
theorem tb_bz.uFF (z : tb_bz r s) {i v : Int} (i0 : 0 ≤ i) (i1 : i < 4) (hv : 0 ≤ v ∧ v ≤ 2) : tb_bz r (td_set s (27 + i) v) := by
  refine ⟨⟨by rw [td_set_n (by omega)]; exact z.1.1, by rw [td_set_n (by omega)]; exact z.1.2.1, by rw [td_set_n (by omega)]; exact z.1.2.2.1, by rw [td_set_n (by omega), td_set_n (by omega)]; exact z.1.2.2.2.1, by rw [td_set_n (by omega)]; exact z.1.2.2.2.2.1, by rw [td_set_n (by omega)]; exact z.1.2.2.2.2.2.1, by rw [td_set_n (by omega)]; exact z.1.2.2.2.2.2.2.1, by rw [td_set_n (by omega)]; exact z.1.2.2.2.2.2.2.2.1, by rw [td_set_n (by omega)]; exact z.1.2.2.2.2.2.2.2.2.1, by rw [td_set_n (by omega)]; exact z.1.2.2.2.2.2.2.2.2.2.1, by rw [td_set_n (by omega)]; exact z.1.2.2.2.2.2.2.2.2.2.2⟩, fun h a b => by rw [td_set_n (by omega), td_set_n (by omega)]; exact z.2.1 h a b, fun h a b => ?_, fun h a b => by rw [td_set_n (by omega), td_set_n (by omega)]; exact z.2.2.2 h a b⟩
  rw [td_set_n (k := 31 + h) (by omega)]
  refine ⟨?_, (z.2.2.1 h a b).2⟩
  by_cases e : h = i
  · rw [e, td_set_s]; exact hv
  · rw [td_set_n (by omega)]; exact (z.2.2.1 h a b).1
theorem tb_bz.uGone (z : tb_bz r s) {i v : Int} (i0 : 0 ≤ i) (i1 : i < 8) (hv : 0 ≤ v ∧ v ≤ 1) : tb_bz r (td_set s (35 + i) v) := by
  refine ⟨⟨by rw [td_set_n (by omega)]; exact z.1.1, by rw [td_set_n (by omega)]; exact z.1.2.1, by rw [td_set_n (by omega)]; exact z.1.2.2.1, by rw [td_set_n (by omega), td_set_n (by omega)]; exact z.1.2.2.2.1, by rw [td_set_n (by omega)]; exact z.1.2.2.2.2.1, by rw [td_set_n (by omega)]; exact z.1.2.2.2.2.2.1, by rw [td_set_n (by omega)]; exact z.1.2.2.2.2.2.2.1, by rw [td_set_n (by omega)]; exact z.1.2.2.2.2.2.2.2.1, by rw [td_set_n (by omega)]; exact z.1.2.2.2.2.2.2.2.2.1, by rw [td_set_n (by omega)]; exact z.1.2.2.2.2.2.2.2.2.2.1, by rw [td_set_n (by omega)]; exact z.1.2.2.2.2.2.2.2.2.2.2⟩, fun h a b => by rw [td_set_n (by omega), td_set_n (by omega)]; exact z.2.1 h a b, fun h a b => by rw [td_set_n (by omega), td_set_n (by omega)]; exact z.2.2.1 h a b, fun h a b => ?_⟩
  rw [td_set_n (k := 43 + h) (by omega)]
  refine ⟨?_, (z.2.2.2 h a b).2⟩
  by_cases e : h = i
  · rw [e, td_set_s]; exact hv
  · rw [td_set_n (by omega)]; exact (z.2.2.2 h a b).1
theorem tb_bz.uBa (z : tb_bz r s) {i v : Int} (i0 : 0 ≤ i) (i1 : i < 8) (hv : 0 ≤ v ∧ v ≤ 9) : tb_bz r (td_set s (43 + i) v) := by
  refine ⟨⟨by rw [td_set_n (by omega)]; exact z.1.1, by rw [td_set_n (by omega)]; exact z.1.2.1, by rw [td_set_n (by omega)]; exact z.1.2.2.1, by rw [td_set_n (by omega), td_set_n (by omega)]; exact z.1.2.2.2.1, by rw [td_set_n (by omega)]; exact z.1.2.2.2.2.1, by rw [td_set_n (by omega)]; exact z.1.2.2.2.2.2.1, by rw [td_set_n (by omega)]; exact z.1.2.2.2.2.2.2.1, by rw [td_set_n (by omega)]; exact z.1.2.2.2.2.2.2.2.1, by rw [td_set_n (by omega)]; exact z.1.2.2.2.2.2.2.2.2.1, by rw [td_set_n (by omega)]; exact z.1.2.2.2.2.2.2.2.2.2.1, by rw [td_set_n (by omega)]; exact z.1.2.2.2.2.2.2.2.2.2.2⟩, fun h a b => by rw [td_set_n (by omega), td_set_n (by omega)]; exact z.2.1 h a b, fun h a b => by rw [td_set_n (by omega), td_set_n (by omega)]; exact z.2.2.1 h a b, fun h a b => ?_⟩
  rw [td_set_n (k := 35 + h) (by omega)]
  refine ⟨(z.2.2.2 h a b).1, ?_⟩
  by_cases e : h = i
  · rw [e, td_set_s]; exact hv
  · rw [td_set_n (by omega)]; exact (z.2.2.2 h a b).2
theorem tb_bz.uNear (z : tb_bz r s) {i v : Int} (i0 : 0 ≤ i) (i1 : i < 4) : tb_bz r (td_set s (11 + i) v) := ⟨⟨by rw [td_set_n (by omega)]; exact z.1.1, by rw [td_set_n (by omega)]; exact z.1.2.1, by rw [td_set_n (by omega)]; exact z.1.2.2.1, by rw [td_set_n (by omega), td_set_n (by omega)]; exact z.1.2.2.2.1, by rw [td_set_n (by omega)]; exact z.1.2.2.2.2.1, by rw [td_set_n (by omega)]; exact z.1.2.2.2.2.2.1, by rw [td_set_n (by omega)]; exact z.1.2.2.2.2.2.2.1, by rw [td_set_n (by omega)]; exact z.1.2.2.2.2.2.2.2.1, by rw [td_set_n (by omega)]; exact z.1.2.2.2.2.2.2.2.2.1, by rw [td_set_n (by omega)]; exact z.1.2.2.2.2.2.2.2.2.2.1, by rw [td_set_n (by omega)]; exact z.1.2.2.2.2.2.2.2.2.2.2⟩, fun h a b => by rw [td_set_n (by omega), td_set_n (by omega)]; exact z.2.1 h a b, fun h a b => by rw [td_set_n (by omega), td_set_n (by omega)]; exact z.2.2.1 h a b, fun h a b => by rw [td_set_n (by omega), td_set_n (by omega)]; exact z.2.2.2 h a b⟩
theorem tb_bz.uLog (z : tb_bz r s) {i v : Int} (i0 : 51 ≤ i) : tb_bz r (td_set s i v) := ⟨⟨by rw [td_set_n (by omega)]; exact z.1.1, by rw [td_set_n (by omega)]; exact z.1.2.1, by rw [td_set_n (by omega)]; exact z.1.2.2.1, by rw [td_set_n (by omega), td_set_n (by omega)]; exact z.1.2.2.2.1, by rw [td_set_n (by omega)]; exact z.1.2.2.2.2.1, by rw [td_set_n (by omega)]; exact z.1.2.2.2.2.2.1, by rw [td_set_n (by omega)]; exact z.1.2.2.2.2.2.2.1, by rw [td_set_n (by omega)]; exact z.1.2.2.2.2.2.2.2.1, by rw [td_set_n (by omega)]; exact z.1.2.2.2.2.2.2.2.2.1, by rw [td_set_n (by omega)]; exact z.1.2.2.2.2.2.2.2.2.2.1, by rw [td_set_n (by omega)]; exact z.1.2.2.2.2.2.2.2.2.2.2⟩, fun h a b => by rw [td_set_n (by omega), td_set_n (by omega)]; exact z.2.1 h a b, fun h a b => by rw [td_set_n (by omega), td_set_n (by omega)]; exact z.2.2.1 h a b, fun h a b => by rw [td_set_n (by omega), td_set_n (by omega)]; exact z.2.2.2 h a b⟩
theorem td_it_bz {f : Int → (Int → Int) → Int → Int} {N : Nat} (h : ∀ (i : Int) (s : Int → Int), 0 ≤ i → i < N → tb_bz r s → tb_bz r (f i s)) (z : tb_bz r s) : ∀ n : Nat, n ≤ N → tb_bz r (td_it f n s) := by
  intro n
  induction n with
  | zero => exact fun _ => z
  | succ n ih => intro hn; rw [td_it]; exact h n _ (by omega) (by omega) (ih (by omega))
theorem tb_bz.dH (z : tb_bz r s) {sc how i : Int} (hh : how = 1 ∨ how = 2) (i0 : 0 ≤ i) (i1 : i < 6) : tb_bz r (td_dH r sc how i s) := by
  unfold td_dH
  split
  · exact z.uHF i0 i1 (by omega)
  · exact z
theorem tb_bz.dF (z : tb_bz r s) {sc how i : Int} (hh : how = 1 ∨ how = 2) (i0 : 0 ≤ i) (i1 : i < 4) : tb_bz r (td_dF sc how i s) := by
  unfold td_dF
  split
  · exact z.uFF i0 i1 (by omega)
  · exact z
theorem tb_bz.emp (h : td_R r) (z : tb_bz r s) {sc how : Int} (hh : how = 1 ∨ how = 2) : tb_bz r (td_emp r sc how s) := by
  unfold td_emp
  exact td_it_bz (N := 4) (fun i s i0 i1 z => z.dF hh i0 i1) (td_it_bz (N := 6) (fun i s i0 i1 z => z.dH hh i0 i1) z _ (by have := h.1; omega)) _ (by have := h.1; omega)
theorem tb_bz.dL (h : td_R r) (h7 : ∀ i, 0 ≤ i → i < r 118 → r (107 + i) ≤ 1) (z : tb_bz r s) {i : Int} (i0 : 0 ≤ i) (i1 : i < r 118) : tb_bz r (td_dL r i s) := by
  have c := h.2 i i0 i1
  have d := h7 i i0 i1
  unfold td_dL
  split
  · exact (z.uGone c.1.1 c.1.2 (by decide)).emp h (by omega)
  · exact z
theorem tb_bz.trn (z : tb_bz r s) : tb_bz r (td_trn r s) := by
  unfold td_trn
  split
  · refine (z.uSeed ?_).uHead (by omega)
    unfold td_sd
    omega
  · rename_i q
    refine z.uHead ?_
    have z2 := z.1.2.2.1
    revert q
    unfold td_bg tb_bear
    split
    · intro _
      unfold tb_tw
      split
      · exact z2
      · rename_i n
        have f := (tb_hdf (tb_sgn3 _) (tb_sgn3 _) n).1
        omega
    · split
      · intro _; omega
      · split
        · intro _; omega
        · split
          · intro _; exact z2
          · intro u; exact absurd rfl u
theorem tb_bz.swm (z : tb_bz r s) : tb_bz r (td_swm s) := by
  have b := tb_wB (h := s 2) z.1.1.1 z.1.1.2 z.1.2.1.1 z.1.2.1.2 z.1.2.2.1.1 z.1.2.2.1.2
  exact ((z.uX b.1).uY b.2.1).uHead b.2.2
theorem tb_bz.lgs (z : tb_bz r s) : tb_bz r (td_lgs s) := by
  have := z.1.2.2.2.2.2.2.2.2.2.1
  exact (z.uLog (by omega)).uLog (by omega)
theorem tb_bz.wds (z : tb_bz r s) : tb_bz r (td_wds r s) := by
  by_cases c : tb_isw r (s 0) (s 1)
  · rw [td_wds_t c]
    have := z.1.2.2.2.2.2.2.2.2.2.1
    exact z.uHung (by omega)
  · rw [td_wds_f c]; exact z
theorem tb_bz.dC (z : tb_bz r s) {i : Int} : tb_bz r (td_dC i s) := by
  unfold td_dC
  split
  · exact z.uCoin (tb_i32 _)
  · exact z
theorem tb_bz.dI (z : tb_bz r s) {i : Int} (i0 : 0 ≤ i) (i1 : i < 4) : tb_bz r (td_dI r i s) := by
  unfold td_dI
  split
  · exact (z.uCoin (tb_i32 _)).uBuys ((tb_o4 z.1.2.2.2.2.2.2.1.1 z.1.2.2.2.2.2.2.1.2).2 i i0 i1)
  · exact z
theorem tb_bz.itc (z : tb_bz r s) : tb_bz r (td_itc r s) := by
  have := tb_i32 (s 8 - td_les r s)
  refine z.uPlea ?_
  unfold tb_mx2
  split <;> omega
theorem tb_bz.dB (z : tb_bz r s) {i : Int} (i0 : 0 ≤ i) (i1 : i < 8) : tb_bz r (td_dB i s) := by
  have := (z.2.2.2 i i0 i1).2
  unfold td_dB
  split
  · exact z
  · refine z.uBa i0 i1 ?_
    split <;> omega
theorem tb_bz.vH (z : tb_bz r s) {i : Int} (i0 : 0 ≤ i) (i1 : i < 6) : tb_bz r (td_vH i s) := by
  unfold td_vH
  split
  · exact z.uHF i0 i1 (by decide)
  · exact z
theorem tb_bz.vF (z : tb_bz r s) {i : Int} (i0 : 0 ≤ i) (i1 : i < 4) : tb_bz r (td_vF r i s) := by
  by_cases c : s (27 + i) = 0 ∧ ¬ td_tie r s (s (31 + i))
  · rw [td_vF_t c.1 c.2]; exact z.uFF i0 i1 (by decide)
  · rw [td_vF_f c]; exact z
theorem tb_bz.dN (z : tb_bz r s) {i : Int} (i0 : 0 ≤ i) (i1 : i < 4) : tb_bz r (td_dN r i s) := by
  unfold td_dN
  refine (z.uNear i0 i1).uClai ?_
  split
  · exact z.1.2.2.2.2.2.2.2.1
  · exact (tb_o4 z.1.2.2.2.2.2.2.2.1.1 z.1.2.2.2.2.2.2.2.1.2).2 i i0 i1
end TBBZ
