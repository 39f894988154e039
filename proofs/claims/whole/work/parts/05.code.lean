/-! every row of every method's code is what the bytes say: by the kernel, forty methods at a time -/
set_option maxRecDepth 200000 in
theorem tb_ck_0 : ((List.range 40).map (fun i => i + 0)).all tb_cky = true := by decide +kernel
set_option maxRecDepth 200000 in
theorem tb_ck_1 : ((List.range 40).map (fun i => i + 40)).all tb_cky = true := by decide +kernel
set_option maxRecDepth 200000 in
theorem tb_ck_2 : ((List.range 40).map (fun i => i + 80)).all tb_cky = true := by decide +kernel
set_option maxRecDepth 200000 in
theorem tb_ck_3 : ((List.range 40).map (fun i => i + 120)).all tb_cky = true := by decide +kernel
set_option maxRecDepth 200000 in
theorem tb_ck_4 : ((List.range 40).map (fun i => i + 160)).all tb_cky = true := by decide +kernel
set_option maxRecDepth 200000 in
theorem tb_ck_5 : ((List.range 40).map (fun i => i + 200)).all tb_cky = true := by decide +kernel
set_option maxRecDepth 200000 in
theorem tb_ck_6 : ((List.range 40).map (fun i => i + 240)).all tb_cky = true := by decide +kernel
set_option maxRecDepth 200000 in
theorem tb_ck_7 : ((List.range 40).map (fun i => i + 280)).all tb_cky = true := by decide +kernel
set_option maxRecDepth 200000 in
theorem tb_ck_8 : ((List.range 4).map (fun i => i + 320)).all tb_cky = true := by decide +kernel
theorem tb_ck_all {y : Nat} (hy : y < 324) : tb_cky y = true := by
  have key : ∀ (n lo : Nat), ((List.range n).map (fun i => i + lo)).all tb_cky = true → lo ≤ y → y < lo + n → tb_cky y = true := by
    intro n lo h h1 h2
    exact List.all_eq_true.mp h y (List.mem_map.mpr ⟨y - lo, List.mem_range.mpr (by omega), by omega⟩)
  rcases Nat.lt_or_ge y 40 with q0 | q0
  · exact key _ _ tb_ck_0 (by omega) (by omega)
  rcases Nat.lt_or_ge y 80 with q1 | q1
  · exact key _ _ tb_ck_1 (by omega) (by omega)
  rcases Nat.lt_or_ge y 120 with q2 | q2
  · exact key _ _ tb_ck_2 (by omega) (by omega)
  rcases Nat.lt_or_ge y 160 with q3 | q3
  · exact key _ _ tb_ck_3 (by omega) (by omega)
  rcases Nat.lt_or_ge y 200 with q4 | q4
  · exact key _ _ tb_ck_4 (by omega) (by omega)
  rcases Nat.lt_or_ge y 240 with q5 | q5
  · exact key _ _ tb_ck_5 (by omega) (by omega)
  rcases Nat.lt_or_ge y 280 with q6 | q6
  · exact key _ _ tb_ck_6 (by omega) (by omega)
  rcases Nat.lt_or_ge y 320 with q7 | q7
  · exact key _ _ tb_ck_7 (by omega) (by omega)
  rcases Nat.lt_or_ge y 324 with q8 | q8
  · exact key _ _ tb_ck_8 (by omega) (by omega)
  omega
theorem tb_lookup_mem {α : Type} : ∀ (l : List (Nat × α)) (k : Nat) (v : α), l.lookup k = some v → (k, v) ∈ l
  | [], _, _, h => by simp at h
  | (j, w) :: l, k, v, h => by
    rw [List.lookup_cons] at h
    by_cases hk : (k == j) = true
    · rw [hk] at h
      cases h
      have : k = j := by simpa using hk
      rw [this]
      exact List.mem_cons_self
    · have hk' : (k == j) = false := by simpa using hk
      rw [hk'] at h
      exact List.mem_cons_of_mem _ (tb_lookup_mem l k v h)
theorem tb_codes_len : tb_codes.length = 324 := by decide +kernel
theorem tb_ckd {y pc : Nat} {o : tb_O} (h : tb_at y pc = some o) : ∃ ins len, decode (tb_by y) pc = .ok (ins, len) ∧ tb_ck1 y (tb_oi y) pc len ins o = true := by
  have hm := tb_lookup_mem _ _ _ h
  have hy : y < 324 := by
    rcases Nat.lt_or_ge y 324 with q | q
    · exact q
    · have : tb_code y = [] := by
        unfold tb_code
        rw [List.getD_eq_getElem?_getD, List.getElem?_eq_none (by rw [tb_codes_len]; exact q)]
        rfl
      rw [this] at hm
      cases hm
  have h2 := List.all_eq_true.mp (tb_ck_all hy) _ hm
  unfold tb_ckr at h2
  dsimp only at h2
  split at h2
  · rename_i ins len he
    exact ⟨ins, len, he, h2⟩
  · cases h2
