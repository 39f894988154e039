/-! READER 16: the class's call and the reference's, from the first token on -/
section TESEV
variable {X : tb_X} {A B A0 B0 : tb_H} {K : Int → tb_H → Prop} {Kv : tb_H → Prop}
variable {n : Int} {b : Nat} {N x : Int}
theorem te9 {r m : Nat} (hr : tb_kd r = (1, m, [0])) (m9 : m ≤ 1000) (v : Int) (A : tb_H) : ∃ A', (∀ K : tb_H → Prop, K A' → tb_Cv X 9 [tb_r r, tb_i v] A K) ∧ (∀ k : Int, 0 ≤ k → k < m → A'.1 r k = v) ∧ tb_fr [r] [] [] A A' := by
  have loop : ∀ (k : Nat) (i : Int) (A1 : tb_H), i + k = m → 0 ≤ i → (∀ j : Int, 0 ≤ j → j < i → A1.1 r j = v) → tb_fr [r] [] [] A A1 → ∃ A', (∀ K : tb_H → Prop, K A' → tb_E X 9 5 [tb_r r, tb_i v, tb_i i, tb_i (m : Int)] [] A1 (tb_Rv 9 K)) ∧ (∀ k : Int, 0 ≤ k → k < m → A'.1 r k = v) ∧ tb_fr [r] [] [] A A' := by
    intro k
    induction k with
    | zero =>
      intro i A1 e i0 h f
      exact ⟨A1, fun K k => q9_5 hr ⟨fun _ => k, fun q => absurd q (by omega)⟩, fun k k0 k1 => h k k0 (by omega), f⟩
    | succ k ih =>
      intro i A1 e i0 h f
      obtain ⟨A', h1, h2, h3⟩ := ih (i + 1) (tb_upI A1 r i v) (by omega) (by omega) (fun j j0 j1 => by
        rw [tb_uI1]
        by_cases c : j = i
        · rw [if_pos ⟨rfl, c⟩]
        · rw [if_neg (fun q => c q.2)]
          exact h j j0 (by omega)) (tb_fr.upI f (by simp))
      refine ⟨A', fun K k => q9_5 hr ⟨fun q => absurd q (by omega), fun _ => ⟨⟨i0, by omega⟩, ?_⟩⟩, h2, h3⟩
      rw [tb_w_id (x := i + 1) (by omega) (by omega)]
      exact h1 K k
  obtain ⟨A', h1, h2, h3⟩ := loop m 0 A (by omega) (by decide) (fun j j0 j1 => by omega) tb_fr.refl
  exact ⟨A', fun K k => q9 hr (h1 K k), h2, h3⟩
theorem te39l {x1 : Int} (B : tb_H) : ∃ B', (∀ K : Int → tb_H → Prop, tb_E X 200 39 [tb_r 77, tb_i x1, tb_i 362] [] B' (tb_Ri 200 K) → tb_E X 200 39 [tb_r 77, tb_i x1, tb_i 0] [] B (tb_Ri 200 K)) ∧ (∀ k : Int, 0 ≤ k → k < 362 → B'.1 81 k = 0) ∧ tb_fr [81] [] [] B B' := by
  have loop : ∀ (k : Nat) (i : Int) (A1 : tb_H), i + k = 362 → 0 ≤ i → (∀ j : Int, 0 ≤ j → j < i → A1.1 81 j = 0) → tb_fr [81] [] [] B A1 → ∃ A', (∀ K : Int → tb_H → Prop, tb_E X 200 39 [tb_r 77, tb_i x1, tb_i 362] [] A' (tb_Ri 200 K) → tb_E X 200 39 [tb_r 77, tb_i x1, tb_i i] [] A1 (tb_Ri 200 K)) ∧ (∀ k : Int, 0 ≤ k → k < 362 → A'.1 81 k = 0) ∧ tb_fr [81] [] [] B A' := by
    intro k
    induction k with
    | zero =>
      intro i A1 e i0 h f
      have e : i = 362 := by omega
      subst e
      exact ⟨A1, fun K k => k, h, f⟩
    | succ k ih =>
      intro i A1 e i0 h f
      obtain ⟨A', h1, h2, h3⟩ := ih (i + 1) (tb_upI A1 81 i 0) (by omega) (by omega) (fun j j0 j1 => by
        rw [tb_uI1]
        by_cases c : j = i
        · rw [if_pos ⟨rfl, c⟩]
        · rw [if_neg (fun q => c q.2)]
          exact h j j0 (by omega)) (tb_fr.upI f rfl)
      refine ⟨A', fun K k => q200_39 ⟨fun q => absurd q (by omega), fun _ => ⟨⟨i0, by omega⟩, ?_⟩⟩, h2, h3⟩
      rw [tb_w_id (x := i + 1) (by omega) (by omega)]
      exact h1 K k
  exact loop 362 0 B (by omega) (by decide) (fun j j0 j1 => by omega) tb_fr.refl
theorem te_roomz : ∀ s : Fin 9, 0 ≤ te_room s.val := by decide +kernel
theorem te_bnd0 : ∀ p ∈ tb_bnd, 110 ≤ p.1 ∧ p.1 ≤ 118 := by decide +kernel
theorem te_scr0 : ∀ p ∈ tb_scr, 110 ≤ p.1 ∧ p.1 ≤ 118 := by decide +kernel
theorem te_L00 (f0 : A.1 1 10 = 0 ∧ B.1 77 13 = 0) (T : te_tp n A B) (tk : te_Tk n A B) (b4 : A.1 b 4 = 0) (cz : ∀ s : Int, 0 ≤ s → s < 9 → A.1 (b + 1) s = 0) (rz : ∀ k : Int, 0 ≤ k → k < 362 → B.1 81 k = 0) : te_L0 n b 0 A B := by
  have z : ∀ k : Int, 110 ≤ k → k ≤ 119 → B.1 81 k = 0 := fun k k0 k1 => rz k (by omega) (by omega)
  refine ⟨f0, T, tk, ⟨⟨b4, z 119 (by decide) (by decide)⟩, by decide, fun i i0 i1 => by omega⟩, ⟨?_, fun q q0 q1 => by rw [z 114 (by decide) (by decide)] at q0; exact rz (57 + q) (by omega) (by omega)⟩, ⟨fun s s0 s1 => ?_, fun p hp l l0 l1 => ?_⟩, te_bbm (fun s s0 s1 => ?_) (fun p hp l l0 l1 => ?_) (fun p hp l l0 l1 => ?_)⟩
  · rw [z 112 (by decide) (by decide), z 113 (by decide) (by decide), z 114 (by decide) (by decide), z 117 (by decide) (by decide)]
    rfl
  · rw [cz s s0 s1, z (110 + s) (by omega) (by omega)]
  · have t := te_tab1 p hp
    rw [z p.2.1 t.1 (by omega)] at l1
    omega
  · rw [z (110 + s) (by omega) (by omega)]
    obtain ⟨y, rfl⟩ := Int.eq_ofNat_of_zero_le s0
    exact ⟨Int.le_refl _, te_roomz ⟨y, by omega⟩⟩
  · have t := te_bnd0 p hp
    rw [z p.1 t.1 (by omega)] at l1
    omega
  · have t := te_scr0 p hp
    rw [z p.1 t.1 (by omega)] at l1
    omega
abbrev te_C1 (A : tb_H) (x : Int) : tb_H := tb_upI (tb_upI (tb_upI (tb_upI (tb_upI A 1 3 x) 1 2 0) 1 4 0) 1 10 0) 1 11 (-1)
abbrev te_R1 (B : tb_H) : tb_H := tb_upI (tb_upI (tb_upI (tb_upI (tb_upI B 77 0 0) 77 11 0) 77 2 0) 77 9 0) 77 13 0
abbrev te_fR (B B' : tb_H) : Prop := tb_fr [79, 81] [(77, 0), (77, 2), (77, 3), (77, 4), (77, 5), (77, 6), (77, 7), (77, 8), (77, 9), (77, 10), (77, 11), (77, 13)] [] B B'
theorem te_7 (hb : tb_isB b) (x0 : 0 ≤ x) (x1 : x ≤ A.1 1 2) (rt : A.1 1 2 = B.1 77 2 ∧ (0 ≤ B.1 77 2 ∧ B.1 77 2 ≤ 900) ∧ ∀ k, 0 ≤ k → k < B.1 77 2 → A.1 2 k = tb_b8 (B.1 78 k) ∧ 0 ≤ B.1 78 k ∧ B.1 78 k ≤ 255) :
    ∃ A' B', (∀ K, K (A'.1 1 10) A' → tb_Ci X 7 [tb_r 1, tb_i x, tb_r b] A K) ∧ (∀ K, te_go X x B' K → tb_Ci X 200 [tb_r 77, tb_i x] B K) ∧ (tb_fr (te_Sb b) [] [] A A' ∧ A'.1 1 2 = 0) ∧ (te_fR B B' ∧ B'.1 77 2 = 0 ∧ B'.1 77 11 = 0 ∧ B'.1 77 0 = 0) ∧ (te_Fl A' B' ∨ te_Al x b A' B') := by
  have b5 := te_b5 hb
  -- the class begins
  obtain ⟨A1, c1, z1, g1⟩ := te9 (X := X) hb.2.1 (by decide) 0 (te_C1 A x)
  have o1 : ∀ o, o ≠ b + 1 → A1.1 o = (te_C1 A x).1 o := fun o ho => funext fun k => g1.1 o k (by simp; exact ho) rfl
  have o2 : ∀ o, o ≠ b → o ≠ b + 1 → (tb_upI A1 b 4 0).1 o = (te_C1 A x).1 o := fun o h1 h2 => by rw [td_upo h1, o1 o h2]
  have p1 : (tb_upI A1 b 4 0).1 1 = (te_C1 A x).1 1 := o2 1 (by omega) (by omega)
  have p2 : (tb_upI A1 b 4 0).1 2 = A.1 2 := by rw [o2 2 (by omega) (by omega)]; rfl
  have fc0 : tb_fr (te_Sb b) [] [] A (tb_upI A1 b 4 0) := by
    refine tb_fr.upI ?_ (by rw [te_Sbb.1]; rfl)
    refine tb_fr.trans (A1 := te_C1 A x) (tb_fr.upI (tb_fr.upI (tb_fr.upI (tb_fr.upI (tb_fr.upI tb_fr.refl rfl) rfl) rfl) rfl) rfl) ⟨fun o k ho hk => ?_, fun o k ho => ?_, fun o k ho => g1.2.2 o k ho⟩
    · refine g1.1 o k ?_ hk
      have : o ≠ b + 1 := by
        rintro rfl
        rw [te_Sbb.2.1] at ho
        cases ho
      simp
      exact this
    · refine g1.2.1 o k ?_
      have : o ≠ b + 1 := by
        rintro rfl
        rw [te_Sbb.2.1] at ho
        cases ho
      simp
      exact this
  -- the reference begins
  obtain ⟨B1, r1, z2, g2⟩ := te39l (X := X) (x1 := x) (te_R1 B)
  have q77 : ∀ k, B1.1 77 k = (te_R1 B).1 77 k := fun k => g2.1 77 k rfl rfl
  have w : ∀ k, k ≠ 3 → k ≠ 5 → (tb_upI (tb_upI B1 77 3 x) 77 5 0).1 77 k = (te_R1 B).1 77 k := fun k h3 h5 => by rw [tb_uI_k h5, tb_uI_k h3, q77]
  have q78 : (tb_upI (tb_upI B1 77 3 x) 77 5 0).1 78 = B.1 78 := by
    rw [td_upo (by decide), td_upo (by decide)]
    exact funext fun k => g2.1 78 k rfl rfl
  have q81 : (tb_upI (tb_upI B1 77 3 x) 77 5 0).1 81 = B1.1 81 := by rw [td_upo (by decide), td_upo (by decide)]
  have fR0 : te_fR B (tb_upI (tb_upI B1 77 3 x) 77 5 0) := tb_fr.upI (tb_fr.upI (tb_fr.trans (A1 := te_R1 B) (tb_fr.upI (tb_fr.upI (tb_fr.upI (tb_fr.upI (tb_fr.upI tb_fr.refl rfl) rfl) rfl) rfl) rfl) (g2.mono rfl rfl rfl)) rfl) rfl
  have T : te_tp x (tb_upI A1 b 4 0) (tb_upI (tb_upI B1 77 3 x) 77 5 0) := by
    refine ⟨⟨?_, ?_⟩, ⟨x0, by omega, ?_⟩, fun k k0 k1 => ?_⟩
    · rw [p1, tb_uI_k (by decide), tb_uI_k (by decide), tb_uI_k (by decide), tb_uI_k (by decide), tb_uI_s]
    · rw [tb_uI_k (by decide), tb_uI_s]
    · rw [w 9 (by decide) (by decide), tb_uI_k (by decide), tb_uI_s]
    · rw [p2, q78]
      exact rt.2.2 k k0 (by omega)
  have a4 : (tb_upI A1 b 4 0).1 1 4 = 0 := by rw [p1, tb_uI_k (by decide), tb_uI_k (by decide), tb_uI_s]
  have b5' : (tb_upI (tb_upI B1 77 3 x) 77 5 0).1 77 5 = 0 := by rw [tb_uI_s]
  obtain ⟨A2, B2, c2, r2, n1, n7, tk, pg⟩ := te_next (X := X) T (by rw [a4, b5']) (by rw [a4]; exact Int.le_refl _) (by rw [a4]; exact x0)
  have L0 : te_L0 x b 0 A2 B2 := by
    refine te_L00 ⟨?_, ?_⟩ (T.fr n1 n7) tk ?_ (fun s s0 s1 => ?_) (fun k k0 k1 => ?_)
    · rw [n1.2.1 10 (by decide) (by decide) (by decide), p1, tb_uI_k (by decide), tb_uI_s]
    · rw [n7.1 77 13 rfl rfl, w 13 (by decide) (by decide), tb_uI_s]
    · rw [n1.1 b 4 (by omega), tb_uI_s]
    · rw [n1.1 (b + 1) s (by omega), td_upo (by omega)]
      exact z1 s s0 (by omega)
    · rw [n7.1 81 k rfl rfl, q81]
      exact z2 k k0 k1
  obtain ⟨A3, B3, c3, r3, f3, m3, fin⟩ := te_loop (X := X) (n := x) (x0 := x) (x1 := x) (x2 := 362) hb x.toNat 0 A2 B2 0 (by omega) (by decide) L0 (by rw [a4] at pg; exact pg)
  refine ⟨A3, B3, fun K k => q7 hb ?_, fun K k => q200 ?_, ⟨fc0.trans (n1.c.1.trans f3.1), ?_⟩, ⟨fR0.trans (((te_fm7 n7).trans m3).mono rfl rfl rfl), ?_, ?_, ?_⟩, fin⟩
  · have e : (if A.1 1 2 < x then A.1 1 2 else x) = x := if_neg (by omega)
    rw [e]
    exact q8 hb (c1 _ (c2 _ (c3 K k)))
  · rw [e201, e202t (by rw [tb_uI_k (by decide), tb_uI_k (by decide)]; omega)]
    exact ⟨fun _ => r1 K (q200_39 ⟨fun _ => r2 _ (r3 K k), fun q => absurd q (by decide)⟩), fun q => absurd q (by decide)⟩
  · rw [f3.2, n1.2.1 2 (by decide) (by decide) (by decide), p1, tb_uI_k (by decide), tb_uI_k (by decide), tb_uI_k (by decide), tb_uI_s]
  · rw [m3.1 77 2 rfl rfl, n7.1 77 2 rfl rfl, w 2 (by decide) (by decide), tb_uI_k (by decide), tb_uI_k (by decide), tb_uI_s]
  · rw [m3.1 77 11 rfl rfl, n7.1 77 11 rfl rfl, w 11 (by decide) (by decide), tb_uI_k (by decide), tb_uI_k (by decide), tb_uI_k (by decide), tb_uI_s]
  · rw [m3.1 77 0 rfl rfl, n7.1 77 0 rfl rfl, w 0 (by decide) (by decide), tb_uI_k (by decide), tb_uI_k (by decide), tb_uI_k (by decide), tb_uI_k (by decide), tb_uI_s]
end TESEV
