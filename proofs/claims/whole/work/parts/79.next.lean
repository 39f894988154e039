/-! READER 2: the next token -/
section TENEXT
variable {X : tb_X} {A B : tb_H}
theorem te_bl {v : Int} (v0 : 0 ≤ v) (v1 : v ≤ 255) {b : Int} (hb : b = tb_b8 v) : ((97 ≤ b ∧ b ≤ 122) ↔ (97 ≤ v ∧ v ≤ 122)) ∧ ((48 ≤ b ∧ b ≤ 57) ↔ (48 ≤ v ∧ v ≤ 57)) ∧ (b = 32 ↔ v = 32) ∧ (b = 59 ↔ v = 59) ∧ (b = 44 ↔ v = 44) ∧ (0 ≤ b → b = v) := by
  unfold tb_b8 at hb
  omega
/-- what next leaves: changed little, the token read, and further on -/
def te_NQ (n : Int) (A B A' B' : tb_H) : Prop := te_f1 A A' ∧ te_f7 B B' ∧ te_Tk n A' B' ∧ (A'.1 1 5 = 4 ∨ A'.1 1 5 = 0 ∨ A.1 1 4 < A'.1 1 4)
theorem te_word {n a : Int} (T : te_tp n A B) {j3 : tb_V} {x2 : Int} : ∀ (m : Nat) (i : Int) (C D : tb_H), n ≤ i + m → te_f1 A C → te_f7 B D → C.1 1 4 = i → C.1 1 6 = a → D.1 77 4 = a → D.1 77 8 = i - a → (0 ≤ a ∧ a ≤ i ∧ i ≤ n) → A.1 1 4 ≤ a → (a < i ∨ (i < n ∧ 97 ≤ B.1 78 i ∧ B.1 78 i ≤ 122)) → (i - a ≤ 8 → C.2.1 1 7 = te_code (D.1 79) (i - a).toNat ∧ ∀ k, 0 ≤ k → k < i - a → 97 ≤ D.1 79 k ∧ D.1 79 k ≤ 122) → tb_E X 13 10 [tb_r 1, tb_i i] [] C (tb_Rv 13 (fun A' => tb_E X 204 67 [tb_r 77, tb_i i, tb_i x2, j3] [] D (tb_Rv 204 (fun B' => te_NQ n A B A' B')))) := by
  have nb := T.2.1
  have endw : ∀ (i : Int) (C D : tb_H), te_f1 A C → te_f7 B D → C.1 1 4 = i → C.1 1 6 = a → D.1 77 4 = a → D.1 77 8 = i - a → (0 ≤ a ∧ a ≤ i ∧ i ≤ n) → A.1 1 4 ≤ a → a < i → (i - a ≤ 8 → C.2.1 1 7 = te_code (D.1 79) (i - a).toNat ∧ ∀ k, 0 ≤ k → k < i - a → 97 ≤ D.1 79 k ∧ D.1 79 k ≤ 122) → te_NQ n A B (tb_upI C 1 5 (if 8 < tb_w (C.1 1 4 - C.1 1 6) then 0 else 1)) (tb_upI (tb_upI D 77 5 i) 77 6 (if D.1 77 8 ≤ 8 then 2 else 1)) := by
    intro i C D fC fD h4 h6 g4 g8 ai le lt hc
    refine ⟨fC.upI (Or.inr (Or.inl rfl)), tb_fr.upI (tb_fr.upI fD rfl) rfl, ⟨?_, ?_⟩, ?_⟩
    · rw [tb_uI_k (by decide), tb_uI_k (by decide), tb_uI_k (by decide), h6, g4]
    · rw [h4, h6, g8, tb_w_id (by omega) (by omega)]
      by_cases c : i - a ≤ 8
      · rw [if_neg (by omega), if_pos c]
        refine Or.inr (Or.inr ⟨⟨?_, ?_, ?_⟩, Or.inl ⟨tb_uI_s, tb_uI_s, ?_⟩⟩)
        · rw [tb_uI_k (by decide), tb_uI_k (by decide), tb_uI_s, h4]
        · rw [tb_uI_k (by decide), h4]; omega
        · rw [tb_uI_k (by decide), h4]; exact ai.2.2
        · rw [tb_uI_k (by decide), tb_uI_k (by decide), g8, td_upo (by decide), td_upo (by decide)]
          have e := hc c
          exact ⟨⟨by omega, c⟩, e.2, e.1⟩
      · rw [if_pos (by omega), if_neg c]
        exact Or.inr (Or.inl ⟨tb_uI_s, tb_uI_s⟩)
    · refine Or.inr (Or.inr ?_)
      rw [tb_uI_k (by decide), h4]
      omega
  have stop : ∀ (i : Int) (C D : tb_H), te_f1 A C → te_f7 B D → n ≤ i → C.1 1 4 = i → C.1 1 6 = a → D.1 77 4 = a → D.1 77 8 = i - a → (0 ≤ a ∧ a ≤ i ∧ i ≤ n) → A.1 1 4 ≤ a → a < i → (i - a ≤ 8 → C.2.1 1 7 = te_code (D.1 79) (i - a).toNat ∧ ∀ k, 0 ≤ k → k < i - a → 97 ≤ D.1 79 k ∧ D.1 79 k ≤ 122) → tb_E X 13 10 [tb_r 1, tb_i i] [] C (tb_Rv 13 (fun A' => tb_E X 204 67 [tb_r 77, tb_i i, tb_i x2, j3] [] D (tb_Rv 204 (fun B' => te_NQ n A B A' B')))) := by
    intro i C D fC fD ni h4 h6 g4 g8 ai le lt hc
    have T' := T.fr fC fD
    refine q13_10 ⟨fun _ => ?_, fun q => absurd q (by rw [T'.1.1]; omega)⟩
    refine q204_67 ?_
    rw [e205n T'.1.2 ni, e206f (by omega)]
    exact ⟨fun _ => endw i C D fC fD h4 h6 g4 g8 ai le lt hc, fun q => absurd rfl q⟩
  intro m
  induction m with
  | zero =>
    intro i C D im fC fD h4 h6 g4 g8 ai le lw hc
    exact stop i C D fC fD (by omega) h4 h6 g4 g8 ai le (by omega) hc
  | succ m ih =>
    intro i C D im fC fD h4 h6 g4 g8 ai le lw hc
    have T' := T.fr fC fD
    by_cases c : i < n
    · have by' := T'.2.2 i (by omega) c
      have bl := te_bl by'.2.1 by'.2.2 by'.1
      by_cases l : 97 ≤ D.1 78 i ∧ D.1 78 i ≤ 122
      · have l' := bl.1.mpr l
        have bv : C.1 2 i = D.1 78 i := bl.2.2.2.2.2 (by omega)
        refine q13_10 ⟨fun q => absurd q (by rw [T'.1.1]; omega), fun _ => ?_⟩
        rw [e11i T'.1.1 nb.2.1 (by omega) c, e12t l']
        refine ⟨fun q => absurd q (by decide), fun _ => ?_⟩
        rw [e11i T'.1.1 nb.2.1 (by omega) c, e14g, tb_w_id (x := i + 1) (by omega) (by omega)]
        refine te_sEE (q204_67 ?_)
        rw [e205i T'.1.2 nb.2.1 (by omega) c, e206t l]
        refine ⟨fun q => absurd q (by decide), fun _ => ⟨fun z => ?_, fun z => ?_⟩⟩
        · rw [g8] at z
          rw [g8, tb_w_id (x := i + 1) (by omega) (by omega), tb_w_id (x := i - a + 1) (by omega) (by omega)]
          refine te_sEE (ih (i + 1) _ _ (by omega) (fC.upL.upI (Or.inl rfl)) (tb_fr.upI fD rfl) tb_uI_s ?_ ?_ ?_ (by omega) le (Or.inl (by omega)) (fun q => absurd q (by omega)))
          · rw [tb_uI_k (by decide)]; exact h6
          · rw [tb_uI_k (by decide)]; exact g4
          · rw [tb_uI_s]; omega
        · rw [g8] at z
          have e := hc (by omega)
          have cb := te_code_b (l := D.1 79) (i - a).toNat (by omega) (fun k a0 b0 => e.2 k a0 (by omega))
          have cb7 := cb.2.2 (by omega)
          rw [e205i T'.1.2 nb.2.1 (by omega) c, g8, tb_w_id (x := i + 1) (by omega) (by omega), tb_w_id (x := i - a + 1) (by omega) (by omega)]
          refine ⟨⟨by omega, by omega⟩, ?_⟩
          refine te_sEE (ih (i + 1) _ _ (by omega) (fC.upL.upI (Or.inl rfl)) (tb_fr.upI (tb_fr.upI fD rfl) rfl) tb_uI_s ?_ ?_ ?_ (by omega) le (Or.inl (by omega)) (fun q => ?_))
          · rw [tb_uI_k (by decide)]; exact h6
          · rw [tb_uI_k (by decide), td_upo (by decide)]; exact g4
          · rw [tb_uI_s]; omega
          · have e1 : (i + 1 - a).toNat = (i - a).toNat + 1 := by omega
            have e2 : (((i - a).toNat : Nat) : Int) = i - a := by omega
            refine ⟨?_, fun k k0 k1 => ?_⟩
            · show (tb_upL C 1 7 _).2.1 1 7 = _
              rw [tb_uL_s, e.1, bv, tb_W_id (x := te_code (D.1 79) (i - a).toNat * 32) (by omega) (by omega), tb_W_id (x := _ + D.1 78 i) (by omega) (by omega), tb_W_id (x := _ - 97) (by omega) (by omega), tb_W_id (by omega) (by omega), e1]
              have e3 : (tb_upI (tb_upI D 79 (i - a) (D.1 78 i)) 77 8 (i - a + 1)).1 79 = (tb_upI D 79 (i - a) (D.1 78 i)).1 79 := td_upo (by decide)
              have e4 : te_code ((tb_upI D 79 (i - a) (D.1 78 i)).1 79) (i - a).toNat = te_code (D.1 79) (i - a).toNat := te_code_c _ (fun k _ _ => tb_uI_k (by omega))
              rw [e3]
              show _ = te_code ((tb_upI D 79 (i - a) (D.1 78 i)).1 79) (i - a).toNat * 32 + ((tb_upI D 79 (i - a) (D.1 78 i)).1 79 (((i - a).toNat : Nat) : Int) - 96)
              rw [e4, e2, tb_uI_s]
              omega
            · rw [td_upo (by decide)]
              by_cases y : k = i - a
              · rw [y, tb_uI_s]; exact l
              · rw [tb_uI_k y]; exact e.2 k k0 (by omega)
      · have l' : ¬ (97 ≤ C.1 2 i ∧ C.1 2 i ≤ 122) := fun q => l (bl.1.mp q)
        have lt : a < i := by
          rcases lw with q | q
          · exact q
          · rw [fD.1 78 i rfl rfl] at l
            exact absurd q.2 l
        refine q13_10 ⟨fun q => absurd q (by rw [T'.1.1]; omega), fun _ => ?_⟩
        rw [e11i T'.1.1 nb.2.1 (by omega) c, e12f l']
        refine ⟨fun _ => ?_, fun q => absurd rfl q⟩
        refine q204_67 ?_
        rw [e205i T'.1.2 nb.2.1 (by omega) c, e206f l]
        exact ⟨fun _ => endw i C D fC fD h4 h6 g4 g8 ai le lt hc, fun q => absurd rfl q⟩
    · exact stop i C D fC fD (by omega) h4 h6 g4 g8 ai le (by omega) hc
theorem te_digs {n a : Int} (T : te_tp n A B) {x2 : Int} : ∀ (m : Nat) (i : Int) (C D : tb_H), n ≤ i + m → te_f1 A C → te_f7 B D → C.1 1 4 = i → C.1 1 6 = a → D.1 77 4 = a → (0 ≤ a ∧ a ≤ i ∧ i ≤ n) → A.1 1 4 ≤ a → (a < i ∨ (i < n ∧ 48 ≤ B.1 78 i ∧ B.1 78 i ≤ 57)) → (i - a ≤ 3 → C.2.1 1 7 = D.1 77 7) → (0 ≤ D.1 77 7 ∧ D.1 77 7 ≤ 999 ∧ (i - a ≤ 0 → D.1 77 7 = 0) ∧ (i - a ≤ 1 → D.1 77 7 ≤ 9) ∧ (i - a ≤ 2 → D.1 77 7 ≤ 99)) → tb_E X 16 10 [tb_r 1, tb_i i] [] C (tb_Rv 16 (fun A' => tb_E X 204 152 [tb_r 77, tb_i i, tb_i x2, tb_i (i - a)] [] D (tb_Rv 204 (fun B' => te_NQ n A B A' B')))) := by
  have nb := T.2.1
  have endw : ∀ (i : Int) (C D : tb_H), te_f1 A C → te_f7 B D → C.1 1 4 = i → C.1 1 6 = a → D.1 77 4 = a → (0 ≤ a ∧ a ≤ i ∧ i ≤ n) → A.1 1 4 ≤ a → a < i → (i - a ≤ 3 → C.2.1 1 7 = D.1 77 7) → (0 ≤ D.1 77 7 ∧ D.1 77 7 ≤ 999) → te_NQ n A B (tb_upI C 1 5 (if 3 < tb_w (C.1 1 4 - C.1 1 6) then 0 else 2)) (tb_upI (tb_upI D 77 5 i) 77 6 (if i - a ≤ 3 then 3 else 1)) := by
    intro i C D fC fD h4 h6 g4 ai le lt hc wb
    refine ⟨fC.upI (Or.inr (Or.inl rfl)), tb_fr.upI (tb_fr.upI fD rfl) rfl, ⟨?_, ?_⟩, ?_⟩
    · rw [tb_uI_k (by decide), tb_uI_k (by decide), tb_uI_k (by decide), h6, g4]
    · rw [h4, h6, tb_w_id (by omega) (by omega)]
      by_cases c : i - a ≤ 3
      · rw [if_neg (by omega), if_pos c]
        refine Or.inr (Or.inr ⟨⟨?_, ?_, ?_⟩, Or.inr (Or.inl ⟨tb_uI_s, tb_uI_s, ?_, ?_⟩)⟩)
        · rw [tb_uI_k (by decide), tb_uI_k (by decide), tb_uI_s, h4]
        · rw [tb_uI_k (by decide), h4]; omega
        · rw [tb_uI_k (by decide), h4]; exact ai.2.2
        · rw [tb_uI_k (by decide), tb_uI_k (by decide)]
          exact hc c
        · rw [tb_uI_k (by decide), tb_uI_k (by decide)]
          exact wb
      · rw [if_pos (by omega), if_neg c]
        exact Or.inr (Or.inl ⟨tb_uI_s, tb_uI_s⟩)
    · refine Or.inr (Or.inr ?_)
      rw [tb_uI_k (by decide), h4]
      omega
  have stop : ∀ (i : Int) (C D : tb_H), te_f1 A C → te_f7 B D → n ≤ i → C.1 1 4 = i → C.1 1 6 = a → D.1 77 4 = a → (0 ≤ a ∧ a ≤ i ∧ i ≤ n) → A.1 1 4 ≤ a → a < i → (i - a ≤ 3 → C.2.1 1 7 = D.1 77 7) → (0 ≤ D.1 77 7 ∧ D.1 77 7 ≤ 999) → tb_E X 16 10 [tb_r 1, tb_i i] [] C (tb_Rv 16 (fun A' => tb_E X 204 152 [tb_r 77, tb_i i, tb_i x2, tb_i (i - a)] [] D (tb_Rv 204 (fun B' => te_NQ n A B A' B')))) := by
    intro i C D fC fD ni h4 h6 g4 ai le lt hc wb
    have T' := T.fr fC fD
    refine q16_10 ⟨fun _ => ?_, fun q => absurd q (by rw [T'.1.1]; omega)⟩
    refine q204_152 ?_
    rw [e205n T'.1.2 ni, e207f (by omega)]
    exact ⟨fun _ => endw i C D fC fD h4 h6 g4 ai le lt hc wb, fun q => absurd rfl q⟩
  intro m
  induction m with
  | zero =>
    intro i C D im fC fD h4 h6 g4 ai le lw hc wb
    exact stop i C D fC fD (by omega) h4 h6 g4 ai le (by omega) hc ⟨wb.1, wb.2.1⟩
  | succ m ih =>
    intro i C D im fC fD h4 h6 g4 ai le lw hc wb
    have T' := T.fr fC fD
    by_cases c : i < n
    · have by' := T'.2.2 i (by omega) c
      have bl := te_bl by'.2.1 by'.2.2 by'.1
      by_cases l : 48 ≤ D.1 78 i ∧ D.1 78 i ≤ 57
      · have l' := bl.2.1.mpr l
        have bv : C.1 2 i = D.1 78 i := bl.2.2.2.2.2 (by omega)
        refine q16_10 ⟨fun q => absurd q (by rw [T'.1.1]; omega), fun _ => ?_⟩
        rw [e11i T'.1.1 nb.2.1 (by omega) c, e15t l']
        refine ⟨fun q => absurd q (by decide), fun _ => ?_⟩
        rw [e11i T'.1.1 nb.2.1 (by omega) c, tb_w_id (x := i + 1) (by omega) (by omega)]
        refine te_sEE (q204_152 ?_)
        rw [e205i T'.1.2 nb.2.1 (by omega) c, e207t l]
        refine ⟨fun q => absurd q (by decide), fun _ => ⟨fun z => ?_, fun z => ?_⟩⟩
        · rw [tb_w_id (x := i + 1) (by omega) (by omega), tb_w_id (x := i - a + 1) (by omega) (by omega), show i - a + 1 = i + 1 - a by omega]
          refine te_sEE (ih (i + 1) _ _ (by omega) (fC.upL.upI (Or.inl rfl)) fD tb_uI_s ?_ g4 (by omega) le (Or.inl (by omega)) (fun q => absurd q (by omega)) ⟨wb.1, wb.2.1, fun q => absurd q (by omega), fun q => absurd q (by omega), fun q => absurd q (by omega)⟩)
          rw [tb_uI_k (by decide)]; exact h6
        · have e := hc (by omega)
          rw [e205i T'.1.2 nb.2.1 (by omega) c, tb_w_id (x := i + 1) (by omega) (by omega), tb_w_id (x := i - a + 1) (by omega) (by omega), show i - a + 1 = i + 1 - a by omega, tb_w_id (x := 10 * D.1 77 7) (by omega) (by omega), tb_w_id (x := 10 * D.1 77 7 + D.1 78 i) (by omega) (by omega), tb_w_id (x := _ - 48) (by omega) (by omega)]
          refine te_sEE (ih (i + 1) _ _ (by omega) (fC.upL.upI (Or.inl rfl)) (tb_fr.upI fD rfl) tb_uI_s ?_ ?_ (by omega) le (Or.inl (by omega)) (fun q => ?_) ?_)
          · rw [tb_uI_k (by decide)]; exact h6
          · rw [tb_uI_k (by decide)]; exact g4
          · show (tb_upL C 1 7 _).2.1 1 7 = _
            rw [tb_uL_s, tb_uI_s, e, bv, tb_W_id (x := D.1 77 7 * 10) (by omega) (by omega), tb_W_id (x := _ + D.1 78 i) (by omega) (by omega), tb_W_id (by omega) (by omega)]
            omega
          · rw [tb_uI_s]
            omega
      · have l' : ¬ (48 ≤ C.1 2 i ∧ C.1 2 i ≤ 57) := fun q => l (bl.2.1.mp q)
        have lt : a < i := by
          rcases lw with q | q
          · exact q
          · rw [fD.1 78 i rfl rfl] at l
            exact absurd q.2 l
        refine q16_10 ⟨fun q => absurd q (by rw [T'.1.1]; omega), fun _ => ?_⟩
        rw [e11i T'.1.1 nb.2.1 (by omega) c, e15f l']
        refine ⟨fun _ => ?_, fun q => absurd rfl q⟩
        refine q204_152 ?_
        rw [e205i T'.1.2 nb.2.1 (by omega) c, e207f l]
        exact ⟨fun _ => endw i C D fC fD h4 h6 g4 ai le lt hc ⟨wb.1, wb.2.1⟩, fun q => absurd rfl q⟩
    · exact stop i C D fC fD (by omega) h4 h6 g4 ai le (by omega) hc ⟨wb.1, wb.2.1⟩
/-- the token from i on -/
theorem te_next {n : Int} (T : te_tp n A B) (h4 : A.1 1 4 = B.1 77 5) (h0 : 0 ≤ A.1 1 4) (h1 : A.1 1 4 ≤ n) : te_P2 (fun K => tb_Cv X 10 [tb_r 1] A K) (fun K => tb_Cv X 204 [tb_r 77] B K) (te_NQ n A B) := by
  have nb := T.2.1
  refine te_P2.of te_fV te_fV ?_
  have stop : ∀ (i : Int) (C : tb_H) (j2 j3 : tb_V), n ≤ i → te_f1 A C → C.1 1 4 = i → A.1 1 4 ≤ i → i ≤ n → tb_E X 10 5 [tb_r 1, tb_i i] [] C (tb_Rv 10 (fun A' => tb_E X 204 5 [tb_r 77, tb_i i, j2, j3] [] B (tb_Rv 204 (fun B' => te_NQ n A B A' B')))) := by
    intro i C j2 j3 ni fC h4 le i1
    have T' := T.fr fC (tb_fr.refl : te_f7 B B)
    refine q10_5 ⟨fun _ => ?_, fun q => absurd q (by rw [T'.1.1]; omega)⟩
    rw [h4, e11n (A := tb_upI C 1 6 i) (n := n) (by rw [tb_uI_k (by decide)]; exact T'.1.1) (by omega) ni]
    refine ⟨fun q => absurd q (by rw [tb_uI_k (by decide), tb_uI_k (by decide), h4, T'.1.1]; omega), fun _ => ?_⟩
    refine q204_5 ?_
    rw [e205n T.1.2 ni]
    refine ⟨fun _ => ?_, fun q => absurd q (by decide)⟩
    rw [e205n (A := tb_upI B 77 4 i) (n := n) (by rw [tb_uI_k (by decide)]; exact T.1.2) ni]
    refine ⟨fun q => absurd rfl q, fun _ => ?_⟩
    refine ⟨(((fC.upI (Or.inr (Or.inr rfl))).upL).upI (Or.inr (Or.inl rfl))).upI (Or.inr (Or.inl rfl)), tb_fr.upI (tb_fr.upI (tb_fr.upI (tb_fr.upI (tb_fr.upI tb_fr.refl rfl) rfl) rfl) rfl) rfl, ⟨?_, Or.inl ⟨tb_uI_s, ?_⟩⟩, Or.inl tb_uI_s⟩
    · rw [tb_uI_k (by decide), tb_uI_k (by decide), tb_uI_k (by decide), tb_uI_k (by decide), tb_uI_k (by decide), tb_uI_k (by decide), tb_uI_s]
      show (tb_upI C 1 6 i).1 1 6 = i
      exact tb_uI_s
    · rw [tb_uI_k (by decide), tb_uI_s]
  have loop : ∀ (m : Nat) (i : Int) (C : tb_H) (j2 j3 : tb_V), n ≤ i + m → te_f1 A C → C.1 1 4 = i → A.1 1 4 ≤ i → i ≤ n → tb_E X 10 5 [tb_r 1, tb_i i] [] C (tb_Rv 10 (fun A' => tb_E X 204 5 [tb_r 77, tb_i i, j2, j3] [] B (tb_Rv 204 (fun B' => te_NQ n A B A' B')))) := by
    intro m
    induction m with
    | zero =>
      intro i C j2 j3 im fC h4 le i1
      exact stop i C j2 j3 (by omega) fC h4 le i1
    | succ m ih =>
      intro i C j2 j3 im fC h4 le i1
      by_cases c : i < n
      · have T' := T.fr fC (tb_fr.refl : te_f7 B B)
        have by' := T'.2.2 i (by omega) c
        have bl := te_bl by'.2.1 by'.2.2 by'.1
        refine q10_5 ⟨fun q => absurd q (by rw [T'.1.1]; omega), fun _ => ?_⟩
        rw [e11i T'.1.1 nb.2.1 (by omega) c]
        refine ⟨fun ns => ?_, fun sp => ?_⟩
        · have ns' : B.1 78 i ≠ 32 := fun q => ns (bl.2.2.1.mpr q)
          have fC2 : te_f1 A (tb_upI (tb_upL (tb_upI C 1 6 i) 1 7 (C.1 2 i)) 1 5 0) := ((fC.upI (Or.inr (Or.inr rfl))).upL).upI (Or.inr (Or.inl rfl))
          have k4 : (tb_upI (tb_upL (tb_upI C 1 6 i) 1 7 (C.1 2 i)) 1 5 0).1 1 4 = i := by
            rw [tb_uI_k (by decide)]
            show (tb_upI C 1 6 i).1 1 4 = i
            rw [tb_uI_k (by decide)]
            exact h4
          have k6 : (tb_upI (tb_upL (tb_upI C 1 6 i) 1 7 (C.1 2 i)) 1 5 0).1 1 6 = i := by
            rw [tb_uI_k (by decide)]
            show (tb_upI C 1 6 i).1 1 6 = i
            rw [tb_uI_s]
          rw [h4, e11i (A := tb_upI C 1 6 i) (n := n) (by rw [tb_uI_k (by decide)]; exact T'.1.1) nb.2.1 (by omega) c, td_upo (show 2 ≠ 1 by decide)]
          refine ⟨fun _ => ?_, fun q => absurd q (by rw [tb_uI_k (by decide), tb_uI_k (by decide), h4, T'.1.1]; omega)⟩
          have fD : te_f7 B (tb_upI (tb_upI (tb_upI B 77 4 i) 77 8 0) 77 7 0) := tb_fr.upI (tb_fr.upI (tb_fr.upI tb_fr.refl rfl) rfl) rfl
          -- the reference's way to the same place
          have ref : ∀ Kr : tb_H → Prop, (∀ (D : tb_H), D = tb_upI (tb_upI (tb_upI B 77 4 i) 77 8 0) 77 7 0 → ((97 ≤ B.1 78 i ∧ B.1 78 i ≤ 122) → tb_E X 204 67 [tb_r 77, tb_i i, tb_i (B.1 78 i), j3] [] D (tb_Rv 204 Kr)) ∧ (¬ (97 ≤ B.1 78 i ∧ B.1 78 i ≤ 122) → (48 ≤ B.1 78 i ∧ B.1 78 i ≤ 57) → tb_E X 204 152 [tb_r 77, tb_i i, tb_i (B.1 78 i), tb_i 0] [] D (tb_Rv 204 Kr)) ∧ (¬ (97 ≤ B.1 78 i ∧ B.1 78 i ≤ 122) → ¬ (48 ≤ B.1 78 i ∧ B.1 78 i ≤ 57) → Kr (tb_upI (tb_upI D 77 5 (i + 1)) 77 6 (if B.1 78 i = 59 then B.1 78 i else (if B.1 78 i ≠ 44 then 1 else B.1 78 i))))) → tb_E X 204 5 [tb_r 77, tb_i i, j2, j3] [] B (tb_Rv 204 Kr) := by
            intro Kr hk
            have hk := hk _ rfl
            refine q204_5 ?_
            rw [e205i T.1.2 nb.2.1 (by omega) c]
            refine ⟨fun _ => ?_, fun q => absurd q ns'⟩
            rw [e205i (A := tb_upI B 77 4 i) (n := n) (by rw [tb_uI_k (by decide)]; exact T.1.2) nb.2.1 (by omega) c, td_upo (show 78 ≠ 77 by decide)]
            refine ⟨fun _ => ?_, fun q => absurd q (by omega)⟩
            by_cases l : 97 ≤ B.1 78 i ∧ B.1 78 i ≤ 122
            · rw [e206t l]
              exact ⟨fun q => absurd q (by decide), fun _ => hk.1 l⟩
            · rw [e206f l]
              refine ⟨fun _ => ?_, fun q => absurd rfl q⟩
              by_cases d : 48 ≤ B.1 78 i ∧ B.1 78 i ≤ 57
              · rw [e207t d]
                exact ⟨fun q => absurd q (by decide), fun _ => hk.2.1 l d⟩
              · rw [e207f d, tb_w_id (x := i + 1) (by omega) (by omega)]
                exact ⟨fun _ => hk.2.2 l d, fun q => absurd rfl q⟩
          by_cases l : 97 ≤ B.1 78 i ∧ B.1 78 i ≤ 122
          · rw [e12t (bl.1.mpr l)]
            refine ⟨fun q => absurd q (by decide), fun _ => q13 ?_⟩
            rw [k4]
            refine te_sEE (ref _ (fun D hD => ⟨fun _ => ?_, fun q => absurd l q, fun q => absurd l q⟩))
            subst hD
            refine te_sEE (te_word T (n.toNat + 1) i _ _ (by omega) fC2.upL fD k4 k6 ?_ ?_ (by omega) le (Or.inr ⟨c, l⟩) (fun _ => ⟨?_, fun k k0 k1 => absurd k1 (by omega)⟩))
            · rw [tb_uI_k (by decide), tb_uI_k (by decide), tb_uI_s]
            · rw [tb_uI_k (by decide), tb_uI_s]; omega
            · rw [tb_uL_s, show (i - i).toNat = 0 by omega]
              rfl
          · rw [e12f (fun q => l (bl.1.mp q))]
            refine ⟨fun _ => ?_, fun q => absurd rfl q⟩
            by_cases d : 48 ≤ B.1 78 i ∧ B.1 78 i ≤ 57
            · rw [e15t (bl.2.1.mpr d)]
              refine ⟨fun q => absurd q (by decide), fun _ => q16 ?_⟩
              rw [k4]
              refine te_sEE (ref _ (fun D hD => ⟨fun q => absurd q l, fun _ _ => ?_, fun _ q => absurd d q⟩))
              subst hD
              have dg := te_digs T (X := X) (x2 := B.1 78 i) (n.toNat + 1) i _ _ (by omega) fC2.upL fD k4 k6 (by rw [tb_uI_k (by decide), tb_uI_k (by decide), tb_uI_s]) (by omega) le (Or.inr ⟨c, d⟩) (fun _ => by rw [tb_uL_s, tb_uI_s]) (by rw [tb_uI_s]; omega)
              rw [show i - i = 0 by omega] at dg
              exact te_sEE dg
            · rw [e15f (fun q => d (bl.2.1.mp q))]
              refine ⟨fun _ => ?_, fun q => absurd rfl q⟩
              have sgn : ∀ (C3 : tb_H) (v : Int), (v = 59 ∨ v = 44) → B.1 78 i = v → C3 = tb_upI (tb_upI (tb_upI (tb_upL (tb_upI C 1 6 i) 1 7 (C.1 2 i)) 1 5 0) 1 5 3) 1 4 (i + 1) → tb_E X 204 5 [tb_r 77, tb_i i, j2, j3] [] B (tb_Rv 204 (fun B' => te_NQ n A B C3 B')) := by
                intro C3 v hv bv h3
                refine ref _ (fun D hD => ⟨fun q => absurd q l, fun _ q => absurd q d, fun _ _ => ?_⟩)
                subst hD
                subst h3
                have cv : C.1 2 i = v := (bl.2.2.2.2.2 (by
                  rcases hv with q | q
                  · have := bl.2.2.2.1.mpr (by omega); omega
                  · have := bl.2.2.2.2.1.mpr (by omega); omega)).trans bv
                refine ⟨(fC2.upI (Or.inr (Or.inl rfl))).upI (Or.inl rfl), tb_fr.upI (tb_fr.upI fD rfl) rfl, ⟨?_, Or.inr (Or.inr ⟨⟨?_, ?_, ?_⟩, Or.inr (Or.inr ⟨?_, ?_, ?_⟩)⟩)⟩, Or.inr (Or.inr ?_)⟩
                · rw [tb_uI_k (by decide), tb_uI_k (by decide), k6, tb_uI_k (by decide), tb_uI_k (by decide), tb_uI_k (by decide), tb_uI_k (by decide), tb_uI_s]
                · rw [tb_uI_s, tb_uI_k (by decide), tb_uI_s]
                · rw [tb_uI_s]; omega
                · rw [tb_uI_s]; omega
                · rw [tb_uI_k (by decide), tb_uI_s]
                · show (tb_upL (tb_upI C 1 6 i) 1 7 (C.1 2 i)).2.1 1 7 = _
                  rw [tb_uL_s, tb_uI_s, cv, bv]
                  ((repeat' split) <;> omega)
                · rw [tb_uI_s, bv]
                  ((repeat' split) <;> omega)
                · rw [tb_uI_s]; omega
              refine ⟨fun e => ?_, fun e => ⟨fun e2 => ?_, fun e2 => ?_⟩⟩
              · rw [k4, tb_w_id (x := i + 1) (by omega) (by omega)]
                exact sgn _ 59 (Or.inl rfl) (bl.2.2.2.1.mp e) rfl
              · refine ref _ (fun D hD => ⟨fun q => absurd q l, fun _ q => absurd q d, fun _ _ => ?_⟩)
                subst hD
                rw [if_neg (fun q => e (bl.2.2.2.1.mpr q)), if_pos (fun q => e2 (bl.2.2.2.2.1.mpr q))]
                refine ⟨fC2, tb_fr.upI (tb_fr.upI fD rfl) rfl, ⟨?_, Or.inr (Or.inl ⟨tb_uI_s, tb_uI_s⟩)⟩, Or.inr (Or.inl tb_uI_s)⟩
                rw [k6, tb_uI_k (by decide), tb_uI_k (by decide), tb_uI_k (by decide), tb_uI_k (by decide), tb_uI_s]
              · rw [k4, tb_w_id (x := i + 1) (by omega) (by omega)]
                exact sgn _ 44 (Or.inr rfl) (bl.2.2.2.2.1.mp e2) rfl
        · rw [tb_w_id (x := i + 1) (by omega) (by omega)]
          refine te_sEE (q204_5 ?_)
          rw [e205i T.1.2 nb.2.1 (by omega) c]
          refine ⟨fun q => absurd (bl.2.2.1.mp sp) q, fun _ => ?_⟩
          rw [tb_w_id (x := i + 1) (by omega) (by omega)]
          exact te_sEE (ih (i + 1) _ _ _ (by omega) (fC.upI (Or.inl rfl)) tb_uI_s (by omega) (by omega))
      · exact stop i C j2 j3 (by omega) fC h4 le i1
  refine q10 ?_
  refine te_sEV (q204 ?_)
  rw [← h4]
  exact te_sEE (loop n.toNat (A.1 1 4) A _ _ (by omega) te_f1.refl rfl (Int.le_refl _) h1)
end TENEXT
