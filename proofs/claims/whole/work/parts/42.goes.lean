/-! A DAY: the reference's half -/
section TBGOES
variable {X : tb_X} {A : tb_H} {K : Int → tb_H → Prop} {Kv : tb_H → Prop}
theorem tc_M.mk {B : tb_H} (M : tc_M A) (e80 : B.1 80 = A.1 80) (z : tb_bz (A.1 80) (B.1 82)) : tc_M B := by
  unfold tc_M at M ⊢
  rw [e80]
  exact ⟨M.1, M.2.1, z⟩
theorem tc_M.z (M : tc_M A) : tb_bz (A.1 80) (A.1 82) := M.2.2
theorem sp236 (M : tc_M A) {sc how : Int} (s0 : 0 ≤ sc) (s1 : sc < 8) (hh : how = 1 ∨ how = 2) (k : ∀ A', tb_fr [82] [] [] A A' → A'.1 82 = td_emp (A.1 80) sc how (td_set (A.1 82) (35 + sc) 1) → Kv A') : tb_Cv X 236 [tb_r 77, tb_i sc, tb_i how] A Kv := by
  have c3 := M.c113
  have c4 := M.c114
  have R := M.R
  have z1 := M.z.uGone s0 s1 (v := 1) (by decide)
  refine q236 ?_
  rw [tb_w_id (x := 35 + sc) (by omega) (by omega)]
  refine ⟨by omega, ?_⟩
  revert k z1
  generalize hτ : td_set (A.1 82) (35 + sc) 1 = τ
  intro k z1
  have h0 : (tb_upI A 82 (35 + sc) 1).1 82 = τ := by rw [td_set_u, hτ]
  have l2 : ∀ A1, tb_fr [82] [] [] A A1 → A1.1 82 = td_it (td_dH (A.1 80) sc how) (A.1 80 113).toNat τ → tb_E X 236 66 [tb_r 77, tb_i sc, tb_i how, tb_i 0] [] A1 (tb_Rv 236 Kv) := by
    intro A1 f1 e1
    have key := tb_lp (n := A.1 80 114) (E := fun i => ∀ A2, tb_fr [82] [] [] A A2 → A2.1 82 = td_it (td_dF sc how) i.toNat (td_it (td_dH (A.1 80) sc how) (A.1 80 113).toNat τ) → tb_E X 236 66 [tb_r 77, tb_i sc, tb_i how, tb_i i] [] A2 (tb_Rv 236 Kv)) c4.1 ?_ ?_
    · exact key A1 f1 e1
    · intro A2 f2 e2
      have e80 : A2.1 80 = A.1 80 := funext (fun k => f2.1 80 k rfl rfl)
      exact q236_66 ⟨fun _ => k A2 f2 e2, fun q => by rw [e80] at q; omega⟩
    · intro i i0 i1 ih A2 f2 e2
      have e80 : A2.1 80 = A.1 80 := funext (fun k => f2.1 80 k rfl rfl)
      rw [td_it_s i0, ← e2] at ih
      refine q236_66 ⟨fun q => by rw [e80] at q; omega, fun _ => ?_⟩
      rw [tb_w_id (x := 27 + i) (by omega) (by omega), tb_w_id (x := 31 + i) (by omega) (by omega), tb_w_id (x := i + 1) (by omega) (by omega)]
      refine ⟨by omega, fun q => ?_, fun q => ⟨by omega, fun q1 => ?_, fun q1 => ⟨by omega, ?_⟩⟩⟩
      · exact ih A2 f2 (by rw [td_dF_d, if_neg (fun w => q w.1)])
      · exact ih A2 f2 (by rw [td_dF_d, if_neg (fun w => q1 w.2)])
      · exact ih _ (f2.upI rfl) (by rw [td_set_u, td_dF_d, if_pos ⟨q, q1⟩])
  have key := tb_lp (n := A.1 80 113) (E := fun i => ∀ A2, tb_fr [82] [] [] A A2 → A2.1 82 = td_it (td_dH (A.1 80) sc how) i.toNat τ → tb_E X 236 12 [tb_r 77, tb_i sc, tb_i how, tb_i i] [] A2 (tb_Rv 236 Kv)) c3.1 ?_ ?_
  · exact key _ (tb_fr.upI tb_fr.refl rfl) h0
  · intro A2 f2 e2
    have e80 : A2.1 80 = A.1 80 := funext (fun k => f2.1 80 k rfl rfl)
    exact q236_12 ⟨fun _ => l2 A2 f2 e2, fun q => by rw [e80] at q; omega⟩
  · intro i i0 i1 ih A2 f2 e2
    have e80 : A2.1 80 = A.1 80 := funext (fun k => f2.1 80 k rfl rfl)
    rw [td_it_s i0, ← e2] at ih
    refine q236_12 ⟨fun q => by rw [e80] at q; omega, fun _ => ?_⟩
    rw [tb_w_id (x := 15 + i) (by omega) (by omega), tb_w_id (x := 33 + i) (by omega) (by omega), tb_w_id (x := i + 1) (by omega) (by omega), e80]
    refine ⟨by omega, fun q => ?_, fun q => ⟨by omega, fun q1 => ?_, fun q1 => ⟨by omega, ?_⟩⟩⟩
    · exact ih A2 f2 (by rw [td_dH_d, if_neg (fun w => q w.1)])
    · exact ih A2 f2 (by rw [td_dH_d, if_neg (fun w => q1 w.2)])
    · exact ih _ (f2.upI rfl) (by rw [td_set_u, td_dH_d, if_pos ⟨q, q1⟩])
theorem sp252 (M : tc_M A) (k : ∀ A', tb_fr [82] [] [] A A' → A'.1 82 = td_ern (A.1 80) (A.1 82) → Kv A') : tb_Cv X 252 [tb_r 77, tb_i (A.1 82 9)] A Kv := by
  have c4 := M.c114
  have c7 := M.c117
  refine q252 ?_
  have l2 : ∀ (A1 : tb_H) (j : tb_V), tb_fr [82] [] [] A A1 → A1.1 82 = td_it td_dC (A.1 80 114).toNat (A.1 82) → tb_E X 252 47 [tb_r 77, tb_i (A.1 82 9), tb_i 0, j] [] A1 (tb_Rv 252 Kv) := by
    intro A1 j f1 e1
    have z1 : tb_bz (A.1 80) (td_it td_dC (A.1 80 114).toNat (A.1 82)) := td_it_bz (N := (A.1 80 114).toNat) (fun i s _ _ z => z.dC) M.z _ (Nat.le_refl _)
    have n1 : td_it td_dC (A.1 80 114).toNat (A.1 82) 9 = A.1 82 9 := td_it_k (N := (A.1 80 114).toNat) (fun i s _ _ => by
      unfold td_dC
      split
      · exact td_set_n (by decide)
      · rfl) _ (Nat.le_refl _)
    have key := tb_lp (n := A.1 80 117) (E := fun i => ∀ (A2 : tb_H) (j : tb_V), tb_fr [82] [] [] A A2 → A2.1 82 = td_it (td_dI (A.1 80)) i.toNat (td_it td_dC (A.1 80 114).toNat (A.1 82)) → tb_E X 252 47 [tb_r 77, tb_i (A.1 82 9), tb_i i, j] [] A2 (tb_Rv 252 Kv)) c7.1 ?_ ?_
    · exact key A1 _ f1 e1
    · intro A2 _ f2 e2
      have e80 : A2.1 80 = A.1 80 := funext (fun k => f2.1 80 k rfl rfl)
      exact q252_47 ⟨fun _ => k A2 f2 e2, fun q => by rw [e80] at q; omega⟩
    · intro i i0 i1 ih A2 _ f2 e2
      have e80 : A2.1 80 = A.1 80 := funext (fun k => f2.1 80 k rfl rfl)
      have z2 : tb_bz (A.1 80) (A2.1 82) := by
        rw [e2]
        exact td_it_bz (N := 4) (fun i s i0 i1 z => z.dI i0 i1) z1 _ (by omega)
      have n2 : A2.1 82 9 = A.1 82 9 := by
        rw [e2, td_it_k (N := i.toNat) (fun i s _ _ => ?_) _ (Nat.le_refl _), n1]
        unfold td_dI
        split
        · rw [td_set_n (by decide), td_set_n (by decide)]
        · rfl
      rw [td_it_s i0, ← e2] at ih
      refine q252_47 ⟨fun q => by rw [e80] at q; omega, fun _ => ?_⟩
      rw [tb_w_id (x := 81 + i) (by omega) (by omega), tb_w_id (x := 85 + i) (by omega) (by omega), tb_w_id (x := 89 + i) (by omega) (by omega), tb_w_id (x := 93 + i) (by omega) (by omega), tb_w_id (x := i + 1) (by omega) (by omega), e80]
      have no : ¬ (A2.1 82 0 = A.1 80 (81 + i) ∧ A2.1 82 1 = A.1 80 (85 + i) ∧ A.1 80 (89 + i) ≤ A2.1 82 9 ∧ A2.1 82 9 ≤ A.1 80 (93 + i) ∧ tb_and (tb_shr (A2.1 82 6) i) 1 = 0) → ∀ j : tb_V, tb_E X 252 47 [tb_r 77, tb_i (A.1 82 9), tb_i (i + 1), j] [] A2 (tb_Rv 252 Kv) := by
        intro n j
        exact ih A2 _ f2 (by unfold td_dI; rw [if_neg n])
      refine ⟨by omega, fun q => no (fun n => q n.1) _, fun q0 => ⟨by omega, fun q => no (fun n => q n.2.1) _, fun q1 => ⟨by omega, by omega, ?_⟩⟩⟩
      by_cases w : A.1 80 (89 + i) ≤ A.1 82 9 ∧ A.1 82 9 ≤ A.1 80 (93 + i)
      · rw [e202t w, if_neg (by decide)]
        refine ⟨fun q => absurd q (by decide), fun _ => ?_⟩
        rw [e224]
        by_cases b : tb_and (tb_shr (A2.1 82 6) i) 1 = 1
        · rw [if_neg (fun q => q b)]
          exact ⟨fun q => absurd q (by decide), fun _ => no (fun n => by omega) _⟩
        · rw [if_pos b]
          have b0 : tb_and (tb_shr (A2.1 82 6) i) 1 = 0 := (tb_bt01 (A2.1 82 6) i).elim id (fun q => absurd q b)
          rw [tb_w_id (x := 97 + i) (by omega) (by omega)]
          refine ⟨fun _ => ⟨by omega, ?_⟩, fun q => absurd rfl q⟩
          refine ih _ _ ((f2.upI rfl).upI rfl) ?_
          unfold td_dI
          rw [if_pos ⟨q0, q1, by omega, by omega, b0⟩, td_set_u, td_set_u, e80]
      · rw [e202f w, if_pos rfl]
        exact ⟨fun _ => no (fun n => w (by omega)) _, fun q => absurd rfl q⟩
  have key := tb_lp (n := A.1 80 114) (E := fun i => ∀ (A2 : tb_H) (j : tb_V), tb_fr [82] [] [] A A2 → A2.1 82 = td_it td_dC i.toNat (A.1 82) → tb_E X 252 2 [tb_r 77, tb_i (A.1 82 9), tb_i i, j] [] A2 (tb_Rv 252 Kv)) c4.1 ?_ ?_
  · exact key A _ tb_fr.refl rfl
  · intro A2 _ f2 e2
    have e80 : A2.1 80 = A.1 80 := funext (fun k => f2.1 80 k rfl rfl)
    exact q252_2 ⟨fun _ => l2 A2 _ f2 e2, fun q => by rw [e80] at q; omega⟩
  · intro i i0 i1 ih A2 _ f2 e2
    have e80 : A2.1 80 = A.1 80 := funext (fun k => f2.1 80 k rfl rfl)
    have z2 : tb_bz (A.1 80) (A2.1 82) := by
      rw [e2]
      exact td_it_bz (N := i.toNat) (fun i s _ _ z => z.dC) M.z _ (Nat.le_refl _)
    rw [td_it_s i0, ← e2] at ih
    refine q252_2 ⟨fun q => by rw [e80] at q; omega, fun _ => ?_⟩
    rw [tb_w_id (x := 27 + i) (by omega) (by omega), tb_w_id (x := i + 1) (by omega) (by omega)]
    refine ⟨by omega, ih _ _ (f2.upI rfl) ?_⟩
    rw [td_set_u]
    unfold td_dC
    by_cases c : A2.1 82 (27 + i) = 0
    · rw [if_pos c, if_neg (fun q => q c)]
    · rw [if_neg c, if_pos c, Int.add_zero, tb_w_id z2.1.2.2.2.2.1.1 z2.1.2.2.2.2.1.2, td_set_id rfl]
theorem td_itS_d {s : Int → Int} {k : Int} : td_itS s k = if s (35 + k) = 1 then 0 else if s (43 + k) < 5 then 0 else 1 := rfl
theorem td_itF_d {r s : Int → Int} {i : Int} : td_itF r s i = if s (35 + r (65 + i)) = 0 then r (69 + i) else 0 := rfl
theorem td_dB_c {s : Int → Int} {v i : Int} (i0 : 0 ≤ i) : td_dB i (td_set s 8 v) = td_set (td_dB i s) 8 v := by
  unfold td_dB
  rw [td_set_n (by omega), td_set_n (by omega)]
  by_cases c : s (35 + i) = 1
  · rw [if_pos c, if_pos c]
  · rw [if_neg c, if_neg c, td_set_c (by omega)]
theorem sp253 (M : tc_M A) (k : ∀ A', tb_fr [82] [] [] A A' → A'.1 82 = td_it td_dB (A.1 80 112).toNat (td_itc (A.1 80) (A.1 82)) → Kv A') : tb_Cv X 253 [tb_r 77] A Kv := by
  have c5 := M.c115
  have c2 := M.c112
  have z := M.z
  have bF : ∀ i, 0 ≤ i → i ≤ A.1 80 115 → 0 ≤ tb_sum (td_itF (A.1 80) (A.1 82)) i ∧ tb_sum (td_itF (A.1 80) (A.1 82)) i ≤ 4 * 9 := fun i i0 i1 => tb_sum_bd i0 (by omega) (by decide) (fun j a b => by
    have := M.v69 a (show j < A.1 80 115 by omega)
    unfold td_itF
    split <;> omega)
  have bS : ∀ i, 0 ≤ i → i ≤ A.1 80 112 → 0 ≤ tb_sum (td_itS (A.1 82)) i ∧ tb_sum (td_itS (A.1 82)) i ≤ 8 * 1 := fun i i0 i1 => tb_sum_bd i0 (by omega) (by decide) (fun j a b => by
    unfold td_itS
    split
    · omega
    · split <;> omega)
  refine q253 ?_
  have l2 : tb_E X 253 59 [tb_r 77, tb_i (tb_sum (td_itF (A.1 80) (A.1 82)) (A.1 80 115)), tb_i 0] [] A (tb_Rv 253 Kv) := by
    have key := tb_lp (n := A.1 80 112) (E := fun i => ∀ A2 : tb_H, tb_fr [82] [] [] A A2 → A2.1 82 = td_it td_dB i.toNat (A.1 82) → tb_E X 253 59 [tb_r 77, tb_i (tb_sum (td_itF (A.1 80) (A.1 82)) (A.1 80 115) + tb_sum (td_itS (A.1 82)) i), tb_i i] [] A2 (tb_Rv 253 Kv)) (by omega) ?_ ?_
    · have h := key A tb_fr.refl rfl
      rw [tb_sum_0, Int.add_zero] at h
      exact h
    · intro A2 f2 e2
      have e80 : A2.1 80 = A.1 80 := funext (fun k => f2.1 80 k rfl rfl)
      refine q253_59 ⟨fun _ => ?_, fun q => by rw [e80] at q; omega⟩
      rw [e240]
      refine k _ (f2.upI rfl) ?_
      have e8 : A2.1 82 8 = A.1 82 8 := by rw [e2, td_dBs_k (by omega) (by decide)]
      rw [td_set_u, e8, e2]
      unfold td_itc td_les
      rw [td_it_c (N := (A.1 80 112).toNat) (fun i s i0 _ => td_dB_c i0) _ (Nat.le_refl _)]
    · intro i i0 i1 ih A2 f2 e2
      have e80 : A2.1 80 = A.1 80 := funext (fun k => f2.1 80 k rfl rfl)
      have a := bF (A.1 80 115) c5.1 (Int.le_refl _)
      have b := bS i i0 (by omega)
      have k35 : A2.1 82 (35 + i) = A.1 82 (35 + i) := by rw [e2, td_dBs_k (by omega) (by omega)]
      have k43 : A2.1 82 (43 + i) = A.1 82 (43 + i) := by
        rw [e2]
        refine td_it_k (N := i.toNat) (fun j s j0 j1 => ?_) _ (Nat.le_refl _)
        unfold td_dB
        split
        · rfl
        · exact td_set_n (by omega)
      have bb := z.2.2.2 i i0 (by omega)
      rw [td_it_s i0, ← e2, tb_sum_s i0, ← Int.add_assoc] at ih
      refine q253_59 ⟨fun q => by rw [e80] at q; omega, fun _ => ?_⟩
      rw [tb_w_id (x := 35 + i) (by omega) (by omega), tb_w_id (x := 43 + i) (by omega) (by omega), tb_w_id (x := i + 1) (by omega) (by omega), k35, k43]
      rw [td_itS_d] at ih
      refine ⟨by omega, fun q => ⟨by omega, by omega, by omega, by omega, ?_⟩, fun q => ?_⟩
      · rw [if_neg q] at ih
        rw [tb_w_id (x := A.1 82 (43 + i) + _) (by split <;> omega) (by split <;> omega), tb_w_id (x := _ + tb_sum _ i + _) (by split <;> omega) (by split <;> omega)]
        refine ih _ (f2.upI rfl) ?_
        rw [td_set_u]
        unfold td_dB
        rw [k35, k43, if_neg q]
        congr 1
        ((repeat' split) <;> omega)
      · rw [if_pos q, Int.add_zero] at ih
        refine ih A2 f2 ?_
        unfold td_dB
        rw [k35, if_pos q]
  have key := tb_lp (n := A.1 80 115) (E := fun i => tb_E X 253 4 [tb_r 77, tb_i (tb_sum (td_itF (A.1 80) (A.1 82)) i), tb_i i] [] A (tb_Rv 253 Kv)) c5.1 ?_ ?_
  · exact key
  · exact q253_4 ⟨fun _ => l2, fun q => by omega⟩
  · intro i i0 i1 ih
    have a := bF i i0 (by omega)
    have v := M.v65 i0 i1
    have v9 := M.v69 i0 i1
    rw [tb_sum_s i0] at ih
    refine q253_4 ⟨fun q => by omega, fun _ => ?_⟩
    rw [tb_w_id (x := 65 + i) (by omega) (by omega), tb_w_id (x := 35 + A.1 80 (65 + i)) (by omega) (by omega), tb_w_id (x := 69 + i) (by omega) (by omega), tb_w_id (x := i + 1) (by omega) (by omega)]
    rw [td_itF_d] at ih
    refine ⟨by omega, by omega, fun q => ?_, fun q => ⟨by omega, ?_⟩⟩
    · rw [if_neg q, Int.add_zero] at ih
      rw [Int.add_zero, tb_w_id (by omega) (by omega)]
      exact ih
    · rw [if_pos q] at ih
      rw [tb_w_id (x := _ + A.1 80 (69 + i)) (by omega) (by omega)]
      exact ih
theorem sp256 (M : tc_M A) {x g : Int} (k1 : (∃ h, 0 ≤ h ∧ h < A.1 80 113 ∧ A.1 82 (15 + h) = 0 ∧ A.1 80 (33 + h) = x ∧ tb_bt g h = 1) → K 1 A) (k0 : ¬ (∃ h, 0 ≤ h ∧ h < A.1 80 113 ∧ A.1 82 (15 + h) = 0 ∧ A.1 80 (33 + h) = x ∧ tb_bt g h = 1) → K 0 A) : tb_Ci X 256 [tb_r 77, tb_i x, tb_i g] A K := by
  have c3 := M.c113
  refine q256 ?_
  have key := tb_lp (n := A.1 80 113) (E := fun i => ∀ f : Int, ((f = 0 ∧ ∀ h, 0 ≤ h → h < i → ¬ (A.1 82 (15 + h) = 0 ∧ A.1 80 (33 + h) = x ∧ tb_bt g h = 1)) ∨ (f = 1 ∧ ∃ h, 0 ≤ h ∧ h < A.1 80 113 ∧ A.1 82 (15 + h) = 0 ∧ A.1 80 (33 + h) = x ∧ tb_bt g h = 1)) → tb_E X 256 5 [tb_r 77, tb_i x, tb_i g, tb_i f, tb_i i] [] A (tb_Ri 256 K)) c3.1 ?_ ?_
  · exact key 0 (Or.inl ⟨rfl, fun h a b => by omega⟩)
  · intro f h
    refine q256_5 ⟨fun _ => ⟨by omega, ?_⟩, fun q => by omega⟩
    rcases h with ⟨h, n⟩ | ⟨h, n⟩
    · rw [h]; exact k0 (fun ⟨j, j0, j1, j2⟩ => n j j0 j1 j2)
    · rw [h]; exact k1 n
  · intro i i0 i1 ih f h
    have nx : (∀ h, 0 ≤ h → h < i → ¬ (A.1 82 (15 + h) = 0 ∧ A.1 80 (33 + h) = x ∧ tb_bt g h = 1)) → ¬ (A.1 82 (15 + i) = 0 ∧ A.1 80 (33 + i) = x ∧ tb_bt g i = 1) → tb_E X 256 5 [tb_r 77, tb_i x, tb_i g, tb_i 0, tb_i (i + 1)] [] A (tb_Ri 256 K) := by
      intro n u
      refine ih 0 (Or.inl ⟨rfl, fun h h0 h1 => ?_⟩)
      by_cases e : h = i
      · rw [e]; exact u
      · exact n h h0 (by omega)
    refine q256_5 ⟨fun q => by omega, fun _ => ?_⟩
    rw [tb_w_id (x := 15 + i) (by omega) (by omega), tb_w_id (x := 33 + i) (by omega) (by omega), tb_w_id (x := i + 1) (by omega) (by omega)]
    rcases h with ⟨h, n⟩ | ⟨h, n⟩
    · refine ⟨fun q => absurd h q, fun _ => ⟨by omega, fun q => nx n (fun u => q u.1), fun q => ⟨by omega, fun q1 => nx n (fun u => q1 u.2.1), fun q1 => ?_⟩⟩⟩
      rw [e224]
      rcases tb_bt01 g i with b | b
      · rw [show tb_and (tb_shr g i) 1 = 0 from b, if_pos (by decide)]
        exact nx n (fun u => by omega)
      · rw [show tb_and (tb_shr g i) 1 = 1 from b, if_neg (by decide)]
        exact ih 1 (Or.inr ⟨rfl, i, i0, i1, q, q1, b⟩)
    · exact ⟨fun _ => ih 1 (Or.inr ⟨rfl, n⟩), fun q => by omega⟩
theorem tc_M.tie (M : tc_M A) {x : Int} : (∃ h, 0 ≤ h ∧ h < A.1 80 113 ∧ A.1 82 (15 + h) = 0 ∧ A.1 80 (33 + h) = x ∧ tb_bt (tb_ds (A.1 80) (A.1 82)) h = 1) ↔ td_tie (A.1 80) (A.1 82) x := by
  have c3 := M.c113
  have d := M.dsb.2
  constructor
  · rintro ⟨h, h0, h1, h2, h3, h4⟩
    exact ⟨h, h0, h1, h2, ((d h h0 (by omega)).mp h4).2, h3⟩
  · rintro ⟨h, h0, h1, h2, h3, h4⟩
    exact ⟨h, h0, h1, h2, h4, (d h h0 (by omega)).mpr ⟨⟨h1, h2⟩, h3⟩⟩
theorem sp254 (M : tc_M A) (k : ∀ A', tb_fr [82] [] [] A A' → A'.1 82 = td_set (td_sn0 (A.1 80) (A.1 82)) 5 (tb_w (A.1 82 5 + 1)) → Kv A') : tb_Cv X 254 [tb_r 77] A Kv := by
  have c3 := M.c113
  have c4 := M.c114
  have z := M.z
  have z1 : tb_bz (A.1 80) (td_it td_vH (A.1 80 113).toNat (A.1 82)) := td_it_bz (N := 6) (fun i s i0 i1 z => z.vH i0 i1) z _ (by omega)
  refine q254 ?_
  have l3 : ∀ A1, tb_fr [82] [] [] A A1 → A1.1 82 = td_it (td_vF (A.1 80)) (A.1 80 114).toNat (td_it td_vH (A.1 80 113).toNat (A.1 82)) → tb_E X 254 116 [tb_r 77, tb_i 0] [] A1 (tb_Rv 254 Kv) := by
    intro A1 f1 e1
    have key := tb_lp (n := 8) (E := fun i => ∀ A2, tb_fr [82] [] [] A A2 → A2.1 82 = td_it td_vB i.toNat (td_it (td_vF (A.1 80)) (A.1 80 114).toNat (td_it td_vH (A.1 80 113).toNat (A.1 82))) → tb_E X 254 116 [tb_r 77, tb_i i] [] A2 (tb_Rv 254 Kv)) (by decide) ?_ ?_
    · exact key A1 f1 e1
    · intro A2 f2 e2
      refine q254_116 ⟨fun _ => k _ (f2.upI rfl) ?_, fun q => absurd q (by decide)⟩
      have e2' : A2.1 82 = td_sn0 (A.1 80) (A.1 82) := e2
      rw [td_set_u, e2', td_sn0_k c3.2 c4.2 (by decide) (by decide) (by decide)]
    · intro i i0 i1 ih A2 f2 e2
      rw [td_it_s i0, ← e2] at ih
      refine q254_116 ⟨fun q => by omega, fun _ => ?_⟩
      rw [tb_w_id (x := 43 + i) (by omega) (by omega), tb_w_id (x := i + 1) (by omega) (by omega)]
      exact ⟨by omega, ih _ (f2.upI rfl) (by rw [td_set_u]; rfl)⟩
  have l2 : ∀ A1, tb_fr [82] [] [] A A1 → A1.1 82 = td_it td_vH (A.1 80 113).toNat (A.1 82) → tb_E X 254 55 [tb_r 77, tb_i 0] [] A1 (tb_Rv 254 Kv) := by
    intro A1 f1 e1
    have key := tb_lp (n := A.1 80 114) (E := fun i => ∀ A2, tb_fr [82] [] [] A A2 → A2.1 82 = td_it (td_vF (A.1 80)) i.toNat (td_it td_vH (A.1 80 113).toNat (A.1 82)) → tb_E X 254 55 [tb_r 77, tb_i i] [] A2 (tb_Rv 254 Kv)) c4.1 ?_ ?_
    · exact key A1 f1 e1
    · intro A2 f2 e2
      have e80 : A2.1 80 = A.1 80 := funext (fun k => f2.1 80 k rfl rfl)
      exact q254_55 ⟨fun _ => l3 A2 f2 e2, fun q => by rw [e80] at q; omega⟩
    · intro i i0 i1 ih A2 f2 e2
      have e80 : A2.1 80 = A.1 80 := funext (fun k => f2.1 80 k rfl rfl)
      have M2 : tc_M A2 := M.mk e80 (by
        rw [e2]
        exact td_it_bz (N := 4) (fun i s i0 i1 z => z.vF i0 i1) z1 _ (by omega))
      rw [td_it_s i0, ← e2] at ih
      refine q254_55 ⟨fun q => by rw [e80] at q; omega, fun _ => ?_⟩
      rw [tb_w_id (x := 27 + i) (by omega) (by omega), tb_w_id (x := 31 + i) (by omega) (by omega), tb_w_id (x := i + 1) (by omega) (by omega)]
      refine ⟨by omega, fun q => ih A2 f2 (by rw [td_vF_f (fun u => q u.1)]), fun q => ⟨by omega, ?_⟩⟩
      rw [e255 M2]
      refine sp256 M2 (fun t => ⟨fun _ => ?_, fun q' => absurd q' (by decide)⟩) (fun t => ⟨fun q' => absurd rfl q', fun _ => ⟨by omega, ?_⟩⟩)
      · rw [M2.tie, e80] at t
        exact ih A2 f2 (by rw [td_vF_f (fun u => u.2 t)])
      · rw [M2.tie, e80] at t
        exact ih _ (f2.upI rfl) (by rw [td_set_u, td_vF_t q t])
  have key := tb_lp (n := A.1 80 113) (E := fun i => ∀ A2, tb_fr [82] [] [] A A2 → A2.1 82 = td_it td_vH i.toNat (A.1 82) → tb_E X 254 2 [tb_r 77, tb_i i] [] A2 (tb_Rv 254 Kv)) c3.1 ?_ ?_
  · exact key A tb_fr.refl rfl
  · intro A2 f2 e2
    have e80 : A2.1 80 = A.1 80 := funext (fun k => f2.1 80 k rfl rfl)
    exact q254_2 ⟨fun _ => l2 A2 f2 e2, fun q => by rw [e80] at q; omega⟩
  · intro i i0 i1 ih A2 f2 e2
    have e80 : A2.1 80 = A.1 80 := funext (fun k => f2.1 80 k rfl rfl)
    rw [td_it_s i0, ← e2] at ih
    refine q254_2 ⟨fun q => by rw [e80] at q; omega, fun _ => ?_⟩
    rw [tb_w_id (x := 15 + i) (by omega) (by omega), tb_w_id (x := 21 + i) (by omega) (by omega), tb_w_id (x := i + 1) (by omega) (by omega)]
    refine ⟨by omega, fun q => ih A2 f2 ?_, fun q => ⟨by omega, fun q1 => ih A2 f2 ?_, fun q1 => ⟨by omega, ih _ (f2.upI rfl) ?_⟩⟩⟩
    · unfold td_vH
      rw [if_neg (fun u => q u.1)]
    · unfold td_vH
      rw [if_neg (fun u => q1 u.2)]
    · unfold td_vH
      rw [td_set_u, if_pos ⟨q, q1⟩]
end TBGOES
