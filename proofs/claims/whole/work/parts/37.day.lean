/-! A DAY: what it does to a state; the class's half -/
def td_it (f : Int → (Int → Int) → Int → Int) : Nat → (Int → Int) → Int → Int
  | 0, s => s
  | n + 1, s => f n (td_it f n s)
theorem td_it_s {f : Int → (Int → Int) → Int → Int} {s : Int → Int} {i : Int} (h : 0 ≤ i) : td_it f (i + 1).toNat s = f i (td_it f i.toNat s) := by
  rw [show (i + 1).toNat = i.toNat + 1 by omega, td_it, Int.toNat_of_nonneg h]
theorem td_it_k {f : Int → (Int → Int) → Int → Int} {s : Int → Int} {k : Int} {N : Nat} (h : ∀ (i : Int) (s : Int → Int), 0 ≤ i → i < N → f i s k = s k) : ∀ n : Nat, n ≤ N → td_it f n s k = s k := by
  intro n
  induction n with
  | zero => intro _; rfl
  | succ n ih => intro hn; rw [td_it, h _ _ (by omega) (by omega), ih (by omega)]
/-- a change that the loop's steps let be goes through it -/
theorem td_it_c {f : Int → (Int → Int) → Int → Int} {s : Int → Int} {j v : Int} {N : Nat} (h : ∀ (i : Int) (s : Int → Int), 0 ≤ i → i < N → f i (td_set s j v) = td_set (f i s) j v) : ∀ n : Nat, n ≤ N → td_it f n (td_set s j v) = td_set (td_it f n s) j v := by
  intro n
  induction n with
  | zero => intro _; rfl
  | succ n ih => intro hn; rw [td_it, td_it, ih (by omega), h _ _ (by omega) (by omega)]
def td_dH (r : Int → Int) (sc how h : Int) (s : Int → Int) : Int → Int := if s (15 + h) = 0 ∧ r (33 + h) = sc then td_set s (15 + h) how else s
def td_dF (sc how f : Int) (s : Int → Int) : Int → Int := if s (27 + f) = 0 ∧ s (31 + f) = sc then td_set s (27 + f) how else s
def td_emp (r : Int → Int) (sc how : Int) (s : Int → Int) : Int → Int := td_it (td_dF sc how) (r 114).toNat (td_it (td_dH r sc how) (r 113).toNat s)
def td_dL (r : Int → Int) (m : Int) (s : Int → Int) : Int → Int := if r (104 + m) = s 9 then td_emp r (r (101 + m)) (1 + r (107 + m)) (td_set s (35 + r (101 + m)) 1) else s
def td_lvs (r s : Int → Int) : Int → Int := td_it (td_dL r) (r 118).toNat s
def td_ln (r s : Int → Int) : Int := tb_lean r s (fun f => s (31 + f)) 9 (r 0)
def td_bg (r s : Int → Int) : Int := tb_bear r (s 8) (s 0) (s 1) (s 2) (s 3) (td_ln r s)
def td_sd (s : Int → Int) : Int := (75 * s 10 + 74) % 65537
def td_trn (r s : Int → Int) : Int → Int := if td_bg r s = 8 then td_set (td_set s 10 (td_sd s)) 2 ((s 2 + td_sd s % 3 + 7) % 8) else td_set s 2 (td_bg r s)
def td_swm (s : Int → Int) : Int → Int := td_set (td_set (td_set s 0 (tb_wx (s 0) (s 1) (s 2))) 1 (tb_wy (s 0) (s 1) (s 2))) 2 (tb_wh (s 0) (s 1) (s 2))
def td_lgs (s : Int → Int) : Int → Int := td_set (td_set s (51 + 2 * s 9) (s 0)) (51 + 2 * s 9 + 1) (s 1)
noncomputable def td_wds (r s : Int → Int) : Int → Int := @ite _ (tb_isw r (s 0) (s 1)) (Classical.propDecidable _) (td_set s 3 0) s
def td_dC (f : Int) (s : Int → Int) : Int → Int := if s (27 + f) = 0 then td_set s 4 (tb_w (s 4 + 1)) else s
def td_dI (r : Int → Int) (l : Int) (s : Int → Int) : Int → Int := if s 0 = r (81 + l) ∧ s 1 = r (85 + l) ∧ r (89 + l) ≤ s 9 ∧ s 9 ≤ r (93 + l) ∧ tb_and (tb_shr (s 6) l) 1 = 0 then td_set (td_set s 4 (tb_w (s 4 + r (97 + l)))) 6 (tb_or (s 6) (tb_shl 1 l)) else s
def td_ern (r s : Int → Int) : Int → Int := td_it (td_dI r) (r 117).toNat (td_it td_dC (r 114).toNat s)
def td_itF (r s : Int → Int) (i : Int) : Int := if s (35 + r (65 + i)) = 0 then r (69 + i) else 0
def td_itS (s : Int → Int) (k : Int) : Int := if s (35 + k) = 1 then 0 else if s (43 + k) < 5 then 0 else 1
def td_les (r s : Int → Int) : Int := tb_sum (td_itF r s) (r 115) + tb_sum (td_itS s) (r 112)
def td_itc (r s : Int → Int) : Int → Int := td_set s 8 (tb_mx2 (-999) (tb_w (s 8 - td_les r s)))
def td_dB (k : Int) (s : Int → Int) : Int → Int := if s (35 + k) = 1 then s else td_set s (43 + k) (if 9 ≤ s (43 + k) then s (43 + k) else s (43 + k) + 1)
def td_tie (r s : Int → Int) (sc : Int) : Prop := ∃ h, 0 ≤ h ∧ h < r 113 ∧ s (15 + h) = 0 ∧ s (21 + h) = 1 ∧ r (33 + h) = sc
def td_vH (h : Int) (s : Int → Int) : Int → Int := if s (15 + h) = 0 ∧ s (21 + h) = 0 then td_set s (15 + h) 1 else s
noncomputable def td_vF (r : Int → Int) (f : Int) (s : Int → Int) : Int → Int := @ite _ (s (27 + f) = 0 ∧ ¬ td_tie r s (s (31 + f))) (Classical.propDecidable _) (td_set s (27 + f) 1) s
def td_vB (k : Int) (s : Int → Int) : Int → Int := td_set s (43 + k) 0
noncomputable def td_sn0 (r s : Int → Int) : Int → Int := td_it td_vB 8 (td_it (td_vF r) (r 114).toNat (td_it td_vH (r 113).toNat s))
noncomputable def td_div (r s : Int → Int) : Int → Int := if s 9 % r 3 = 0 ∧ s 8 < r 4 then td_set (td_sn0 r s) 5 (tb_w (s 5 + 1)) else s
def td_nn (r s : Int → Int) (l : Int) : Int := if tb_far (s 0) (s 1) (r (81 + l)) (r (85 + l)) ≤ 2 then s (11 + l) + 1 else 0
def td_dN (r : Int → Int) (l : Int) (s : Int → Int) : Int → Int := td_set (td_set s (11 + l) (td_nn r s l)) 7 (if td_nn r s l < 3 then s 7 else tb_or (s 7) (tb_shl 1 l))
def td_nrs (r s : Int → Int) : Int → Int := td_it (td_dN r) (r 117).toNat s
/-- the day's number and hunger; up to the swim; with the log; weed; all of it -/
def td_a (r s : Int → Int) : Int → Int := td_set (td_lvs r (td_set s 9 (s 9 + 1))) 3 (td_lvs r (td_set s 9 (s 9 + 1)) 3 + 1)
def td_b (r s : Int → Int) : Int → Int := td_lgs (td_swm (td_trn r (td_a r s)))
noncomputable def td_c (r s : Int → Int) : Int → Int := td_it td_dB (r 112).toNat (td_itc r (td_ern r (td_wds r (td_b r s))))
noncomputable def td_day (r s : Int → Int) : Int → Int := td_nrs r (td_div r (td_c r s))
section TBDAY
variable {X : tb_X} {A : tb_H} {σ : Int → Int} {K : Int → tb_H → Prop} {Kv : tb_H → Prop}
theorem sp63 (L : tc_G A σ) {sc how : Int} (hh : how = 1 ∨ how = 2) (k : ∀ A', tb_fr [6, 7] [] [] A A' → tc_G A' (td_emp (A.1 80) sc how σ) → Kv A') : tb_Cv X 63 [tb_r 4, tb_i sc, tb_i how] A Kv := by
  have c3 := L.c113
  have c4 := L.c114
  refine q63 ?_
  have l2 : ∀ A1, tb_fr [6, 7] [] [] A A1 → tc_G A1 (td_it (td_dH (A.1 80) sc how) (A.1 80 113).toNat σ) → tb_E X 63 45 [tb_r 4, tb_i sc, tb_i how, tb_i 0] [] A1 (tb_Rv 63 Kv) := by
    intro A1 f1 G1
    have key := tb_lp (n := A.1 80 114) (E := fun i => ∀ A2, tb_fr [6, 7] [] [] A A2 → tc_G A2 (td_it (td_dF sc how) i.toNat (td_it (td_dH (A.1 80) sc how) (A.1 80 113).toNat σ)) → tb_E X 63 45 [tb_r 4, tb_i sc, tb_i how, tb_i i] [] A2 (tb_Rv 63 Kv)) c4.1 ?_ ?_
    · exact key A1 f1 G1
    · intro A2 f2 G2
      have e80 : A2.1 80 = A.1 80 := funext (fun k => f2.1 80 k rfl rfl)
      refine q63_45 ⟨G2.b, ?_⟩
      rw [g28_4 G2, e80]
      exact ⟨fun _ => k A2 f2 G2, fun q => by omega⟩
    · intro i i0 i1 ih A2 f2 G2
      have e80 : A2.1 80 = A.1 80 := funext (fun k => f2.1 80 k rfl rfl)
      rw [td_it_s i0] at ih
      revert ih G2
      generalize td_it (td_dF sc how) i.toNat (td_it (td_dH (A.1 80) sc how) (A.1 80 113).toNat σ) = s
      intro ih G2
      refine q63_45 ⟨G2.b, ?_⟩
      rw [g28_4 G2, e80]
      refine ⟨fun q => by omega, fun _ => ?_⟩
      rw [g68 G2 i0 (by omega), e80, tb_w_id (x := i + 1) (by omega) (by omega)]
      by_cases c : s (27 + i) = 0
      · rw [if_pos ⟨i1, c⟩]
        refine ⟨fun q => absurd q (by decide), fun _ => ?_⟩
        rw [g70 G2 i0 (by omega)]
        refine ⟨fun q => ?_, fun q => ?_⟩
        · rw [show td_dF sc how i s = s from if_neg (fun z => q z.2)] at ih
          exact ih A2 f2 G2
        · rw [show td_dF sc how i s = td_set s (27 + i) how from if_pos ⟨c, q⟩] at ih
          rw [e71 i0 (by omega)]
          exact ih _ (f2.upI rfl) (G2.uFF i0 (by omega) (by omega))
      · rw [if_neg (fun z => c z.2)]
        rw [show td_dF sc how i s = s from if_neg (fun z => c z.1)] at ih
        exact ⟨fun _ => ih A2 f2 G2, fun q => absurd rfl q⟩
  have key := tb_lp (n := A.1 80 113) (E := fun i => ∀ A2, tb_fr [6, 7] [] [] A A2 → tc_G A2 (td_it (td_dH (A.1 80) sc how) i.toNat σ) → tb_E X 63 2 [tb_r 4, tb_i sc, tb_i how, tb_i i] [] A2 (tb_Rv 63 Kv)) c3.1 ?_ ?_
  · exact key A tb_fr.refl L
  · intro A2 f2 G2
    have e80 : A2.1 80 = A.1 80 := funext (fun k => f2.1 80 k rfl rfl)
    refine q63_2 ⟨G2.b, ?_⟩
    rw [g28_3 G2, e80]
    exact ⟨fun _ => l2 A2 f2 G2, fun q => by omega⟩
  · intro i i0 i1 ih A2 f2 G2
    have e80 : A2.1 80 = A.1 80 := funext (fun k => f2.1 80 k rfl rfl)
    rw [td_it_s i0] at ih
    revert ih G2
    generalize td_it (td_dH (A.1 80) sc how) i.toNat σ = s
    intro ih G2
    refine q63_2 ⟨G2.b, ?_⟩
    rw [g28_3 G2, e80]
    refine ⟨fun q => by omega, fun _ => ?_⟩
    rw [g64 G2 i0 (by omega), e80, tb_w_id (x := i + 1) (by omega) (by omega)]
    by_cases c : s (15 + i) = 0
    · rw [if_pos ⟨i1, c⟩]
      refine ⟨fun q => absurd q (by decide), fun _ => ?_⟩
      rw [g66 G2 i0 (by rw [e80]; exact i1), e80]
      refine ⟨fun q => ?_, fun q => ?_⟩
      · rw [show td_dH (A.1 80) sc how i s = s from if_neg (fun z => q z.2)] at ih
        exact ih A2 f2 G2
      · rw [show td_dH (A.1 80) sc how i s = td_set s (15 + i) how from if_pos ⟨c, q⟩] at ih
        rw [e67 i0 (by omega)]
        exact ih _ (f2.upI rfl) (G2.uHF i0 (by omega) (by omega))
    · rw [if_neg (fun z => c z.2)]
      rw [show td_dH (A.1 80) sc how i s = s from if_neg (fun z => c z.1)] at ih
      exact ⟨fun _ => ih A2 f2 G2, fun q => absurd rfl q⟩
theorem sp62 (L : tc_G A σ) (k : ∀ A', tb_fr [6, 7] [(5, 11)] [] A A' → tc_G A' (td_lvs (A.1 80) σ) → Kv A') : tb_Cv X 62 [tb_r 4] A Kv := by
  have c8 := L.c118
  have c2 := L.c112
  refine q62 ?_
  have key := tb_lp (n := A.1 80 118) (E := fun i => ∀ (A2 : tb_H) (j : tb_V), tb_fr [6, 7] [(5, 11)] [] A A2 → tc_G A2 (td_it (td_dL (A.1 80)) i.toNat σ) → tb_E X 62 2 [tb_r 4, tb_i i, j] [] A2 (tb_Rv 62 Kv)) c8.1 ?_ ?_
  · exact key A _ tb_fr.refl L
  · intro A2 j f2 G2
    have e80 : A2.1 80 = A.1 80 := funext (fun k => f2.1 80 k rfl rfl)
    refine q62_2 ⟨G2.b, ?_⟩
    rw [g28_8 G2, e80]
    exact ⟨fun _ => k A2 f2 G2, fun q => by omega⟩
  · intro i i0 i1 ih A2 j f2 G2
    have e80 : A2.1 80 = A.1 80 := funext (fun k => f2.1 80 k rfl rfl)
    have i1' : i < A2.1 80 118 := by rw [e80]; exact i1
    have v1 := G2.v101 i0 i1'
    have v7 := G2.v107 i0 i1'
    rw [td_it_s i0] at ih
    revert ih G2
    generalize td_it (td_dL (A.1 80)) i.toNat σ = s
    intro ih G2
    refine q62_2 ⟨G2.b, ?_⟩
    rw [g28_8 G2, e80]
    refine ⟨fun q => by omega, fun _ => ⟨G2.b, ?_⟩⟩
    rw [g41_81 G2 i0 i1', e80, G2.sc0.1, tb_w_id (x := i + 1) (by omega) (by omega)]
    refine ⟨fun q => ⟨G2.b, ?_⟩, fun q => ?_⟩
    · rw [g41_80 G2 i0 i1']
      refine ⟨G2.b, ?_⟩
      rw [e80] at v1 v7
      have G3 := G2.uGone v1.1 (by omega)
      rw [e80]
      have e80' : (tb_upI A2 5 11 (tb_or (A2.1 5 11) (tb_shl 1 (A.1 80 (101 + i))))).1 80 = A.1 80 := e80
      rw [show A2.2.2 4 1 = (tb_upI A2 5 11 (tb_or (A2.1 5 11) (tb_shl 1 (A.1 80 (101 + i))))).2.2 4 1 from rfl, g41_82 G3 i0 (by rw [e80']; exact i1), e80']
      rw [show (if A.1 80 (107 + i) ≠ 1 then (1 : Int) else 2) = 1 + A.1 80 (107 + i) by ((repeat' split) <;> omega)]
      refine sp63 G3 (by omega) ?_
      intro A4 f4 G4
      rw [e80'] at G4
      rw [show td_dL (A.1 80) i s = td_emp (A.1 80) (A.1 80 (101 + i)) (1 + A.1 80 (107 + i)) (td_set s (35 + A.1 80 (101 + i)) 1) from if_pos q] at ih
      exact ih A4 _ ((f2.upI rfl).trans (f4.mono rfl rfl rfl)) G4
    · rw [show td_dL (A.1 80) i s = s from if_neg q] at ih
      exact ih A2 _ f2 G2
theorem sp72 (L : tc_G A σ) (k : ∀ A', tb_fr [] [(5, 1), (5, 3)] [] A A' → tc_G A' (td_trn (A.1 80) σ) → Kv A') : tb_Cv X 72 [tb_r 4] A Kv := by
  have z := L.s0
  have s := L.sc0
  have h1 : A.1 5 1 = σ 10 := s.2.1
  have h3 : A.1 5 3 = σ 2 := s.2.2.2.1
  refine q72 ?_
  rw [g73_0 L, s.2.2.1, h3, s.2.2.2.2.1, g78 L z.1.1 z.1.2 z.2.1.1 z.2.1.2 z.2.2.1.1 z.2.2.1.2]
  rw [h1, tb_w_id (x := 75 * σ 10) (by omega) (by omega), tb_w_id (x := 75 * σ 10 + 74) (by omega) (by omega), Int.tmod_eq_emod_of_nonneg (show 0 ≤ 75 * σ 10 + 74 by omega), Int.tmod_eq_emod_of_nonneg (show 0 ≤ (75 * σ 10 + 74) % 65537 by omega)]
  refine ⟨fun q => ?_, fun q => ?_⟩
  · refine k _ (tb_fr.upI tb_fr.refl rfl) ?_
    rw [show td_trn (A.1 80) σ = td_set σ 2 (td_bg (A.1 80) σ) from if_neg q]
    refine L.uHead ?_
    show 0 ≤ td_bg (A.1 80) σ ∧ td_bg (A.1 80) σ ≤ 7
    have q' : td_bg (A.1 80) σ ≠ 8 := q
    revert q'
    unfold td_bg tb_bear
    split
    · intro _
      unfold tb_tw
      split
      · exact z.2.2.1
      · rename_i n
        have f := (tb_hdf (tb_sgn3 _) (tb_sgn3 _) n).1
        omega
    · split
      · intro _; omega
      · split
        · intro _; omega
        · split
          · intro _; exact z.2.2.1
          · intro u; exact absurd rfl u
  · have hd : 0 ≤ td_sd σ ∧ td_sd σ ≤ 65536 := by
      unfold td_sd
      omega
    rw [h3, e86 z.2.2.1.1 z.2.2.1.2 (by omega) (by omega)]
    refine k _ (tb_fr.upI (tb_fr.upI tb_fr.refl rfl) rfl) ?_
    rw [show td_trn (A.1 80) σ = td_set (td_set σ 10 (td_sd σ)) 2 ((σ 2 + td_sd σ % 3 + 7) % 8) from if_pos q]
    exact (L.uSeed hd).uHead (by omega)
end TBDAY
