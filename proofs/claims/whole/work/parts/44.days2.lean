/-! days: the call -/
section TBDAYS2
variable {X : tb_X} {A : tb_H} {σ : Int → Int} {K : Int → tb_H → Prop} {Kv : tb_H → Prop}
noncomputable def td_ds (r : Int → Int) : Nat → (Int → Int) → Int → Int
  | 0, s => s
  | n + 1, s => td_day r (td_ds r n s)
theorem td_ds_s {r s : Int → Int} {i : Int} (h : 0 ≤ i) : td_ds r (i + 1).toNat s = td_day r (td_ds r i.toNat s) := by
  rw [show (i + 1).toNat = i.toNat + 1 by omega, td_ds]
/-- n days of the class -/
theorem l60 (L : tb_L A) {n c : Int} (n0 : 0 ≤ n) (n1 : A.1 82 9 + n ≤ 200) (k : ∀ A', tb_fr [5, 6, 7, 9, 10] [] [] A A' → tc_G A' (td_ds (A.1 80) n.toNat (A.1 82)) → td_lg A' (td_ds (A.1 80) n.toNat (A.1 82)) (A.1 82 9 + n) → td_P (A.1 80) (td_ds (A.1 80) n.toNat (A.1 82)) → td_ds (A.1 80) n.toNat (A.1 82) 9 = A.1 82 9 + n → tb_Cv X 55 [tb_r 17] A' (fun A1 => K (A1.1 5 0) A1)) : tb_E X 60 61 [tb_r 0, tb_i n, tb_i c, tb_i 0] [] A (tb_Ri 60 K) := by
  have z9 := L.s0.2.2.2.2.2.2.2.2.2.1
  have R := L.G.R
  have key := tb_lp (n := n) (E := fun i => ∀ A2 : tb_H, tb_fr [5, 6, 7, 9, 10] [] [] A A2 → tc_G A2 (td_ds (A.1 80) i.toNat (A.1 82)) → td_lg A2 (td_ds (A.1 80) i.toNat (A.1 82)) (A.1 82 9 + i) → td_P (A.1 80) (td_ds (A.1 80) i.toNat (A.1 82)) → td_ds (A.1 80) i.toNat (A.1 82) 9 = A.1 82 9 + i → tb_E X 60 61 [tb_r 0, tb_i n, tb_i c, tb_i i] [] A2 (tb_Ri 60 K)) n0 ?_ ?_
  · exact key A tb_fr.refl L.G (by rw [Int.add_zero]; exact L.lgs) L.P (by rw [Int.add_zero]; rfl)
  · intro A2 f2 G2 l2 p2 e2
    exact q60_61 ⟨fun _ => k A2 f2 G2 l2 p2 e2, fun q => by omega⟩
  · intro i i0 i1 ih A2 f2 G2 l2 p2 e2
    have e80 : A2.1 80 = A.1 80 := funext (fun k => f2.1 80 k rfl rfl)
    rw [td_ds_s i0] at ih
    refine q60_61 ⟨fun q => by omega, fun _ => ?_⟩
    rw [tb_w_id (x := i + 1) (by omega) (by omega)]
    refine sp61 G2 (by omega) (by rw [e2]; exact l2) (by rw [e80]; exact p2) ?_
    intro A3 f3 G3 l3
    rw [e80] at G3 l3
    have at' : ∀ f, 0 ≤ f → f < 4 → 0 ≤ td_ds (A.1 80) i.toNat (A.1 82) (31 + f) ∧ td_ds (A.1 80) i.toNat (A.1 82) (31 + f) < 8 := fun f f0 f1 => by
      have a := (G2.s27 f0 f1).2
      have b := G2.c112
      omega
    refine ih A3 (f2.trans f3) G3 (by rw [show A.1 82 9 + (i + 1) = td_ds (A.1 80) i.toNat (A.1 82) 9 + 1 by omega]; exact l3) (td_day_P R (by omega) at' p2) ?_
    rw [td_day9 R (by omega), e2]
    omega
/-- and of the reference -/
theorem l234 (M : tc_M A) (hp : td_P (A.1 80) (A.1 82)) {n : Int} (n0 : 0 ≤ n) (n1 : A.1 82 9 + n ≤ 200) (hz : ∀ i, 0 ≤ i → i ≤ n → tb_bz (A.1 80) (td_ds (A.1 80) i.toNat (A.1 82))) (k : ∀ A', tb_fr [82] td_G0 [] A A' → A'.1 82 = td_ds (A.1 80) n.toNat (A.1 82) → K (A'.1 82 9) (tb_upI A' 77 23 0)) : tb_E X 234 56 [tb_r 77, tb_i n, tb_i 0] [] A (tb_Ri 234 K) := by
  have z9 := M.z.1.2.2.2.2.2.2.2.2.2.1
  have R := M.R
  have key := tb_lp (n := n) (E := fun i => ∀ A2 : tb_H, tb_fr [82] td_G0 [] A A2 → A2.1 82 = td_ds (A.1 80) i.toNat (A.1 82) → td_P (A.1 80) (A2.1 82) → A2.1 82 9 = A.1 82 9 + i → tb_E X 234 56 [tb_r 77, tb_i n, tb_i i] [] A2 (tb_Ri 234 K)) n0 ?_ ?_
  · exact key A tb_fr.refl rfl hp (by omega)
  · intro A2 f2 e2 p2 n2
    exact q234_56 ⟨fun _ => k A2 f2 e2, fun q => by omega⟩
  · intro i i0 i1 ih A2 f2 e2 p2 n2
    have e80 : A2.1 80 = A.1 80 := funext (fun k => f2.1 80 k rfl rfl)
    have z2 := hz i i0 (by omega)
    rw [← e2] at z2
    have M2 := M.mk e80 z2
    rw [td_ds_s i0, ← e2] at ih
    refine q234_56 ⟨fun q => by omega, fun _ => ?_⟩
    rw [tb_w_id (x := i + 1) (by omega) (by omega)]
    refine sp235 M2 (by omega) (by rw [e80]; exact p2) ?_
    intro A3 f3 e3
    rw [e80] at e3
    have at' : ∀ f, 0 ≤ f → f < 4 → 0 ≤ A2.1 82 (31 + f) ∧ A2.1 82 (31 + f) < 8 := fun f f0 f1 => by
      have a := (z2.2.2.1 f f0 f1).2
      have b := R.1
      omega
    refine ih A3 (f2.trans f3) e3 (by rw [e3]; exact td_day_P R (by omega) at' p2) ?_
    rw [e3, td_day9 R (by omega), n2]
    omega
theorem tc_G.fr (L : tc_G A σ) {A1 : tb_H} {S : List Nat} {F : List (Nat × Int)} {P : List Nat} (hf : tb_fr S F P A A1) (c : tb_av S F P [5, 6, 7, 8, 9, 12, 13, 49, 50, 80] [] [4] = true) : tc_G A1 σ := by
  obtain ⟨hb, h3, h4, h5, h6, h7⟩ := L
  unfold tc_G
  rw [show A1.2.2 4 1 = A.2.2 4 1 from congrFun (hf.p c rfl) 1, hf.o c (o := 80) rfl]
  refine ⟨hb, ?_, h4, h5, ?_, h7⟩
  · unfold tb_rb at h3 ⊢
    rcases hb with hb | hb <;> rw [hb] at h3 ⊢
    · rw [show (11 + 1 : Nat) = 12 from rfl, show (11 + 2 : Nat) = 13 from rfl] at h3 ⊢
      rw [hf.o c (o := 12) rfl, hf.o c (o := 13) rfl]; exact h3
    · rw [show (48 + 1 : Nat) = 49 from rfl, show (48 + 2 : Nat) = 50 from rfl] at h3 ⊢
      rw [hf.o c (o := 49) rfl, hf.o c (o := 50) rfl]; exact h3
  · unfold tc_rz at h6 ⊢
    rw [show (5 + 1 : Nat) = 6 from rfl, show (5 + 2 : Nat) = 7 from rfl, show (5 + 3 : Nat) = 8 from rfl, show (5 + 4 : Nat) = 9 from rfl] at h6 ⊢
    rw [hf.o c (o := 5) rfl, hf.o c (o := 6) rfl, hf.o c (o := 7) rfl, hf.o c (o := 8) rfl, hf.o c (o := 9) rfl]
    exact h6
/-- bounds of every day ahead: the class's own walk shows them -/
theorem td_ds_bz {r s : Int → Int} (R : td_R r) (h7 : ∀ i, 0 ≤ i → i < r 118 → r (107 + i) ≤ 1) (z : tb_bz r s) {n : Int} (n1 : s 9 + n ≤ 200) : ∀ i, 0 ≤ i → i ≤ n → tb_bz r (td_ds r i.toNat s) ∧ td_ds r i.toNat s 9 = s 9 + i := by
  refine tb_indN (N := n) ⟨z, by show s 9 = _; omega⟩ ?_
  intro i i0 i1 ih
  rw [td_ds_s i0]
  generalize td_ds r i.toNat s = u at ih
  obtain ⟨z, e⟩ := ih
  have z9 := z.1.2.2.2.2.2.2.2.2.2.1
  refine ⟨?_, by rw [td_day9 R (by omega), e]; omega⟩
  have c := R.1
  have z1 := z.uDay (v := u 9 + 1) (by omega)
  have zl : tb_bz r (td_lvs r (td_set u 9 (u 9 + 1))) := td_it_bz (N := (r 118).toNat) (fun i s i0 i1 z => z.dL R h7 i0 (by omega)) z1 _ (Nat.le_refl _)
  have l9 : td_lvs r (td_set u 9 (u 9 + 1)) 9 = u 9 + 1 := by rw [td_lvs_k R.1.1 R.1.2.1 R.1.2.2.2.1 R.cs (by decide) (by decide) (by decide), td_set_s]
  have l3 : td_lvs r (td_set u 9 (u 9 + 1)) 3 = u 3 := by rw [td_lvs_k R.1.1 R.1.2.1 R.1.2.2.2.1 R.cs (by decide) (by decide) (by decide), td_set_n (by decide)]
  have z3 := z.1.2.2.2.1
  have za : tb_bz r (td_a r u) := zl.uHung (by omega)
  have zb : tb_bz r (td_b r u) := za.trn.swm.lgs
  have zc : tb_bz r (td_c r u) := td_it_bz (N := 8) (fun i s i0 i1 z => z.dB i0 i1) (tb_bz.itc (td_it_bz (N := 4) (fun i s i0 i1 z => z.dI i0 i1) (td_it_bz (N := (r 114).toNat) (fun i s _ _ z => z.dC) zb.wds _ (Nat.le_refl _)) _ (by omega))) _ (by omega)
  have zd : tb_bz r (td_div r (td_c r u)) := by
    unfold td_div
    split
    · refine tb_bz.uDive ?_ (tb_i32 _)
      unfold td_sn0
      exact td_it_bz (N := 8) (fun i s i0 i1 z => z.uBa i0 i1 (by decide)) (td_it_bz (N := 4) (fun i s i0 i1 z => z.vF i0 i1) (td_it_bz (N := 6) (fun i s i0 i1 z => z.vH i0 i1) zc _ (by omega)) _ (by omega)) _ (Nat.le_refl _)
    · exact zc
  exact td_it_bz (N := 4) (fun i s i0 i1 z => z.dN i0 i1) zd _ (by omega)
theorem c60 (h : tb_Rel A) {n : Int} : tb_Ci X 60 [tb_r 0, tb_i n] A (tb_A2 X 234 [tb_r 77, tb_i n]) := by
  rcases h.t01 with t | t
  · refine q60 ⟨fun q => absurd (h.told.trans t) q, fun _ => r6n (by decide) ?_⟩
    refine q234 ?_
    rw [e201g]
    exact ⟨fun q => absurd (tb_g14.trans t) q, fun _ => tb_no h (by decide)⟩
  · have t0 : A.1 77 14 ≠ 0 := by rw [t]; decide
    have L := h.L t0
    have z9 := L.s0.2.2.2.2.2.2.2.2.2.1
    have sc := L.sc0
    refine q60 ⟨fun _ => ?_, fun q => absurd (h.told.symm.trans q) t0⟩
    by_cases hn : 1 ≤ n ∧ n ≤ 60
    · rw [e5f hn, if_pos rfl, sc.1, tb_w_id (x := A.1 82 9 + n) (by omega) (by omega)]
      by_cases h2 : A.1 82 9 + n ≤ 200
      · rw [if_pos h2]
        refine r6z ?_
        have L0 : tb_L (tb_upI A 0 13 0) := tb_Lu L
        refine l60 L0 (by omega) (by rw [tb_u82]; omega) ?_
        rw [tb_u80, tb_u82]
        intro B fB GB lB pB eB
        rw [e55]
        have b0 : (tb_upI B 17 4 0).1 5 0 = A.1 82 9 + n := by
          show B.1 5 0 = _
          rw [GB.sc0.1, eB]
        rw [b0]
        have f1 : tb_fr [5, 6, 7, 9, 10] [(0, 13), (17, 4), (77, 0), (77, 11)] [] A (tb_upI (tb_upI (tb_upI B 17 4 0) 77 0 0) 77 11 0) := by
          refine tb_fr.upI ?_ rfl
          refine tb_fr.upI ?_ rfl
          refine tb_fr.upI ?_ rfl
          exact (tb_fr.upI tb_fr.refl rfl).trans (fB.mono rfl rfl rfl)
        have e82 : (tb_upI (tb_upI (tb_upI B 17 4 0) 77 0 0) 77 11 0).1 82 = A.1 82 := funext (fun k => f1.1 82 k rfl rfl)
        have e80 : (tb_upI (tb_upI (tb_upI B 17 4 0) 77 0 0) 77 11 0).1 80 = A.1 80 := funext (fun k => f1.1 80 k rfl rfl)
        have e14 : (tb_upI (tb_upI (tb_upI B 17 4 0) 77 0 0) 77 11 0).1 77 14 = A.1 77 14 := f1.1 77 14 rfl rfl
        have G1 : tc_G (tb_upI (tb_upI (tb_upI B 17 4 0) 77 0 0) 77 11 0) (td_ds (A.1 80) n.toNat (A.1 82)) := GB.fr (S := []) (F := [(17, 4), (77, 0), (77, 11)]) (P := []) (by
          refine tb_fr.upI ?_ rfl
          refine tb_fr.upI ?_ rfl
          exact tb_fr.upI tb_fr.refl rfl) rfl
        have l1 : td_lg (tb_upI (tb_upI (tb_upI B 17 4 0) 77 0 0) 77 11 0) (td_ds (A.1 80) n.toNat (A.1 82)) (A.1 82 9 + n) := fun t t0 t1 => lB t t0 t1
        refine q234 ?_
        rw [e201]
        revert f1 e82 e80 e14 G1 l1
        have c013 : (tb_upI (tb_upI (tb_upI B 17 4 0) 77 0 0) 77 11 0).1 0 13 = 0 := fB.1 0 13 rfl rfl
        have c711 : (tb_upI (tb_upI (tb_upI B 17 4 0) 77 0 0) 77 11 0).1 77 11 = 0 := rfl
        have c174 : (tb_upI (tb_upI (tb_upI B 17 4 0) 77 0 0) 77 11 0).1 17 4 = 0 := rfl
        revert c013 c711 c174
        generalize tb_upI (tb_upI (tb_upI B 17 4 0) 77 0 0) 77 11 0 = C
        intro c013 c711 c174 f1 e82 e80 e14 G1 l1
        have MC : tc_M C := L.M.c e80 e82
        refine ⟨fun _ => ?_, fun q => absurd (e14.symm.trans q) t0⟩
        rw [e202t hn]
        refine ⟨fun _ => ?_, fun q => absurd q (by decide)⟩
        rw [e82, tb_w_id (x := A.1 82 9 + n) (by omega) (by omega)]
        refine ⟨fun _ => ?_, fun q => by omega⟩
        refine l234 MC (by rw [e80, e82]; exact L.P) (by omega) (by rw [e82]; exact h2) ?_ ?_
        · intro i i0 i1
          rw [e80, e82]
          exact (td_ds_bz L.G.R (fun i i0 i1 => (L.v107 i0 i1).2) L.M.z (n := n) (by omega) i i0 i1).1
        · intro D fD eD
          rw [e80, e82] at eD
          refine ⟨by rw [eD, eB], ?_⟩
          have fE : tb_fr [82] ((77, 23) :: td_G0) [] C (tb_upI D 77 23 0) := tb_fr.upI (fD.mono rfl rfl rfl) rfl
          have hfa : tb_fa A (tb_upI D 77 23 0) := (f1.mono rfl rfl rfl).trans (fE.mono rfl rfl rfl)
          have hA := h.2.2.2.2.2.2.1
          have g82 : (tb_upI D 77 23 0).1 82 = td_ds (A.1 80) n.toNat (A.1 82) := eD
          have g80 : (tb_upI D 77 23 0).1 80 = A.1 80 := funext (fun k => hfa.1 80 k rfl rfl)
          refine h.ac hfa t0 ?_ ?_ ?_ ?_ ?_
          · rw [fE.1 0 13 rfl rfl, fE.1 77 11 rfl rfl, c013, c711]
          · rw [fE.1 77 11 rfl rfl, c711]; decide
          · refine tb_L.mk ?_ ?_ ?_
            · rw [g82]
              exact G1.fr fE rfl
            · rw [g82, eB]
              intro t t0 t1
              rw [fE.1 10 t rfl rfl]
              exact l1 t t0 t1
            · rw [g80, g82]
              exact pB
          · refine tb_RA.z rfl ?_ ?_
            · rw [fE.1 17 4 rfl rfl, c174]
            · rw [fE.1 17 3 rfl rfl, f1.1 17 3 rfl rfl]
              exact hA.2.2.1
          · have p2 : (tb_upI D 77 23 0).2.2 = A.2.2 := by
              funext o j
              rw [fE.2.2 o j rfl]
              exact f1.2.2 o j rfl
            unfold tb_RP
            rw [p2]
            exact h.P
      · rw [if_neg h2]
        refine r6n (by decide) ?_
        refine q234 ?_
        rw [e201g]
        refine ⟨fun _ => ?_, fun q => absurd (tb_g14.symm.trans q) t0⟩
        rw [e202t hn]
        refine ⟨fun _ => ?_, fun q => absurd q (by decide)⟩
        rw [tb_g82, tb_w_id (x := A.1 82 9 + n) (by omega) (by omega)]
        exact ⟨fun q => by omega, fun _ => tb_no h (by decide)⟩
    · rw [e5t hn, if_neg (by decide)]
      refine r6n (by decide) ?_
      refine q234 ?_
      rw [e201g]
      refine ⟨fun _ => ?_, fun q => absurd (tb_g14.symm.trans q) t0⟩
      rw [e202f hn]
      exact ⟨fun q => absurd rfl q, fun _ => tb_no h (by decide)⟩
end TBDAYS2
