/-! may and span -/
section TBWAYS6
variable {X : tb_X} {A B D C : tb_H} {K : Int → tb_H → Prop} {Kv : tb_H → Prop}
theorem td_tr {f : Int → Int} : tb_sum (fun s => f (s % 10 * 10 + s / 10)) 100 = tb_sum f 100 := by
  rw [show (100 : Int) = 10 * 10 from rfl, td_sum_mul (f := f) (by decide) (by decide), td_sum_mul (by decide) (by decide), td_sum_swap (by decide) (by decide)]
  refine tb_sum_congr (by decide) (fun i i0 i1 => ?_)
  refine tb_sum_congr (by decide) (fun j j0 j1 => ?_)
  rw [show (10 * j + i) % 10 * 10 + (10 * j + i) / 10 = 10 * i + j by omega]
def td_nz1 (v : Int) : Int := if v = 0 then 0 else 1
theorem td_lz {v : Int} (h : 0 ≤ v) : (if tb_lcmp v 0 ≤ 0 then 0 else 1 : Int) = td_nz1 v := by
  unfold tb_lcmp td_nz1
  by_cases e : v = 0
  · rw [e]; decide
  · rw [if_neg (show ¬ v < 0 by omega), if_neg e]; decide
theorem e157 : tb_Ci X 157 [tb_r 38] A K = K (tb_sum (fun c => td_nz1 (A.1 41 c)) 100) A := by
  refine tb_dei (q157 ?_)
  refine tb_lp (E := fun i => tb_E X 157 4 [tb_r 38, tb_i (tb_sum (fun c => td_nz1 (A.1 41 c)) i), tb_i i] [] A (tb_Ri 157 _)) (n := 100) (by decide) ?_ ?_
  · exact q157_4 ⟨fun _ => ⟨rfl, rfl⟩, fun q => absurd q (by decide)⟩
  · intro i i0 i1 e
    have b := tb_sum_bd (f := fun c => td_nz1 (A.1 41 c)) (c := 1) (N := 100) (n := i) i0 (by omega) (by decide) (fun j _ _ => by show 0 ≤ td_nz1 (A.1 41 j) ∧ td_nz1 (A.1 41 j) ≤ 1; unfold td_nz1; ((repeat' split) <;> omega))
    rw [tb_sum_s i0] at e
    refine q157_4 ⟨fun q => absurd q (by omega), fun _ => ⟨⟨i0, i1⟩, fun z => ?_, fun z => ?_⟩⟩
    · rw [tb_w_id (x := i + 1) (by omega) (by omega)]
      rw [show td_nz1 (A.1 41 i) = 0 from if_pos z, Int.add_zero] at e
      exact e
    · rw [tb_w_id (x := i + 1) (by omega) (by omega), tb_w_id (x := tb_sum (fun c => td_nz1 (A.1 41 c)) i + 1) (by omega) (by omega)]
      rw [show td_nz1 (A.1 41 i) = 1 from if_neg z] at e
      exact e
theorem c156 (h : tb_Rel A) {d : Int} : tb_Ci X 156 [tb_r 0, tb_i d] A (tb_A2 X 298 [tb_r 77, tb_i d]) := by
  rcases h.t01 with t | t
  · refine q156 ⟨fun q => absurd (h.told.trans t) q, fun _ => r6n (by decide) ?_⟩
    refine q298 ?_
    rw [e201g, e295, if_pos (tb_g14.trans t)]
    exact ⟨fun q => absurd q (by decide), fun _ => tb_no h (by decide)⟩
  · have t0 : A.1 77 14 ≠ 0 := by rw [t]; decide
    have n14 : ∀ k, ¬ ((tb_g A k).1 77 14 = 0) := fun k q => t0 (tb_g14.symm.trans q)
    refine q156 ⟨fun _ => ?_, fun q => absurd (h.told.symm.trans q) t0⟩
    by_cases hd : 0 ≤ d ∧ d ≤ 12
    · rw [e5f hd, if_pos rfl]
      refine r6z ?_
      obtain ⟨days, rfl⟩ := Int.eq_ofNat_of_zero_le hd.1
      refine td_both h t0 (by omega) (fun D fD zD pD bD rD => ?_)
      rw [e157]
      refine q298 ?_
      rw [e201, e295, if_neg (show ¬ ((tb_upI (tb_upI D 77 0 0) 77 11 0).1 77 14 = 0) from fun q => t0 ((fD.1 77 14 rfl rfl).symm.trans q)), if_pos hd, if_neg (by decide)]
      refine ⟨fun _ => rD _ (fun C G fC z11 nC bC eC => ?_), fun q => absurd rfl q⟩
      have fin : tb_sum (fun s => td_nz1 (D.1 41 (s % 10 * 10 + s / 10))) 100 = tb_sum (fun c => td_nz1 (D.1 41 c)) 100 := td_tr (f := fun c => td_nz1 (D.1 41 c))
      refine tb_lp (E := fun i => tb_E X 298 31 [tb_r 77, tb_i days, tb_i 0, tb_i (tb_sum (fun s => td_nz1 (D.1 41 (s % 10 * 10 + s / 10))) i), tb_i i] [] C (tb_Ri 298 _)) (n := 100) (by decide) ?_ ?_
      · exact q298_31 ⟨fun _ => ⟨fin.symm, td_wrel h fD zD pD (fC.mono rfl rfl rfl) z11⟩, fun q => absurd q (by decide)⟩
      · intro i i0 i1 e
        have b := tb_sum_bd (f := fun s => td_nz1 (D.1 41 (s % 10 * 10 + s / 10))) (c := 1) (N := 100) (n := i) i0 (by omega) (by decide) (fun j _ _ => by show 0 ≤ td_nz1 (D.1 41 (j % 10 * 10 + j / 10)) ∧ td_nz1 (D.1 41 (j % 10 * 10 + j / 10)) ≤ 1; unfold td_nz1; ((repeat' split) <;> omega))
        have w := bD (i % 10 * 10 + i / 10) (by omega) (by omega)
        have n1 : 0 ≤ td_nz1 (D.1 41 (i % 10 * 10 + i / 10)) ∧ td_nz1 (D.1 41 (i % 10 * 10 + i / 10)) ≤ 1 := by unfold td_nz1; ((repeat' split) <;> omega)
        rw [tb_sum_s i0] at e
        refine q298_31 ⟨fun q => absurd q (by omega), fun _ => ?_⟩
        rw [Int.tdiv_eq_ediv_of_nonneg i0, Int.tmod_eq_emod_of_nonneg i0, tb_w_id (x := i / 10) (by omega) (by omega), e297 nC bC (by omega) (by omega) (by omega) (by omega), ← eC _ (by omega) (by omega), td_lz w.1, tb_w_id (x := i + 1) (by omega) (by omega), tb_w_id (x := tb_sum (fun s => td_nz1 (D.1 41 (s % 10 * 10 + s / 10))) i + td_nz1 (D.1 41 (i % 10 * 10 + i / 10))) (by omega) (by omega)]
        exact e
    · rw [e5t hd, if_neg (by decide)]
      refine r6n (by decide) ?_
      refine q298 ?_
      rw [e201g, e295, if_neg (n14 2), if_neg hd]
      exact ⟨fun q => absurd q (by decide), fun _ => tb_no h (by decide)⟩
theorem c158 (h : tb_Rel A) {d s : Int} : tb_Ci X 158 [tb_r 0, tb_i d, tb_i s] A (tb_A2 X 299 [tb_r 77, tb_i d, tb_i s]) := by
  rcases h.t01 with t | t
  · refine q158 ⟨fun _ => r6n (by decide) ?_, fun q => absurd (h.told.trans t) q⟩
    refine q299 ?_
    rw [e201g]
    exact ⟨fun _ => tb_no h (by decide), fun q => absurd (tb_g14.trans t) q⟩
  · have t0 : A.1 77 14 ≠ 0 := by rw [t]; decide
    refine q158 ⟨fun q => absurd (h.told.symm.trans q) t0, fun _ => ?_⟩
    by_cases hs : 0 ≤ s ∧ s ≤ 3
    · rw [e5f hs]
      refine ⟨fun _ => ?_, fun q => absurd rfl q⟩
      by_cases hd : 0 ≤ d ∧ d ≤ 12
      · rw [e5f hd, if_pos rfl]
        refine r6z ?_
        obtain ⟨days, rfl⟩ := Int.eq_ofNat_of_zero_le hd.1
        refine td_both h t0 (by omega) (fun D fD zD pD bD rD => ?_)
        refine q159 ?_
        refine sp160 (P := 41) rfl hs.1 (fun r hx => ?_)
        refine q299 ?_
        rw [e201]
        refine ⟨fun q => absurd ((fD.1 77 14 rfl rfl).symm.trans q) t0, fun _ => ?_⟩
        rw [e202t hs]
        refine ⟨fun _ => ?_, fun q => absurd q (by decide)⟩
        rw [e202t hd]
        refine ⟨fun _ => ?_, fun q => absurd q (by decide)⟩
        refine rD _ (fun C G fC z11 nC bC eC => ?_)
        have loop : ∀ C1, tb_fr [98] [] [] C C1 → (∀ c, 0 ≤ c → c < 0 → C1.1 98 c = td_nz1 (D.1 41 (c % 10 * 10 + c / 10))) → tb_E X 299 49 [tb_r 77, tb_i days, tb_i s, tb_i 0] [] C1 (tb_Ri 299 (fun v' A2 => r = v' ∧ tb_Rel A2)) := by
          refine tb_lp (E := fun i => ∀ C1, tb_fr [98] [] [] C C1 → (∀ c, 0 ≤ c → c < i → C1.1 98 c = td_nz1 (D.1 41 (c % 10 * 10 + c / 10))) → tb_E X 299 49 [tb_r 77, tb_i days, tb_i s, tb_i i] [] C1 (tb_Ri 299 (fun v' A2 => r = v' ∧ tb_Rel A2))) (n := 100) (by decide) ?_ ?_
          · intro C1 f1 e1
            refine q299_49 ⟨fun _ => sp300 hs.1 (fun r2 hx2 => ⟨?_, ?_⟩), fun q => absurd q (by decide)⟩
            · refine td_xc_u hx hx2 (fun c c0 c1 => ?_) (fun c c0 c1 => ?_)
              · rw [e1 (c % 10 * 10 + c / 10) (by omega) (by omega), show (c % 10 * 10 + c / 10) % 10 * 10 + (c % 10 * 10 + c / 10) / 10 = c by omega]
                unfold td_nz1
                by_cases e : D.1 41 c = 0
                · rw [if_pos e]
                  exact ⟨fun q => absurd e q, fun q => absurd rfl q⟩
                · rw [if_neg e]
                  exact ⟨fun _ => by decide, fun _ => e⟩
              · unfold td_c1 td_c2
                split <;> omega
            · have f2 : tb_fr [96, 97, 98] [(77, 0), (77, 11), (77, 28), (77, 29), (77, 30)] [] D C1 := (fC.mono rfl rfl rfl).trans (f1.mono rfl rfl rfl)
              exact td_wrel h fD zD pD f2 ((f1.1 77 11 rfl rfl).trans z11)
          · intro i i0 i1 ih C1 f1 e1
            have w := bD (i % 10 * 10 + i / 10) (by omega) (by omega)
            have c96 : C1.2.1 96 = C.2.1 96 := funext fun k => f1.2.1 96 k rfl
            refine q299_49 ⟨fun q => absurd q (by omega), fun _ => ?_⟩
            rw [Int.tdiv_eq_ediv_of_nonneg i0, Int.tmod_eq_emod_of_nonneg i0, tb_w_id (x := i / 10) (by omega) (by omega), e297 (B := C1) (G := G) (by rw [c96]; exact nC) bC (by omega) (by omega) (by omega) (by omega), ← eC _ (by omega) (by omega), td_lz w.1, tb_w_id (x := i + 1) (by omega) (by omega)]
            refine ⟨⟨i0, i1⟩, ih _ (tb_fr.upI f1 rfl) (fun c c0 c1 => ?_)⟩
            rw [td_upi]
            show (if c = i then td_nz1 (D.1 41 (i % 10 * 10 + i / 10)) else C1.1 98 c) = _
            by_cases e : c = i
            · rw [if_pos e, e]
            · rw [if_neg e]; exact e1 c c0 (by omega)
        exact loop C tb_fr.refl (fun c a b => absurd b (by omega))
      · rw [e5t hd, if_neg (by decide)]
        refine r6n (by decide) ?_
        refine q299 ?_
        rw [e201g]
        refine ⟨fun q => absurd (tb_g14.symm.trans q) t0, fun _ => ?_⟩
        rw [e202t hs]
        refine ⟨fun _ => ?_, fun q => absurd q (by decide)⟩
        rw [e202f hd]
        exact ⟨fun q => absurd rfl q, fun _ => tb_no h (by decide)⟩
    · rw [e5t hs]
      refine ⟨fun q => absurd q (by decide), fun _ => r6n (by decide) ?_⟩
      refine q299 ?_
      rw [e201g]
      refine ⟨fun q => absurd (tb_g14.symm.trans q) t0, fun _ => ?_⟩
      rw [e202f hs]
      exact ⟨fun q => absurd rfl q, fun _ => tb_no h (by decide)⟩
end TBWAYS6
