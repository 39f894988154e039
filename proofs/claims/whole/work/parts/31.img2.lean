/-! image, restore -/
section TBIMG2
variable {X : tb_X} {A D : tb_H} {K : Int → tb_H → Prop} {Kv : tb_H → Prop}
theorem tc_rs.e {c c' : Nat → Int → Int} {q : Nat} {s s' : Int → Int} (ho : ∀ o, q ≤ o → o ≤ q + 5 → c' o = c o) (e : ∀ k, 0 ≤ k → k < 453 → s' k = s k) (h9 : 0 ≤ s 9 ∧ s 9 ≤ 200) (r : tc_rs c q s) : tc_rs c' q s' := by
  unfold tc_rs at r ⊢
  rw [ho q (by omega) (by omega), ho (q + 1) (by omega) (by omega), ho (q + 2) (by omega) (by omega), ho (q + 3) (by omega) (by omega), ho (q + 4) (by omega) (by omega), ho (q + 5) (by omega) (by omega)]
  obtain ⟨⟨a0, a1, a2, a3, a4, a5, a6, a7, a8, a9⟩, ⟨b0, b1⟩, ⟨g0, g1⟩, f1, f2, f3, f4, f5⟩ := r
  refine ⟨⟨?_, ?_, ?_, ?_, ?_, ?_, ?_, ?_, ?_, ?_⟩, ⟨b0, ?_⟩, ⟨g0, ?_⟩, ?_, ?_, ?_, ?_, ?_⟩
  · rw [e 9 (by decide) (by decide)]; exact a0
  · rw [e 10 (by decide) (by decide)]; exact a1
  · rw [e 1 (by decide) (by decide), e 0 (by decide) (by decide)]; exact a2
  · rw [e 2 (by decide) (by decide)]; exact a3
  · rw [e 3 (by decide) (by decide)]; exact a4
  · rw [e 4 (by decide) (by decide)]; exact a5
  · rw [e 5 (by decide) (by decide)]; exact a6
  · rw [e 6 (by decide) (by decide)]; exact a7
  · rw [e 7 (by decide) (by decide)]; exact a8
  · rw [e 8 (by decide) (by decide)]; exact a9
  · intro j j0 j1
    rw [e (21 + j) (by omega) (by omega)]; exact b1 j j0 j1
  · intro j j0 j1
    rw [e (35 + j) (by omega) (by omega)]; exact g1 j j0 j1
  · intro j j0 j1
    rw [e (15 + j) (by omega) (by omega)]; exact f1 j j0 j1
  · intro j j0 j1
    rw [e (27 + j) (by omega) (by omega)]; exact f2 j j0 j1
  · intro j j0 j1
    rw [e (31 + j) (by omega) (by omega)]; exact f3 j j0 j1
  · intro j j0 j1
    rw [e (43 + j) (by omega) (by omega)]; exact f4 j j0 j1
  · intro j j0 j1
    rw [e 9 (by decide) (by decide)] at j1
    rw [e (51 + 2 * j + 1) (by omega) (by omega), e (51 + 2 * j) (by omega) (by omega)]; exact f5 j j0 j1
/-- the objects of images -/
def tb_Is : List Nat := [53, 54, 55, 56, 57, 58, 59, 60, 61, 62, 63, 64, 65, 66, 67, 68, 69, 70, 71, 72, 73, 74, 75, 76]
theorem tb_Is_im {i : Int} (h0 : 0 ≤ i) (h1 : i < 4) {S : List Nat} (hS : tb_Is.all S.contains = true) : ∀ o, S.contains o = false → o < 53 + 6 * i.toNat ∨ 53 + 6 * i.toNat + 5 < o := by
  intro o ho
  by_cases c : o < 53 + 6 * i.toNat ∨ 53 + 6 * i.toNat + 5 < o
  · exact c
  · have m : tb_Is.contains o = true := by
      have : o = 53 ∨ o = 54 ∨ o = 55 ∨ o = 56 ∨ o = 57 ∨ o = 58 ∨ o = 59 ∨ o = 60 ∨ o = 61 ∨ o = 62 ∨ o = 63 ∨ o = 64 ∨ o = 65 ∨ o = 66 ∨ o = 67 ∨ o = 68 ∨ o = 69 ∨ o = 70 ∨ o = 71 ∨ o = 72 ∨ o = 73 ∨ o = 74 ∨ o = 75 ∨ o = 76 := by omega
      rcases this with rfl | rfl | rfl | rfl | rfl | rfl | rfl | rfl | rfl | rfl | rfl | rfl | rfl | rfl | rfl | rfl | rfl | rfl | rfl | rfl | rfl | rfl | rfl | rfl <;> rfl
    have := List.all_eq_true.mp hS o (by simpa using m)
    rw [ho] at this
    cases this
theorem c189 (h : tb_Rel A) : tb_Ci X 189 [tb_r 0] A (tb_A2 X 318 [tb_r 77]) := by
  refine q189 ?_
  have hI := h.2.2.2.2.2.1
  rw [h.told, hI.1]
  rcases h.t01 with t | t
  · rw [if_neg (fun q => q t)]
    refine r6n (by decide) ?_
    refine q318 ?_
    rw [e201g]
    exact ⟨fun q => absurd (tb_g14.trans t) q, fun _ => tb_no h (by decide)⟩
  · have t0 : A.1 77 14 ≠ 0 := by rw [t]; decide
    have L := h.L t0
    have z := L.s0
    rw [if_pos t0]
    by_cases h4 : A.1 77 19 < 4
    · rw [if_pos h4]
      refine r6z ?_
      have n0 := hI.2.1.1
      refine q190 ?_
      have k10 : (tb_upI A 0 13 0).1 0 10 = A.1 77 19 := hI.1
      rw [k10]
      refine ⟨fun q => by omega, fun _ => ⟨fun _ => Or.inr ⟨_, rfl, tb_isIm ⟨n0, h4⟩, ?_⟩, fun q => by omega⟩⟩
      refine sp191 (tb_isIm ⟨n0, h4⟩) tb_isS5 (by omega) ?_
      intro B hB
      have b10 : B.1 0 10 = A.1 77 19 := (hB.2.1 0 10 (by omega)).trans hI.1
      have fB : tb_fr tb_Is [(0, 13)] [] A B := (tb_fr.upI tb_fr.refl rfl).trans (hB.fr (tb_Is_im n0 h4 rfl))
      rw [b10, tb_w_id (x := A.1 77 19 + 1) (by omega) (by omega), tb_w_id (by omega) (by omega)]
      refine q318 ?_
      rw [e201]
      have c14 : B.1 77 14 = A.1 77 14 := fB.1 77 14 rfl rfl
      have c19 : B.1 77 19 = A.1 77 19 := fB.1 77 19 rfl rfl
      refine ⟨fun _ => ⟨fun _ => ?_, fun q => absurd (c19.symm.trans q) (by omega)⟩, fun q => absurd (c14.symm.trans q) t0⟩
      have key := tb_lm (m := 0) (n := 453) (E := fun i => ∀ C : tb_H, tb_fr [83] [] [] (tb_upI (tb_upI (tb_upI B 0 10 (A.1 77 19 + 1)) 77 0 0) 77 11 0) C → (∀ k, 0 ≤ k → k < i → C.1 83 (453 * A.1 77 19 + k) = A.1 82 k) → (∀ k, k < 453 * A.1 77 19 → C.1 83 k = A.1 83 k) → tb_E X 318 33 [tb_r 77, tb_i i] [] C (tb_Ri 318 (fun v' A2 => A.1 77 19 + 1 - 1 = v' ∧ tb_Rel A2))) ?_ ?_ 453 0 (by decide) (by decide)
      · refine key _ tb_fr.refl (fun k a b => by omega) (fun k a => ?_)
        show B.1 83 k = A.1 83 k
        exact fB.1 83 k rfl rfl
      · intro C hC hk ho
        have c19' : C.1 77 19 = A.1 77 19 := (hC.1 77 19 rfl rfl).trans c19
        refine q318_33 ⟨fun _ => ?_, fun q => absurd q (by decide)⟩
        rw [c19', tb_w_id (x := A.1 77 19 + 1) (by omega) (by omega), tb_w_id (by omega) (by omega)]
        refine ⟨rfl, ?_⟩
        have hfr : tb_fr (83 :: tb_Is) [(0, 10), (0, 13), (77, 0), (77, 11), (77, 19)] [] A (tb_upI C 77 19 (A.1 77 19 + 1)) := by
          refine tb_fr.upI ?_ rfl
          refine tb_fr.trans ?_ (hC.mono rfl rfl rfl)
          refine tb_fr.upI ?_ rfl
          refine tb_fr.upI ?_ rfl
          refine tb_fr.upI ?_ rfl
          exact fB.mono rfl rfl rfl
        have s80 : (tb_upI C 77 19 (A.1 77 19 + 1)).1 80 = A.1 80 := by
          funext k
          exact hfr.1 80 k rfl rfl
        have s83 : (tb_upI C 77 19 (A.1 77 19 + 1)).1 83 = C.1 83 := rfl
        obtain ⟨r0, rT, rB, rL, rU, rI, rA, rG, rP⟩ := h
        have p2 : (tb_upI C 77 19 (A.1 77 19 + 1)).2.2 = A.2.2 := by
          funext o k
          exact hfr.2.2 o k rfl
        refine ⟨r0.mk hfr rfl ?_ ?_, rT.fr hfr rfl, rB.fr hfr rfl, fun t => (rL (by rw [← hfr.1 77 14 rfl rfl]; exact t)).fr hfr rfl, tb_RU.t (by rw [hfr.1 77 14 rfl rfl]; exact t0), ⟨?_, ?_, ?_⟩, rA.fr hfr rfl, rG.fr hfr rfl, ?_⟩
        · show C.1 0 13 = C.1 77 11
          rw [hC.1 0 13 rfl rfl, hC.1 77 11 rfl rfl]
          show B.1 0 13 = 0
          rw [hB.2.1 0 13 (by omega)]
          rfl
        · show C.1 77 11 ≠ 4
          rw [hC.1 77 11 rfl rfl]
          show (0 : Int) ≠ 4
          decide
        · show C.1 0 10 = A.1 77 19 + 1
          rw [hC.1 0 10 rfl rfl]
          rfl
        · show 0 ≤ A.1 77 19 + 1 ∧ A.1 77 19 + 1 ≤ 4
          omega
        · intro i i0 i1
          have i1' : i < A.1 77 19 + 1 := i1
          rw [s80]
          have cb : ∀ o, 53 ≤ o → o ≤ 76 → (tb_upI C 77 19 (A.1 77 19 + 1)).1 o = B.1 o := by
            intro o o0 o1
            funext k
            rw [tb_uI_o (by omega), hC.1 o k (by simp; omega) rfl, tb_uI_o (by omega), tb_uI_o (by omega), tb_uI_o (by omega)]
          by_cases e : i = A.1 77 19
          · have ek : ∀ k, 0 ≤ k → k < 453 → tb_kp (tb_upI C 77 19 (A.1 77 19 + 1)) i k = A.1 82 k := by
              intro k k0 k1
              unfold tb_kp
              rw [s83, e]
              exact hk k k0 k1
            refine ⟨?_, ?_⟩
            · rw [e] at ek ⊢
              have rs5 : tc_rs B.1 (53 + 6 * (A.1 77 19).toNat) (A.1 82) := hB.rs (s := A.1 82) (fun k _ _ => rfl) z.2.2.2.2.2.2.2.2.2.1 (by
                have r5 := L.2.2.2.2.1
                unfold tc_rs at r5 ⊢
                exact r5)
              exact tc_rs.e (fun o o0 o1 => cb o (by omega) (by omega)) ek z.2.2.2.2.2.2.2.2.2.1 rs5
            · exact tb_bs.e ek L.c112.2 L.c114.2 L.c117.2 L.2.2.2.2.2
          · have g := rI.2.2 i i0 (by omega)
            have ek : ∀ k, 0 ≤ k → k < 453 → tb_kp (tb_upI C 77 19 (A.1 77 19 + 1)) i k = tb_kp A i k := by
              intro k k0 k1
              unfold tb_kp
              rw [s83]
              exact ho _ (by omega)
            refine ⟨?_, tb_bs.e ek L.c112.2 L.c114.2 L.c117.2 g.2⟩
            refine tc_rs.e (fun o o0 o1 => ?_) ek g.2.1.2.2.2.2.2.2.2.2.2.1 g.1
            funext k
            rw [cb o (by omega) (by omega), hB.2.1 o k (by omega), tb_uI_o (by omega)]
        · unfold tb_RP
          rw [p2]
          exact rP
      · intro i i0 i1 ih C hC hk ho
        have c19' : C.1 77 19 = A.1 77 19 := (hC.1 77 19 rfl rfl).trans c19
        have c82 : C.1 82 i = A.1 82 i := (hC.1 82 i rfl rfl).trans (by
          show B.1 82 i = _
          exact fB.1 82 i rfl rfl)
        refine q318_33 ⟨fun q => by omega, fun _ => ⟨by omega, ?_⟩⟩
        rw [c19', tb_w_id (x := 453 * A.1 77 19) (by omega) (by omega), tb_w_id (x := 453 * A.1 77 19 + i) (by omega) (by omega), tb_w_id (x := i + 1) (by omega) (by omega), c82]
        refine ⟨by omega, ih _ (tb_fr.upI hC rfl) ?_ ?_⟩
        · intro k k0 k1
          by_cases e : k = i
          · rw [e, tb_uI_s]
          · rw [tb_uI_k (by omega)]
            exact hk k k0 (by omega)
        · intro k k0
          rw [tb_uI_k (by omega)]
          exact ho k k0
    · rw [if_neg h4]
      refine r6n (by decide) ?_
      refine q318 ?_
      rw [e201g]
      have := hI.2.1
      exact ⟨fun _ => ⟨fun q => absurd (show (tb_g A 3).1 77 19 = 4 by show A.1 77 19 = 4; omega) q, fun _ => tb_no h (by decide)⟩, fun q => absurd (tb_g14.symm.trans q) t0⟩
theorem c193 (h : tb_Rel A) {x : Int} : tb_Ci X 193 [tb_r 0, tb_i x] A (tb_A2 X 319 [tb_r 77, tb_i x]) := by
  refine q193 ?_
  have hI := h.2.2.2.2.2.1
  have nb := hI.2.1
  rw [hI.1, tb_w_id (by omega) (by omega)]
  by_cases hx : 0 ≤ x ∧ x ≤ A.1 77 19 - 1
  · have t0 : A.1 77 14 ≠ 0 := fun t => by have := (h.2.2.2.2.1 t).2.2.2.1; omega
    have L := h.L t0
    rw [e5f hx]
    refine ⟨fun _ => ?_, fun q => absurd rfl q⟩
    refine q190 ⟨fun q => by omega, fun _ => ⟨fun h4 => Or.inr ⟨_, rfl, tb_isIm ⟨hx.1, h4⟩, ?_⟩, fun q => by omega⟩⟩
    refine sp191 tb_isS5 (tb_isIm ⟨hx.1, h4⟩) (by omega) ?_
    intro B hB
    rw [e55]
    have g := hI.2.2 x hx.1 (by omega)
    have z := g.2.1
    have fB : tb_fr [5, 6, 7, 8, 9, 10] [(0, 13)] [] A B := (tb_fr.upI tb_fr.refl rfl).trans (hB.fr (fun o ho => by simp at ho; omega))
    have c19 : B.1 77 19 = A.1 77 19 := fB.1 77 19 rfl rfl
    refine q319 ?_
    rw [e201]
    have d19 : (tb_upI (tb_upI (tb_upI B 17 4 0) 77 0 0) 77 11 0).1 77 19 = A.1 77 19 := c19
    rw [d19, tb_w_id (by omega) (by omega), e202t hx]
    refine ⟨fun _ => ?_, fun q => absurd q (by decide)⟩
    have key := tb_lm (m := 0) (n := 453) (E := fun i => ∀ C : tb_H, tb_fr [82] [] [] (tb_upI (tb_upI (tb_upI B 17 4 0) 77 0 0) 77 11 0) C → (∀ k, 0 ≤ k → k < i → C.1 82 k = tb_kp A x k) → tb_E X 319 26 [tb_r 77, tb_i x, tb_i i] [] C (tb_Ri 319 (fun v' A2 => 1 = v' ∧ tb_Rel A2))) ?_ ?_ 453 0 (by decide) (by decide)
    · exact key _ tb_fr.refl (fun k a b => by omega)
    · intro C hC hk
      refine q319_26 ⟨fun _ => ⟨rfl, ?_⟩, fun q => absurd q (by decide)⟩
      have hfr : tb_fr [5, 6, 7, 8, 9, 10, 82] [(0, 13), (17, 4), (77, 0), (77, 11), (77, 23)] [] A (tb_upI C 77 23 0) := by
        refine tb_fr.upI ?_ rfl
        refine tb_fr.trans ?_ (hC.mono rfl rfl rfl)
        refine tb_fr.upI ?_ rfl
        refine tb_fr.upI ?_ rfl
        refine tb_fr.upI ?_ rfl
        exact fB.mono rfl rfl rfl
      have p2 : (tb_upI C 77 23 0).2.2 = A.2.2 := by
        funext o k
        exact hfr.2.2 o k rfl
      have s80 : (tb_upI C 77 23 0).1 80 = A.1 80 := by
        funext k
        exact hfr.1 80 k rfl rfl
      have s82 : (tb_upI C 77 23 0).1 82 = C.1 82 := rfl
      have cb : ∀ o, 5 ≤ o → o ≤ 10 → (tb_upI C 77 23 0).1 o = B.1 o := by
        intro o o0 o1
        funext k
        rw [tb_uI_o (by omega), hC.1 o k (by simp; omega) rfl, tb_uI_o (by omega), tb_uI_o (by omega), tb_uI_o (by omega)]
      obtain ⟨r0, rT, rB, rL, rU, rI, rA, rG, rP⟩ := h
      refine ⟨r0.mk hfr rfl ?_ ?_, rT.fr hfr rfl, rB.fr hfr rfl, fun _ => ?_, tb_RU.t (by rw [hfr.1 77 14 rfl rfl]; exact t0), rI.fr hfr rfl, tb_RA.z rfl ?_ ?_, rG.fr hfr rfl, ?_⟩
      · show C.1 0 13 = C.1 77 11
        rw [hC.1 0 13 rfl rfl, hC.1 77 11 rfl rfl]
        show B.1 0 13 = 0
        rw [hB.2.1 0 13 (by omega)]
        rfl
      · show C.1 77 11 ≠ 4
        rw [hC.1 77 11 rfl rfl]
        show (0 : Int) ≠ 4
        decide
      · obtain ⟨hb, h3, h4', h5, _, _⟩ := L
        unfold tb_L
        rw [p2, s80]
        refine ⟨hb, ?_, h4', h5, ?_, ?_⟩
        · unfold tb_rb at h3 ⊢
          rcases hb with hb | hb <;> rw [hb] at h3 ⊢
          · rw [show (11 + 1 : Nat) = 12 from rfl, show (11 + 2 : Nat) = 13 from rfl] at h3 ⊢
            rw [show (tb_upI C 77 23 0).1 12 = A.1 12 from funext (fun k => hfr.1 12 k rfl rfl), show (tb_upI C 77 23 0).1 13 = A.1 13 from funext (fun k => hfr.1 13 k rfl rfl)]
            exact h3
          · rw [show (48 + 1 : Nat) = 49 from rfl, show (48 + 2 : Nat) = 50 from rfl] at h3 ⊢
            rw [show (tb_upI C 77 23 0).1 49 = A.1 49 from funext (fun k => hfr.1 49 k rfl rfl), show (tb_upI C 77 23 0).1 50 = A.1 50 from funext (fun k => hfr.1 50 k rfl rfl)]
            exact h3
        · have r5 : tc_rs B.1 5 (tb_kp A x) := hB.rs (s := tb_kp A x) (fun k _ _ => rfl) z.2.2.2.2.2.2.2.2.2.1 (by
            refine tc_rs.e (fun o o0 o1 => ?_) (fun k _ _ => rfl) z.2.2.2.2.2.2.2.2.2.1 g.1
            funext k
            exact tb_uI_o (by omega))
          exact tc_rs.e (fun o o0 o1 => cb o (by omega) (by omega)) (fun k k0 k1 => by rw [s82]; exact hk k k0 k1) z.2.2.2.2.2.2.2.2.2.1 r5
        · exact tb_bs.e (fun k k0 k1 => by rw [s82]; exact hk k k0 k1) h4'.2.2.1.2 h4'.2.2.2.2.1.2 h4'.2.2.2.2.2.2.2.1.2 g.2
      · show C.1 17 4 = 0
        rw [hC.1 17 4 rfl rfl]
        rfl
      · rw [hfr.1 17 3 rfl rfl]
        exact rA.2.2.1
      · unfold tb_RP
        rw [p2]
        exact rP
    · intro i i0 i1 ih C hC hk
      have c83 : C.1 83 = A.1 83 := by
        funext k
        rw [hC.1 83 k rfl rfl]
        show B.1 83 k = _
        exact fB.1 83 k rfl rfl
      refine q319_26 ⟨fun q => by omega, fun _ => ?_⟩
      rw [tb_w_id (x := 453 * x) (by omega) (by omega), tb_w_id (x := 453 * x + i) (by omega) (by omega), tb_w_id (x := i + 1) (by omega) (by omega), c83]
      refine ⟨by omega, by omega, ih _ (tb_fr.upI hC rfl) ?_⟩
      intro k k0 k1
      by_cases e : k = i
      · rw [e, tb_uI_s]
        rfl
      · rw [tb_uI_k (by omega)]
        exact hk k k0 (by omega)
  · rw [e5t hx]
    refine ⟨fun q => absurd q (by decide), fun _ => ?_⟩
    refine q319 ?_
    rw [e201g]
    have d19 : (tb_g A 1).1 77 19 = A.1 77 19 := rfl
    rw [d19, tb_w_id (by omega) (by omega), e202f hx]
    exact ⟨fun q => absurd rfl q, fun _ => tb_nt h (by decide)⟩
end TBIMG2
