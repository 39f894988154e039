/-! STEER 7: steer and turn -/
section TESTE3
variable {X : tb_X} {A B C : tb_H} {K : Int → tb_H → Prop} {Kv : tb_H → Prop}
theorem sp290 (M : tc_M A) {x y : Int} (x0 : 0 ≤ x) (x1 : x ≤ 9) (y0 : 0 ≤ y) (y1 : y ≤ 9) (k : ∀ B h n m, te_f9 A B → te_hs (A.1 80) (A.1 82) 4096 h → te_ST (te_al h) td_af ((A.1 82 0 * 10 + A.1 82 1) * 8 + A.1 82 2) (te_gl x y) n m → (∀ i, 0 ≤ i → i < n → B.1 94 i = te_tn n.toNat m i) → K n B) : tb_Ci X 290 [tb_r 77, tb_i x, tb_i y] A K := by
  have s := M.s0
  refine q290 (sp288 M (fun B h fB hh => ?_))
  refine l290a M (fB.mono rfl rfl rfl) (fun C fC d1 d0 q0 => ?_)
  refine l290b (G0 := fun _ => 1) (fr0 := fun _ => 0) (tu0 := fun _ => 0) fC (te_Q.z (by decide) (by omega) (by omega) d0 d1 q0) (fun C2 n2 j8 fC2 D => ?_)
  refine l290c fC2 x0 x1 y0 y1 D (fun n mn c => ?_) (fun n j8 mn n0 n40 => ?_)
  · exact k C2 h (-2) 0 fC2 hh (mn.none D c 0) (fun i a b => absurd b (by omega))
  · refine l290d x0 x1 y0 y1 D mn n0 n40 (fun C3 j9 j10 j11 fC3 e92 mk => ?_)
    refine l290e (by omega) (by omega) (by rw [e92]; exact D) (by rw [e92]; exact mn) n0 n40 (by rw [e92]; exact mk) (fun C4 m fC4 st ht => ?_)
    exact k C4 h n m ((fC2.trans fC3).trans fC4) hh st ht
def te_sg (P : Int) : Int := ((P / 8 % 10) * 10 + P / 80) * 8 + P % 8
theorem te_sg_d {P : Int} (p0 : 0 ≤ P) (p1 : P < 800) : te_sg P / 8 = P / 8 % 10 * 10 + P / 8 / 10 ∧ te_sg P % 8 = P % 8 := by
  unfold te_sg
  rw [show P / 80 = P / 8 / 10 by omega]
  have b : 0 ≤ P % 8 ∧ P % 8 < 8 := by omega
  generalize P / 8 % 10 * 10 + P / 8 / 10 = v
  generalize P % 8 = h at b ⊢
  omega
theorem te_sg_3 {P : Int} (p0 : 0 ≤ P) (p1 : P < 800) : te_sg P / 80 = P / 8 % 10 ∧ te_sg P / 8 % 10 = P / 8 / 10 ∧ te_sg P % 8 = P % 8 := by
  have d := te_sg_d p0 p1
  have a : te_sg P / 80 = te_sg P / 8 / 10 := by omega
  rw [a, d.1, d.2]
  have b : 0 ≤ P / 8 % 10 ∧ P / 8 % 10 < 10 ∧ 0 ≤ P / 8 / 10 ∧ P / 8 / 10 < 10 := by omega
  generalize P / 8 % 10 = x at b ⊢
  generalize P / 8 / 10 = y at b ⊢
  omega
theorem te_sg_m {x y w : Int} (x0 : 0 ≤ x) (x1 : x ≤ 9) (y0 : 0 ≤ y) (y1 : y ≤ 9) (w0 : 0 ≤ w) (w1 : w ≤ 7) : te_sg ((y * 10 + x) * 8 + w) = (x * 10 + y) * 8 + w := by
  unfold te_sg
  have e1 : ((y * 10 + x) * 8 + w) / 8 = y * 10 + x := by omega
  have e2 : ((y * 10 + x) * 8 + w) / 80 = y := by omega
  have e3 : ((y * 10 + x) * 8 + w) % 8 = w := by omega
  rw [e1, e2, e3, show (y * 10 + x) % 10 = x by omega]
theorem te_sg_nx {P t : Int} (p0 : 0 ≤ P) (p1 : P < 800) : te_sg (te_ac P t) = td_af (te_sg P) t := by
  have e := te_sg_3 p0 p1
  have b := tb_wB (x := P / 8 % 10) (y := P / 8 / 10) (h := (P % 8 + t + 7) % 8) (by omega) (by omega) (by omega) (by omega) (by omega) (by omega)
  unfold td_af te_ac td_sp
  rw [e.1, e.2.1, e.2.2]
  exact te_sg_m b.1.1 b.1.2 b.2.1.1 b.2.1.2 b.2.2.1 b.2.2.2
theorem te_way (L : tb_L A) {x y : Int} (x0 : 0 ≤ x) (x1 : x ≤ 9) (y0 : 0 ≤ y) (y1 : y ≤ 9) (k : ∀ C n, tb_fr tb_S0 tb_F0 [] A C → C.1 0 13 = A.1 0 13 → (n = -2 ∨ (0 ≤ n ∧ n ≤ 40)) → (∀ (E : tb_H) (K' : Int → tb_H → Prop), tb_fr [] [(0, 13), (77, 0), (77, 11)] [] C E → (∀ D, te_f9 E D → (∀ i, 0 ≤ i → i < n → D.1 94 i = C.1 37 i) → K' n D) → tb_Ci X 290 [tb_r 77, tb_i x, tb_i y] E K') → K n C) : tb_Ci X 140 [tb_r 21, tb_r 4] A (fun v A1 => tb_Ci X 52 [tb_i x, tb_i y] A1 (fun w A2 => tb_Ci X 142 [tb_r 32, tb_r 4, tb_i v, tb_i w] A2 (fun v A3 => K v A3))) := by
  refine sp140 L (fun B h fB hB => ?_)
  have LB : tb_L B := L.fr fB rfl
  have e80 : B.1 80 = A.1 80 := funext fun q => fB.1 80 q rfl rfl
  have e82 : B.1 82 = A.1 82 := funext fun q => fB.1 82 q rfl rfl
  have s := L.M.s0
  rw [e52c x0 x1 y0 y1]
  refine sp142 LB (fun C n m fC st ht => ?_)
  rw [e82] at st
  have fAC : tb_fr tb_S0 tb_F0 [] A C := (fB.mono rfl rfl rfl).trans (fC.mono rfl rfl rfl)
  refine k C n fAC ?_ ?_ (fun E K' fE kE => ?_)
  · rw [fC.1 0 13 rfl rfl, fB.1 0 13 rfl rfl]
  · rcases st with q | q
    · exact Or.inl q.1
    · exact Or.inr q.1
  · have g80 : E.1 80 = A.1 80 := funext fun q => (fE.1 80 q rfl rfl).trans (fAC.1 80 q rfl rfl)
    have g82 : E.1 82 = A.1 82 := funext fun q => (fE.1 82 q rfl rfl).trans (fAC.1 82 q rfl rfl)
    have M1 : tc_M E := L.M.c g80 g82
    refine sp290 M1 x0 x1 y0 y1 (fun D h' n' m' fD hh st' ht' => ?_)
    rw [g80, g82] at hh
    rw [g82] at st'
    have eh : h = h' := hB.u hh
    subst eh
    have e0 : te_sg ((A.1 82 1 * 10 + A.1 82 0) * 8 + A.1 82 2) = (A.1 82 0 * 10 + A.1 82 1) * 8 + A.1 82 2 := te_sg_m s.1.1 s.1.2 s.2.1.1 s.2.1.2 s.2.2.1.1 s.2.2.1.2
    rw [← e0] at st'
    have st2 := te_ST.map (al := te_al h) (nx := te_ac) (nx' := td_af) (g := te_sg) (D := fun p => 0 ≤ p ∧ p < 800) (G := fun p => p / 8 = y * 10 + x) (G' := te_gl x y) (s0 := (A.1 82 1 * 10 + A.1 82 0) * 8 + A.1 82 2) (by omega) (fun p t b _ _ => te_acB b.1 b.2) (fun p t b _ _ => te_sg_nx b.1 b.2) (fun p b => by
      show te_sg p / 8 = x * 10 + y ↔ p / 8 = y * 10 + x
      have b' : 0 ≤ p ∧ p < 800 := b
      rw [(te_sg_d b'.1 b'.2).1]
      omega) st'
    have u := te_ST.u st st2
    have en := u.1
    subst en
    refine kE D fD (fun i i0 i1 => ?_)
    rw [ht' i i0 i1, ht i i0 i1, u.2 (by omega)]
theorem c141 (h : tb_Rel A) {x y : Int} : tb_Ci X 141 [tb_r 0, tb_i x, tb_i y] A (tb_A2 X 289 [tb_r 77, tb_i x, tb_i y]) := by
  rcases h.t01 with t | t
  · refine q141 ⟨fun q => absurd (h.told.trans t) q, fun _ => r6n (by decide) ?_⟩
    refine q289 ?_
    rw [e201g]
    exact ⟨fun q => absurd (tb_g14.trans t) q, fun _ => tb_no h (by decide)⟩
  · have t0 : A.1 77 14 ≠ 0 := by rw [t]; decide
    have L := tb_Lu (k := 0) (h.L t0)
    refine q141 ⟨fun _ => ?_, fun q => absurd (h.told.symm.trans q) t0⟩
    rw [e91]
    by_cases hb : 0 ≤ x ∧ x ≤ 9 ∧ 0 ≤ y ∧ y ≤ 9
    · rw [if_pos hb, if_pos (by decide)]
      refine r6z ?_
      refine te_way L hb.1 hb.2.1 hb.2.2.1 hb.2.2.2 (fun C n fC c13 _ ref => ?_)
      have fA : tb_fr tb_S0 tb_F0 [] A C := (tb_fr.upI tb_fr.refl rfl).trans fC
      refine q289 ?_
      rw [e201]
      refine ⟨fun _ => ?_, fun q => absurd ((fA.1 77 14 rfl rfl).symm.trans q) t0⟩
      rw [e250, if_pos hb]
      refine ⟨fun q => absurd q (by decide), fun _ => ?_⟩
      refine ref (te_gg C) _ (tb_fr.upI (tb_fr.upI tb_fr.refl rfl) rfl) (fun D fD _ => ⟨rfl, ?_⟩)
      refine te_fin h ((tb_fr.upI (tb_fr.upI fA rfl) rfl).trans (fD.mono rfl rfl rfl)) ?_ ?_
      · rw [fD.1 0 13 rfl rfl, fD.1 77 11 rfl rfl, tb_uI_s, td_upo (by decide), td_upo (by decide), c13, tb_uI_s]
      · rw [fD.1 77 11 rfl rfl, tb_uI_s]
        decide
    · rw [if_neg hb, if_neg (by decide)]
      refine r6n (by decide) ?_
      refine q289 ?_
      rw [e201g]
      refine ⟨fun _ => ?_, fun q => absurd (tb_g14.symm.trans q) t0⟩
      rw [e250, if_neg hb]
      exact ⟨fun _ => tb_no h (by decide), fun q => absurd rfl q⟩
theorem c146 (h : tb_Rel A) {x y i : Int} : tb_Ci X 146 [tb_r 0, tb_i x, tb_i y, tb_i i] A (tb_A2 X 293 [tb_r 77, tb_i x, tb_i y, tb_i i]) := by
  rcases h.t01 with t | t
  · refine q146 ⟨fun q => absurd (h.told.trans t) q, fun _ => r6n (by decide) ?_⟩
    refine q293 ?_
    rw [e201g]
    exact ⟨fun q => absurd (tb_g14.trans t) q, fun _ => tb_no h (by decide)⟩
  · have t0 : A.1 77 14 ≠ 0 := by rw [t]; decide
    have L := tb_Lu (k := 0) (h.L t0)
    refine q146 ⟨fun _ => ?_, fun q => absurd (h.told.symm.trans q) t0⟩
    rw [e91]
    by_cases hb : 0 ≤ x ∧ x ≤ 9 ∧ 0 ≤ y ∧ y ≤ 9
    · rw [if_pos hb, if_pos (by decide)]
      refine r6z ?_
      refine te_way (K := fun v5678 A5677 => tb_Ci X 5 [tb_i i, tb_i 0, tb_i (tb_w (v5678 - 1))] A5677 (fun v5681 A5680 => tb_Ci X 6 [tb_r 0, tb_i (if v5681 = 0 then 0 else 6 : Int)] A5680 (fun v5686 A5685 => (v5686 = 0 → tb_Ci X 147 [tb_r 32, tb_i i] A5685 (fun v5693 A5692 => tb_A2 X 293 [tb_r 77, tb_i x, tb_i y, tb_i i] v5693 A5692)) ∧ (v5686 ≠ 0 → tb_A2 X 293 [tb_r 77, tb_i x, tb_i y, tb_i i] (-1) A5685)))) L hb.1 hb.2.1 hb.2.2.1 hb.2.2.2 (fun C n fC c13 nb ref => ?_)
      have fA : tb_fr tb_S0 tb_F0 [] A C := (tb_fr.upI tb_fr.refl rfl).trans fC
      rw [tb_w_id (x := n - 1) (by omega) (by omega)]
      have run : ∀ v : Int, ∀ K' : Int → tb_H → Prop, (∀ D, te_f9 (te_gg (tb_upI C 0 13 v)) D → (∀ i, 0 ≤ i → i < n → D.1 94 i = C.1 37 i) → tb_Ci X 202 [tb_i i, tb_i 0, tb_i (tb_w (n - 1))] D (fun w A5 => (w = 0 → tb_Ci X 203 [tb_r 77, tb_i 6] A5 (fun v A6 => K' v A6)) ∧ (w ≠ 0 → (0 ≤ i ∧ i < 40) ∧ K' (A5.1 94 i) A5))) → tb_Ci X 293 [tb_r 77, tb_i x, tb_i y, tb_i i] (tb_upI C 0 13 v) K' := by
        intro v K' kk
        refine q293 ?_
        rw [e201]
        refine ⟨fun _ => ?_, fun q => absurd ((fA.1 77 14 rfl rfl).symm.trans q) t0⟩
        rw [e250, if_pos hb]
        refine ⟨fun _ => ?_, fun q => absurd q (by decide)⟩
        exact ref (te_gg (tb_upI C 0 13 v)) _ (tb_fr.upI (tb_fr.upI (tb_fr.upI tb_fr.refl rfl) rfl) rfl) (fun D fD hD => kk D fD hD)
      have fr : ∀ v D, te_f9 (te_gg (tb_upI C 0 13 v)) D → tb_fr tb_S0 tb_F0 [] A D := fun v D fD => (tb_fr.upI (tb_fr.upI (tb_fr.upI fA rfl) rfl) rfl).trans (fD.mono rfl rfl rfl)
      by_cases hi : 0 ≤ i ∧ i ≤ n - 1
      · rw [e5f hi, if_pos rfl]
        refine r6z ?_
        rw [e147 hi.1 (by omega), td_upo (by decide)]
        refine run 0 _ (fun D fD hD => ?_)
        rw [tb_w_id (x := n - 1) (by omega) (by omega), e202t hi]
        refine ⟨fun q => absurd q (by decide), fun _ => ⟨⟨hi.1, by omega⟩, (hD i hi.1 (by omega)).symm, ?_⟩⟩
        refine te_fin h (fr 0 D fD) ?_ ?_
        · rw [fD.1 0 13 rfl rfl, fD.1 77 11 rfl rfl, tb_uI_s, td_upo (by decide), td_upo (by decide), tb_uI_s]
        · rw [fD.1 77 11 rfl rfl, tb_uI_s]
          decide
      · rw [e5t hi, if_neg (by decide)]
        refine r6n (by decide) ?_
        refine run 6 _ (fun D fD hD => ?_)
        rw [tb_w_id (x := n - 1) (by omega) (by omega), e202f hi]
        refine ⟨fun _ => ?_, fun q => absurd rfl q⟩
        rw [e203]
        refine ⟨rfl, te_fin h (tb_fr.upI (fr 6 D fD) rfl) ?_ ?_⟩
        · rw [tb_uI_s, td_upo (by decide), fD.1 0 13 rfl rfl, td_upo (by decide), td_upo (by decide), tb_uI_s]
        · rw [tb_uI_s]
          decide
    · rw [if_neg hb, if_neg (by decide)]
      refine r6n (by decide) ?_
      refine q293 ?_
      rw [e201g]
      refine ⟨fun _ => ?_, fun q => absurd (tb_g14.symm.trans q) t0⟩
      rw [e250, if_neg hb]
      exact ⟨fun q => absurd rfl q, fun _ => tb_no h (by decide)⟩
end TESTE3
