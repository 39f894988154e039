/-! ways: the calls -/
section TBWAYS5
variable {X : tb_X} {A B D C : tb_H} {K : Int → tb_H → Prop} {Kv : tb_H → Prop}
theorem td_single {c v : Int} (c0 : 0 ≤ c) {n : Int} (hn : 0 ≤ n) : tb_sum (fun i => if i = c then v else 0) n = if c < n then v else 0 := by
  refine tb_indN (P := fun m => tb_sum (fun i => if i = c then v else 0) m = if c < m then v else 0) (N := n) ?_ (fun i i0 i1 ih => ?_) n hn (Int.le_refl _)
  · rw [if_neg (by omega)]; rfl
  · rw [tb_sum_s i0, ih]
    ((repeat' split) <;> omega)
theorem td_s112 {a : Int → Int} {c : Int} (c0 : 0 ≤ c) (c1 : c < 100) : tb_sum (fun z => a z * (if z / 112 = c then 1 else 0)) 11200 = tb_sum (fun q => a (112 * c + q)) 112 := by
  rw [show (11200 : Int) = 112 * 100 from rfl, td_sum_mul (by decide) (by decide)]
  have e : tb_sum (fun i => tb_sum (fun j => a (112 * i + j) * (if (112 * i + j) / 112 = c then 1 else 0)) 112) 100 = tb_sum (fun i => if i = c then tb_sum (fun q => a (112 * c + q)) 112 else 0) 100 := by
    refine tb_sum_congr (by decide) (fun i i0 i1 => ?_)
    by_cases q : i = c
    · rw [if_pos q]
      refine tb_sum_congr (by decide) (fun j j0 j1 => ?_)
      rw [if_pos (by omega), q]
      omega
    · rw [if_neg q]
      refine tb_indN (P := fun m => tb_sum (fun j => a (112 * i + j) * (if (112 * i + j) / 112 = c then 1 else 0)) m = 0) (N := 112) rfl (fun j j0 j1 ih => ?_) 112 (by decide) (Int.le_refl _)
      rw [tb_sum_s j0, ih, if_neg (by omega)]
      omega
  rw [e, td_single c0 (by decide), if_pos c1]
theorem e297 {G : (Int → Int) → Int} (hn : td_nv 11200 id (B.2.1 96) G) (hT : G (fun _ => 1) ≤ 531441) {x y : Int} (x0 : 0 ≤ x) (x1 : x ≤ 9) (y0 : 0 ≤ y) (y1 : y ≤ 9) : tb_Cj X 297 [tb_r 77, tb_i x, tb_i y] B K = K (G (td_fc (y * 10 + x))) B := by
  refine tb_dej (q297 ?_)
  have T : tb_sum (B.2.1 96) 11200 ≤ 531441 := by rw [td_nv1 (by decide) hn]; exact hT
  have fin : tb_sum (fun q => B.2.1 96 (112 * (x * 10 + y) + q)) 112 = G (td_fc (y * 10 + x)) := by
    rw [← td_s112 (by omega) (by omega), ← hn.2]
    refine tb_sum_congr (by decide) (fun i i0 i1 => ?_)
    show _ = B.2.1 96 i * td_fc (y * 10 + x) i
    unfold td_fc
    rw [show (y * 10 + x) % 10 * 10 + (y * 10 + x) / 10 = x * 10 + y by omega]
  have bd : ∀ m, 0 ≤ m → m ≤ 112 → 0 ≤ tb_sum (fun q => B.2.1 96 (112 * (x * 10 + y) + q)) m ∧ tb_sum (fun q => B.2.1 96 (112 * (x * 10 + y) + q)) m ≤ 112 * 531441 := by
    intro m m0 m1
    refine tb_sum_bd (c := 531441) (N := 112) m0 m1 (by decide) (fun i i0 i1 => ?_)
    have u := (td_u1 hn.1 11200 (by decide) (Int.le_refl _)).2 (112 * (x * 10 + y) + i) (by omega) (by omega)
    have v := (td_u1 hn.1 (112 * (x * 10 + y) + i) (by omega) (by omega)).1
    have w := hn.1 (112 * (x * 10 + y) + i) (by omega) (by omega)
    exact ⟨w, by omega⟩
  refine tb_lp (E := fun i => tb_E X 297 5 [tb_r 77, tb_i x, tb_i y, tb_j (tb_sum (fun q => B.2.1 96 (112 * (x * 10 + y) + q)) i), tb_s 1, tb_i i] [] B (tb_Rj 297 _)) (n := 112) (by decide) ?_ ?_
  · exact q297_5 ⟨fun _ => ⟨fin, rfl⟩, fun q => absurd q (by decide)⟩
  · intro i i0 i1 e
    rw [tb_sum_s i0] at e
    have b1 := bd i i0 (by omega)
    have b2 := bd (i + 1) (by omega) (by omega)
    rw [tb_sum_s i0] at b2
    refine q297_5 ⟨fun q => absurd q (by omega), fun _ => ?_⟩
    rw [tb_w_id (x := x * 10) (by omega) (by omega), tb_w_id (x := x * 10 + y) (by omega) (by omega), tb_w_id (x := (x * 10 + y) * 112) (by omega) (by omega), tb_w_id (x := (x * 10 + y) * 112 + i) (by omega) (by omega), show (x * 10 + y) * 112 + i = 112 * (x * 10 + y) + i by omega, tb_W_id (by omega) (by omega), tb_w_id (x := i + 1) (by omega) (by omega)]
    exact ⟨⟨by omega, by omega⟩, e⟩
theorem e295 {d v : Int} : tb_Ci X 295 [tb_r 77, tb_i d, tb_i v] A K = K (if A.1 77 14 = 0 then 1 else (if 0 ≤ d ∧ d ≤ 12 then (if v = 0 then 2 else 0) else 2)) A := by
  refine tb_dei (q295 ⟨fun n => ?_, fun z => ⟨(if_pos z).symm, rfl⟩⟩)
  rw [if_neg n]
  by_cases hd : 0 ≤ d ∧ d ≤ 12
  · rw [e202t hd, if_neg (by decide), if_pos hd]
    exact ⟨rfl, rfl⟩
  · rw [e202f hd, if_pos rfl, if_neg hd]
    exact ⟨rfl, rfl⟩
theorem td_wrel (h : tb_Rel A) (fD : tb_fr [39, 40, 41] [(0, 13)] [38] A D) (z : D.1 0 13 = 0) (pD : td_pc (D.2.2 38 0) (D.2.2 38 1)) (fC : tb_fr [96, 97, 98] [(77, 0), (77, 11), (77, 28), (77, 29), (77, 30)] [] D C) (z11 : C.1 77 11 = 0) : tb_Rel C := by
  have f2 : tb_fr [39, 40, 41, 96, 97, 98] [(0, 13), (77, 0), (77, 11), (77, 28), (77, 29), (77, 30)] [38] A C := (fD.mono rfl rfl rfl).trans (fC.mono rfl rfl rfl)
  have z13 : C.1 0 13 = 0 := (fC.1 0 13 rfl rfl).trans z
  have p0 := h.P
  unfold tb_RP at p0
  refine h.qy (f2.mono rfl rfl rfl) (by rw [z13, z11]) (by rw [z11]; decide) ?_
  unfold tb_RP
  rw [show C.2.2 38 = D.2.2 38 from funext fun k => fC.2.2 38 k rfl, show C.2.2 42 = A.2.2 42 from funext fun k => f2.2.2 42 k rfl]
  exact ⟨pD, p0.2⟩
/-- the class's charts, then the reference's: the same counts -/
theorem td_both (h : tb_Rel A) (t0 : A.1 77 14 ≠ 0) {days : Nat} (hd : days ≤ 12)
    (hk : ∀ D, tb_fr [39, 40, 41] [(0, 13)] [38] A D → D.1 0 13 = 0 → td_pc (D.2.2 38 0) (D.2.2 38 1) → (∀ c, 0 ≤ c → c < 100 → 0 ≤ D.1 41 c ∧ D.1 41 c ≤ 531441) →
      (∀ Kr : tb_H → Prop, (∀ C G, tb_fr [96, 97] [(77, 0), (77, 11), (77, 28), (77, 29), (77, 30)] [] D C → C.1 77 11 = 0 → td_nv 11200 id (C.2.1 96) G → G (fun _ => 1) ≤ 531441 → (∀ c, 0 ≤ c → c < 100 → D.1 41 c = G (td_fc c)) → Kr C) → tb_Cv X 296 [tb_r 77, tb_i days] (tb_upI (tb_upI D 77 0 0) 77 11 0) Kr) → Kv D) : tb_Cv X 149 [tb_r 38, tb_r 4, tb_i days] (tb_upI A 0 13 0) Kv := by
  have L := tb_Lu (k := 0) (h.L t0)
  have p0 := h.P
  unfold tb_RP at p0
  have f0 : tb_fr [] [(0, 13)] [] A (tb_upI A 0 13 0) := tb_fr.upI tb_fr.refl rfl
  refine sp149 (P := A.2.2 38 0) (Q := A.2.2 38 1) (ln := tb_lean (A.1 80) (A.1 82) (fun f => A.1 82 (31 + f)) 9 (A.1 80 0)) L p0.1 ⟨rfl, rfl⟩ rfl hd (fun D fD pD hD => ?_)
  have f1 : tb_fr [39, 40, 41] [(0, 13)] [38] A D := (f0.mono rfl rfl rfl).trans (fD.mono rfl rfl rfl)
  refine hk D f1 (fD.1 0 13 rfl rfl) pD (fun c c0 c1 => (hD c c0 c1).2) (fun Kr hr => ?_)
  have f2 : tb_fr [39, 40, 41] [(0, 13), (77, 0), (77, 11)] [38] A (tb_upI (tb_upI D 77 0 0) 77 11 0) := tb_fr.upI (tb_fr.upI (f1.mono rfl rfl rfl) rfl) rfl
  have e80 : (tb_upI (tb_upI D 77 0 0) 77 11 0).1 80 = A.1 80 := funext fun k => f2.1 80 k rfl rfl
  have e82 : (tb_upI (tb_upI D 77 0 0) 77 11 0).1 82 = A.1 82 := funext fun k => f2.1 82 k rfl rfl
  have p3 := td_p3B hd
  refine sp296 ((h.L t0).M.c e80 e82) (ln := tb_lean (A.1 80) (A.1 82) (fun f => A.1 82 (31 + f)) 9 (A.1 80 0)) (by rw [e80, e82]) hd (fun C fC hC => ?_)
  have fr0 : tb_fr [] [(77, 0), (77, 11)] [] D (tb_upI (tb_upI D 77 0 0) 77 11 0) := tb_fr.upI (tb_fr.upI tb_fr.refl rfl) rfl
  refine hr C _ ((fr0.mono rfl rfl rfl).trans (fC.mono rfl rfl rfl)) (fC.1 77 11 rfl rfl) hC (by rw [td_Qc]; omega) (fun c c0 c1 => ?_)
  have ez : td_z0 (tb_upI (tb_upI D 77 0 0) 77 11 0) = td_z0 A := by unfold td_z0; rw [e82]
  rw [ez, e80, e82]
  exact (hD c c0 c1).1
def td_A3 (X : tb_X) (y : Nat) (as : List tb_V) (v : Int) (A : tb_H) : Prop := tb_Cj X y as A (fun v' A2 => v = v' ∧ tb_Rel A2)
theorem c148 (h : tb_Rel A) {d x y : Int} : tb_Cj X 148 [tb_r 0, tb_i d, tb_i x, tb_i y] A (td_A3 X 294 [tb_r 77, tb_i d, tb_i x, tb_i y]) := by
  rcases h.t01 with t | t
  · refine q148 ⟨fun q => absurd (h.told.trans t) q, fun _ => r6n (by decide) ?_⟩
    refine q294 ?_
    rw [e201g, e250, e295, if_pos (tb_g14.trans t)]
    exact ⟨fun q => absurd q (by decide), fun _ => tb_no h (by decide)⟩
  · have t0 : A.1 77 14 ≠ 0 := by rw [t]; decide
    have n14 : ∀ k, ¬ ((tb_g A k).1 77 14 = 0) := fun k q => t0 (tb_g14.symm.trans q)
    refine q148 ⟨fun _ => ?_, fun q => absurd (h.told.symm.trans q) t0⟩
    by_cases hd : 0 ≤ d ∧ d ≤ 12
    · rw [e5f hd]
      refine ⟨fun q => absurd rfl q, fun _ => ?_⟩
      rw [e91]
      by_cases hc : 0 ≤ x ∧ x ≤ 9 ∧ 0 ≤ y ∧ y ≤ 9
      · rw [if_pos hc, if_pos (by decide)]
        refine r6z ?_
        obtain ⟨days, rfl⟩ := Int.eq_ofNat_of_zero_le hd.1
        refine td_both h t0 (by omega) (fun D fD zD pD bD rD => ?_)
        rw [e52c hc.1 hc.2.1 hc.2.2.1 hc.2.2.2]
        refine q155 ?_
        rw [if_neg (by omega), if_pos (by omega)]
        refine q294 ?_
        rw [e201, e250, if_pos hc, e295, if_neg (show ¬ ((tb_upI (tb_upI D 77 0 0) 77 11 0).1 77 14 = 0) from fun q => t0 ((fD.1 77 14 rfl rfl).symm.trans q)), if_pos hd, if_neg (by decide)]
        refine ⟨fun _ => rD _ (fun C G fC z11 nC bC eC => ?_), fun q => absurd rfl q⟩
        rw [e297 nC bC hc.1 hc.2.1 hc.2.2.1 hc.2.2.2]
        exact ⟨eC _ (by omega) (by omega), td_wrel h fD zD pD (fC.mono rfl rfl rfl) z11⟩
      · rw [if_neg hc, if_neg (by decide)]
        refine r6n (by decide) ?_
        refine q294 ?_
        rw [e201g, e250, if_neg hc, e295, if_neg (n14 2), if_pos hd, if_pos rfl]
        exact ⟨fun q => absurd q (by decide), fun _ => tb_no h (by decide)⟩
    · rw [e5t hd]
      refine ⟨fun _ => r6n (by decide) ?_, fun q => absurd q (by decide)⟩
      refine q294 ?_
      rw [e201g, e250, e295, if_neg (n14 2), if_neg hd]
      exact ⟨fun q => absurd q (by decide), fun _ => tb_no h (by decide)⟩
end TBWAYS5
