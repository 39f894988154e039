/-! fits: the count, the call -/
section TBFITS5
variable {X : tb_X} {A B : tb_H} {K : Int → tb_H → Prop} {Kv : tb_H → Prop}
theorem td_sum_add {f g : Int → Int} {n : Int} (hn : 0 ≤ n) : tb_sum (fun i => f i + g i) n = tb_sum f n + tb_sum g n := by
  refine tb_indN (P := fun m => tb_sum (fun i => f i + g i) m = tb_sum f m + tb_sum g m) (N := n) rfl ?_ n hn (Int.le_refl _)
  intro i h0 h1 ih
  rw [tb_sum_s h0, tb_sum_s h0, tb_sum_s h0, ih]
  omega
theorem td_sum_cat {f : Int → Int} {a b : Int} (ha : 0 ≤ a) (hb : 0 ≤ b) : tb_sum f (a + b) = tb_sum f a + tb_sum (fun j => f (a + j)) b := by
  refine tb_indN (P := fun m => tb_sum f (a + m) = tb_sum f a + tb_sum (fun j => f (a + j)) m) (N := b) ?_ ?_ b hb (Int.le_refl _)
  · rw [Int.add_zero, tb_sum_0, Int.add_zero]
  · intro i h0 h1 ih
    rw [← Int.add_assoc, tb_sum_s (show 0 ≤ a + i by omega), tb_sum_s h0, ih]
    omega
theorem td_sum_mul {f : Int → Int} {a b : Int} (ha : 0 ≤ a) (hb : 0 ≤ b) : tb_sum f (b * a) = tb_sum (fun i => tb_sum (fun j => f (b * i + j)) b) a := by
  refine tb_indN (P := fun m => tb_sum f (b * m) = tb_sum (fun i => tb_sum (fun j => f (b * i + j)) b) m) (N := a) ?_ ?_ a ha (Int.le_refl _)
  · rw [Int.mul_zero]; rfl
  · intro i h0 h1 ih
    rw [Int.mul_add, Int.mul_one, td_sum_cat (Int.mul_nonneg hb h0) hb, tb_sum_s h0, ih]
theorem td_sum_swap {f : Int → Int → Int} {a b : Int} (ha : 0 ≤ a) (hb : 0 ≤ b) : tb_sum (fun i => tb_sum (fun j => f i j) b) a = tb_sum (fun j => tb_sum (fun i => f i j) a) b := by
  refine tb_indN (P := fun m => tb_sum (fun i => tb_sum (fun j => f i j) b) m = tb_sum (fun j => tb_sum (fun i => f i j) m) b) (N := a) ?_ ?_ a ha (Int.le_refl _)
  · rw [tb_sum_0]
    refine (tb_indN (P := fun m => 0 = tb_sum (fun j => tb_sum (fun i => f i j) 0) m) (N := b) rfl ?_ b hb (Int.le_refl _))
    intro i h0 h1 ih
    rw [tb_sum_s h0, ← ih]
    rfl
  · intro i h0 h1 ih
    rw [tb_sum_s h0, ih, ← td_sum_add hb]
    exact tb_sum_congr hb (fun j _ _ => (tb_sum_s h0).symm)
theorem td_cnt : tb_sum (fun s => td_bb (td_fs A 0 s)) 800 = tb_sum (td_cc A 0) 100 := by
  have g1 : tb_sum (fun s => td_bb (td_fs A 0 s)) 800 = tb_sum (fun c => tb_sum (fun h => td_bb (td_FA A 0 (c / 10) (c % 10) h)) 8) 100 := by
    rw [show (800 : Int) = 8 * 100 from rfl, td_sum_mul (by decide) (by decide)]
    refine tb_sum_congr (by decide) (fun c c0 c1 => ?_)
    refine tb_sum_congr (by decide) (fun h h0 h1 => ?_)
    unfold td_fs
    rw [show (8 * c + h) / 80 = c / 10 by omega, show (8 * c + h) / 8 % 10 = c % 10 by omega, show (8 * c + h) % 8 = h by omega]
  rw [g1, show (100 : Int) = 10 * 10 from rfl, td_sum_mul (f := td_cc A 0) (by decide) (by decide), td_sum_mul (by decide) (by decide), td_sum_swap (by decide) (by decide)]
  refine tb_sum_congr (by decide) (fun i i0 i1 => ?_)
  refine tb_sum_congr (by decide) (fun j j0 j1 => ?_)
  unfold td_cc
  rw [show (10 * j + i) / 10 = j by omega, show (10 * j + i) % 10 = i by omega, show (10 * i + j) % 10 = j by omega, show (10 * i + j) / 10 = i by omega]
theorem td_bb_n {b : Bool} : (if td_bb b = 0 then 0 else 1 : Int) = td_bb b := td_bn b
theorem sp303 (hG : tb_RG A) (hk : ∀ B, td_fr3 A B → td_bk A (B.1 99) → (∀ d, 0 ≤ d → d ≤ td_LA A → td_gr A (B.1 100) d) → K (tb_sum (td_cc A 0) 100) B) : tb_Ci X 303 [tb_r 77] A K := by
  have l := td_LAb hG
  refine q303 (sp304 hG (fun B f hb hr => ?_))
  have hk := hk B f hb hr
  rw [← td_cnt] at hk
  have h1 : ∀ i, 0 ≤ i → i ≤ 800 → 0 ≤ tb_sum (fun s => td_bb (td_fs A 0 s)) i ∧ tb_sum (fun s => td_bb (td_fs A 0 s)) i ≤ 800 := by
    intro i i0 i1
    have := tb_sum_bd (f := fun s => td_bb (td_fs A 0 s)) (c := 1) (N := 800) (n := i) i0 i1 (by decide) (fun j _ _ => by rcases td_bb01 (td_fs A 0 j) with e | e <;> simp only [e] <;> decide)
    omega
  refine tb_lp (E := fun i => tb_E X 303 8 [tb_r 77, tb_i (tb_sum (fun s => td_bb (td_fs A 0 s)) i), tb_i i] [] B (tb_Ri 303 K)) (n := 800) (by decide) ?_ ?_
  · exact q303_8 ⟨fun _ => hk, fun q => absurd q (by decide)⟩
  · intro i i0 i1 e
    have b := hb 0 (Int.le_refl _) l.1 i i0 i1
    rw [show 800 * 0 + i = i by omega] at b
    refine q303_8 ⟨fun q => absurd q (by omega), fun _ => ⟨⟨i0, by omega⟩, ?_⟩⟩
    rw [b, td_bb_n, tb_w_id (x := i + 1) (by omega) (by omega)]
    rw [tb_sum_s i0] at e
    have h2 := h1 i i0 (by omega)
    have h3 := td_bb01 (td_fs A 0 i)
    rw [tb_w_id (x := tb_sum (fun s => td_bb (td_fs A 0 s)) i + td_bb (td_fs A 0 i)) (by omega) (by omega)]
    exact e
theorem td_FA_cg (h1 : B.1 87 = A.1 87) (h2 : B.1 88 = A.1 88) (h3 : B.1 89 = A.1 89) (h4 : B.1 77 27 = A.1 77 27) : td_sA B = td_sA A ∧ td_LA B = td_LA A ∧ td_FA B = td_FA A ∧ td_cc B = td_cc A := by
  have a : td_sA B = td_sA A := by unfold td_sA; rw [h1, h2, h3, h4]
  have b : td_LA B = td_LA A := by unfold td_LA; rw [h1, h4]
  have c : td_FA B = td_FA A := by unfold td_FA; rw [a, b]
  exact ⟨a, b, c, by unfold td_cc; rw [c]⟩
theorem c165 (h : tb_Rel A) : tb_Ci X 165 [tb_r 0] A (tb_A2 X 302 [tb_r 77]) := by
  have hG := h.2.2.2.2.2.2.2.1
  refine q165 ?_
  rcases h.t01 with t | t
  · rw [if_neg (fun z => z (h.told.trans t))]
    refine r6n (by decide) ?_
    refine q302 ?_
    rw [e201g]
    exact ⟨fun _ => tb_no h (by decide), fun q => absurd (tb_g14.trans t) q⟩
  · have t0 : A.1 77 14 ≠ 0 := by rw [t]; decide
    rw [if_pos (by rw [h.told]; exact t0)]
    refine r6z ?_
    have f0 : tb_fr [] [(0, 13)] [] A (tb_upI A 0 13 0) := tb_fr.upI tb_fr.refl rfl
    refine sp166 (hG.fr f0 rfl) (fun B fB _ => ?_)
    have f1 : tb_fr [45] [(0, 13), (77, 0), (77, 11)] [] A (tb_upI (tb_upI B 77 0 0) 77 11 0) := tb_fr.upI (tb_fr.upI ((f0.mono rfl rfl rfl).trans (fB.mono rfl rfl rfl)) rfl) rfl
    have cg := td_FA_cg (A := tb_upI A 0 13 0) (B := tb_upI (tb_upI B 77 0 0) 77 11 0) (funext fun k => fB.1 87 k rfl rfl) (funext fun k => fB.1 88 k rfl rfl) (funext fun k => fB.1 89 k rfl rfl) (fB.1 77 27 rfl rfl)
    refine q302 ?_
    rw [e201]
    have a14 : (tb_upI (tb_upI B 77 0 0) 77 11 0).1 77 14 = A.1 77 14 := f1.1 77 14 rfl rfl
    refine ⟨fun q => absurd (a14.symm.trans q) t0, fun _ => ?_⟩
    refine sp303 (hG.fr f1 rfl) (fun C fC _ _ => ⟨by rw [cg.2.2.2], ?_⟩)
    have f2 : tb_fr [45, 99, 100] [(0, 13), (77, 0), (77, 11), (77, 28), (77, 29), (77, 30)] [] A C := (f1.mono rfl rfl rfl).trans (fC.mono rfl rfl rfl)
    have z13 : C.1 0 13 = 0 := (fC.1 0 13 rfl rfl).trans (fB.1 0 13 rfl rfl)
    have z11 : C.1 77 11 = 0 := fC.1 77 11 rfl rfl
    refine h.qy (f2.mono rfl rfl rfl) (by rw [z13, z11]) (by rw [z11]; decide) ?_
    have p := h.P
    unfold tb_RP at p ⊢
    rw [show C.2.2 38 = A.2.2 38 from funext fun k => f2.2.2 38 k rfl, show C.2.2 42 = A.2.2 42 from funext fun k => f2.2.2 42 k rfl]
    exact p
end TBFITS5
