/-! fits: the class's headings day by day -/
section TBFITS2
variable {X : tb_X} {A B : tb_H} {K : Int → tb_H → Prop} {Kv : tb_H → Prop}
def td_nb (f : Int → Int → Int → Bool) (x y h : Int) : Bool := f (tb_wx x y h) (tb_wy x y h) (tb_wh x y h)
def td_F (sn : Int → Int → Int → Bool) (L : Int) : Nat → Int → Int → Int → Bool
  | 0, x, y, _ => sn L x y
  | n + 1, x, y, h => sn (L - (n + 1)) x y && (td_nb (td_F sn L n) x y ((h + 0 + 7) % 8) || td_nb (td_F sn L n) x y ((h + 1 + 7) % 8) || td_nb (td_F sn L n) x y ((h + 2 + 7) % 8))
def td_sA (A : tb_H) (d x y : Int) : Bool := td_sn (A.1 87) (A.1 88) (A.1 89) d x y (A.1 77 27).toNat
def td_LA (A : tb_H) : Int := td_ls (A.1 87) 0 (A.1 77 27).toNat
def td_FA (A : tb_H) (d : Int) : Int → Int → Int → Bool := td_F (td_sA A) (td_LA A) (td_LA A - d).toNat
theorem td_FA_L (x y h : Int) : td_FA A (td_LA A) x y h = td_sA A (td_LA A) x y := by
  unfold td_FA
  rw [show (td_LA A - td_LA A).toNat = 0 by omega]
  rfl
theorem td_FA_s {d : Int} (h : d < td_LA A) (x y g : Int) : td_FA A d x y g = (td_sA A d x y && (td_nb (td_FA A (d + 1)) x y ((g + 0 + 7) % 8) || td_nb (td_FA A (d + 1)) x y ((g + 1 + 7) % 8) || td_nb (td_FA A (d + 1)) x y ((g + 2 + 7) % 8))) := by
  unfold td_FA
  obtain ⟨n, hn⟩ := Int.eq_ofNat_of_zero_le (show 0 ≤ td_LA A - (d + 1) by omega)
  rw [show (td_LA A - d).toNat = n + 1 by omega, show (td_LA A - (d + 1)).toNat = n by omega]
  show (td_sA A (td_LA A - (n + 1)) x y && _) = _
  rw [show td_LA A - ((n : Int) + 1) = d by omega]
theorem td_LAb (hG : tb_RG A) : 0 ≤ td_LA A ∧ td_LA A ≤ 20 := by
  have l := td_ls_b (A.1 77 27).toNat (fun i a b => (hG.2.2 i a (by have := hG.2.1; omega)).2.1)
  unfold td_LA
  rw [l.2.1]
  unfold tb_mx2
  have := l.1
  ((repeat' split) <;> omega)
def td_V (A B : tb_H) (d x y : Int) : Int := if td_sA A d x y = true then (if d = td_LA A then 255 else td_wd (td_ho (B.1 45) d x y)) else 0
def td_ok (A : tb_H) (r : Int → Int) (d : Int) : Prop := ∀ x y, 0 ≤ x → x ≤ 9 → 0 ≤ y → y ≤ 9 → (0 ≤ r (d * 100 + (y * 10 + x)) ∧ r (d * 100 + (y * 10 + x)) < 256) ∧ ∀ h, 0 ≤ h → h < 8 → td_at r d x y h = td_bb (td_FA A d x y h)
theorem td_Vb {d x y : Int} (d1 : d ≤ td_LA A) (x0 : 0 ≤ x) (x1 : x ≤ 9) (y0 : 0 ≤ y) (y1 : y ≤ 9) (hr : d < td_LA A → td_ok A (B.1 45) (d + 1)) : (0 ≤ td_V A B d x y ∧ td_V A B d x y < 256) ∧ ∀ h, 0 ≤ h → h < 8 → tb_bt (td_V A B d x y) h = td_bb (td_FA A d x y h) := by
  unfold td_V
  cases s : td_sA A d x y
  · rw [if_neg (by decide)]
    refine ⟨by decide, fun h h0 h1 => ?_⟩
    rw [(td_255 h0 h1).2]
    by_cases c : d = td_LA A
    · subst c; rw [td_FA_L, s]; rfl
    · rw [td_FA_s (by omega), s]; rfl
  · rw [if_pos rfl]
    by_cases c : d = td_LA A
    · rw [if_pos c]
      refine ⟨by decide, fun h h0 h1 => ?_⟩
      rw [(td_255 h0 h1).1]
      subst c; rw [td_FA_L, s]; rfl
    · rw [if_neg c]
      have hr := hr (by omega)
      have o := td_or8_b (fun h => decide (td_nx (td_at (B.1 45) (d + 1)) x y h = 1)) 8 (Nat.le_refl _)
      have w := td_wdf o.1.1 o.1.2
      refine ⟨w.1, fun h h0 h1 => ?_⟩
      have b : ∀ g, 0 ≤ g → g < 8 → (tb_bt (td_or8 (fun h => decide (td_nx (td_at (B.1 45) (d + 1)) x y h = 1)) 8) g = 1 ↔ td_nb (td_FA A (d + 1)) x y g = true) := by
        intro g g0 g1
        have wB := tb_wB (h := g) x0 x1 y0 y1 g0 (by omega)
        rw [o.2 g g0 g1]
        have e : td_nx (td_at (B.1 45) (d + 1)) x y g = td_bb (td_nb (td_FA A (d + 1)) x y g) := (hr _ _ wB.1.1 wB.1.2 wB.2.1.1 wB.2.1.2).2 _ wB.2.2.1 (by omega)
        rw [e]
        cases td_nb (td_FA A (d + 1)) x y g
        · rw [if_neg (fun z => absurd z.2 (by decide))]; decide
        · rw [if_pos ⟨by omega, by decide⟩]; decide
      rw [show tb_bt (td_wd (td_ho (B.1 45) d x y)) h = _ from w.2.2 h h0 h1, td_FA_s (by omega), s, Bool.true_and]
      have b0 := b ((h + 0 + 7) % 8) (by omega) (by omega)
      have b1 := b ((h + 1 + 7) % 8) (by omega) (by omega)
      have b2 := b ((h + 2 + 7) % 8) (by omega) (by omega)
      simp only [b0, b1, b2]
      cases td_nb (td_FA A (d + 1)) x y ((h + 0 + 7) % 8) <;> cases td_nb (td_FA A (d + 1)) x y ((h + 1 + 7) % 8) <;> cases td_nb (td_FA A (d + 1)) x y ((h + 2 + 7) % 8) <;> decide
theorem l166 (hG : tb_RG A) (f : tb_fr [45] [] [] A B) {d x y c2 : Int} {x5 : tb_V} {Q : tb_Q} (d0 : 0 ≤ d) (d1 : d ≤ td_LA A) (x0 : 0 ≤ x) (x1 : x ≤ 9) (y0 : 0 ≤ y) (y1 : y ≤ 9) {K : Int → tb_H → Prop}
    (hk : ∀ x5, tb_E X 166 18 [tb_r 42, tb_i (td_LA A), tb_i (tb_w (c2 + td_bc (td_V A B d x y))), tb_i d, tb_i (y * 10 + x + 1), x5] [] (tb_upI B 45 (d * 100 + (y * 10 + x)) (td_V A B d x y)) (tb_Ri 166 K)) : tb_E X 166 18 [tb_r 42, tb_i (td_LA A), tb_i c2, tb_i d, tb_i (y * 10 + x), x5] [] B (tb_Ri 166 K) := by
  have hB : tb_RG B := hG.fr f rfl
  have l := td_LAb hG
  have s : td_sn (B.1 87) (B.1 88) (B.1 89) d x y (B.1 77 27).toNat = td_sA A d x y := by
    rw [show B.1 87 = A.1 87 from funext (fun k => f.1 87 k rfl rfl), show B.1 88 = A.1 88 from funext (fun k => f.1 88 k rfl rfl), show B.1 89 = A.1 89 from funext (fun k => f.1 89 k rfl rfl), show B.1 77 27 = A.1 77 27 from f.1 77 27 rfl rfl]
    rfl
  refine q166_18 ⟨fun q => absurd q (by omega), fun _ => ⟨fun n => ?_, fun n => ?_⟩⟩
  · rw [e168 d0 (by omega) x0 x1 y0 y1, e172, e173 hB x0 x1 y0 y1, s]
    unfold td_V at hk
    rw [if_neg n] at hk
    cases c : td_sA A d x y
    · rw [c, if_neg (by decide)] at hk
      refine ⟨fun q => absurd rfl q, fun _ => ?_⟩
      rw [e171 d0 (by omega) (by omega) (by omega), tb_w_id (x := d * 100) (by omega) (by omega), tb_w_id (x := d * 100 + (y * 10 + x)) (by omega) (by omega), tb_w_id (x := y * 10 + x + 1) (by omega) (by omega)]
      exact ⟨fun q => absurd q (by decide), fun _ => ⟨⟨by omega, by omega⟩, by rw [e174]; exact hk _⟩⟩
    · rw [c, if_pos rfl] at hk
      refine ⟨fun _ => ?_, fun q => absurd q (by decide)⟩
      rw [e171 d0 (by omega) (by omega) (by omega), tb_w_id (x := d * 100) (by omega) (by omega), tb_w_id (x := d * 100 + (y * 10 + x)) (by omega) (by omega), tb_w_id (x := y * 10 + x + 1) (by omega) (by omega)]
      exact ⟨fun q => absurd q (by decide), fun _ => ⟨⟨by omega, by omega⟩, by rw [e174]; exact hk _⟩⟩
  · rw [e173 hB x0 x1 y0 y1, s]
    unfold td_V at hk
    rw [if_pos n] at hk
    cases c : td_sA A d x y
    · rw [c, if_neg (by decide)] at hk
      refine ⟨fun q => absurd rfl q, fun _ => ?_⟩
      rw [e171 d0 (by omega) (by omega) (by omega), tb_w_id (x := d * 100) (by omega) (by omega), tb_w_id (x := d * 100 + (y * 10 + x)) (by omega) (by omega), tb_w_id (x := y * 10 + x + 1) (by omega) (by omega)]
      exact ⟨fun q => absurd q (by decide), fun _ => ⟨⟨by omega, by omega⟩, by rw [e174]; exact hk _⟩⟩
    · rw [c, if_pos rfl] at hk
      refine ⟨fun _ => ?_, fun q => absurd q (by decide)⟩
      rw [e171 d0 (by omega) (by omega) (by omega), tb_w_id (x := d * 100) (by omega) (by omega), tb_w_id (x := d * 100 + (y * 10 + x)) (by omega) (by omega), tb_w_id (x := y * 10 + x + 1) (by omega) (by omega)]
      exact ⟨fun q => absurd q (by decide), fun _ => ⟨⟨by omega, by omega⟩, by rw [e174]; exact hk _⟩⟩
def td_cc (A : tb_H) (d c : Int) : Int := tb_sum (fun h => td_bb (td_FA A d (c % 10) (c / 10) h)) 8
theorem td_ccB (d c : Int) : 0 ≤ td_cc A d c ∧ td_cc A d c ≤ 8 := by
  have := tb_sum_bd (f := fun h => td_bb (td_FA A d (c % 10) (c / 10) h)) (c := 1) (N := 8) (n := 8) (by decide) (by decide) (by decide) (fun i _ _ => by rcases td_bb01 (td_FA A d (c % 10) (c / 10) i) with e | e <;> simp only [e] <;> decide)
  unfold td_cc
  omega
/-- one day of the class -/
theorem l166r (hG : tb_RG A) (f : tb_fr [45] [] [] A B) {d : Int} {x5 : tb_V} (d0 : 0 ≤ d) (d1 : d ≤ td_LA A) (hr : ∀ d', d < d' → d' ≤ td_LA A → td_ok A (B.1 45) d')
    (hk : ∀ B1 x5, tb_fr [45] [] [] A B1 → (∀ d', d ≤ d' → d' ≤ td_LA A → td_ok A (B1.1 45) d') → tb_E X 166 18 [tb_r 42, tb_i (td_LA A), tb_i (tb_sum (td_cc A d) 100), tb_i d, tb_i 100, x5] [] B1 (tb_Ri 166 K)) : tb_E X 166 18 [tb_r 42, tb_i (td_LA A), tb_i 0, tb_i d, tb_i 0, x5] [] B (tb_Ri 166 K) := by
  have l := td_LAb hG
  have key : ∀ B x5, tb_fr [45] [] [] A B → (∀ d', d < d' → d' ≤ td_LA A → td_ok A (B.1 45) d') → (∀ c, 0 ≤ c → c < 0 → (0 ≤ B.1 45 (d * 100 + c) ∧ B.1 45 (d * 100 + c) < 256) ∧ ∀ h, 0 ≤ h → h < 8 → tb_bt (B.1 45 (d * 100 + c)) h = td_bb (td_FA A d (c % 10) (c / 10) h)) → tb_E X 166 18 [tb_r 42, tb_i (td_LA A), tb_i (tb_sum (td_cc A d) 0), tb_i d, tb_i 0, x5] [] B (tb_Ri 166 K) := by
    refine tb_lp (E := fun i => ∀ B x5, tb_fr [45] [] [] A B → (∀ d', d < d' → d' ≤ td_LA A → td_ok A (B.1 45) d') → (∀ c, 0 ≤ c → c < i → (0 ≤ B.1 45 (d * 100 + c) ∧ B.1 45 (d * 100 + c) < 256) ∧ ∀ h, 0 ≤ h → h < 8 → tb_bt (B.1 45 (d * 100 + c)) h = td_bb (td_FA A d (c % 10) (c / 10) h)) → tb_E X 166 18 [tb_r 42, tb_i (td_LA A), tb_i (tb_sum (td_cc A d) i), tb_i d, tb_i i, x5] [] B (tb_Ri 166 K)) (n := 100) (by decide) ?_ ?_
    · intro B x5 f hr hc
      refine hk B x5 f (fun d' a b => ?_)
      by_cases e : d' = d
      · subst e
        intro x y x0 x1 y0 y1
        have g := hc (y * 10 + x) (by omega) (by omega)
        refine ⟨g.1, fun h h0 h1 => ?_⟩
        have g2 := g.2 h h0 h1
        rw [show (y * 10 + x) % 10 = x by omega, show (y * 10 + x) / 10 = y by omega] at g2
        exact g2
      · exact hr d' (by omega) b
    · intro i i0 i1 ih B x5 f hr hc
      obtain ⟨x, hx⟩ : ∃ x, x = i % 10 := ⟨_, rfl⟩
      obtain ⟨y, hy⟩ : ∃ y, y = i / 10 := ⟨_, rfl⟩
      have hi : i = y * 10 + x := by omega
      have v := td_Vb (A := A) (B := B) (x := x) (y := y) d1 (by omega) (by omega) (by omega) (by omega) (fun q => hr (d + 1) (by omega) (by omega))
      have w := td_wdf v.1.1 v.1.2
      have cb : td_bc (td_V A B d x y) = td_cc A d i := by
        rw [w.2.1]
        unfold td_cc
        rw [← hx, ← hy]
        exact tb_sum_congr (by decide) (fun h h0 h1 => v.2 h h0 h1)
      have sb := tb_sum_bd (f := td_cc A d) (c := 8) (N := 100) (n := i) i0 (by omega) (by decide) (fun j _ _ => td_ccB d j)
      have c8 := td_ccB (A := A) d i
      have ih := fun B' x5 => ih B' x5
      rw [tb_sum_s i0] at ih
      have ii : (tb_i i : tb_V) = tb_i (y * 10 + x) := by rw [← hi]
      rw [ii]
      refine l166 hG f (Q := tb_Ri 166 K) d0 d1 (by omega) (by omega) (by omega) (by omega) (fun x5 => ?_)
      rw [cb, tb_w_id (x := tb_sum (td_cc A d) i + td_cc A d i) (by omega) (by omega), ← hi]
      refine ih _ x5 (tb_fr.upI f rfl) (fun d' a b x' y' x0 x1 y0 y1 => ?_) (fun c c0 c1 => ?_)
      · have e : (tb_upI B 45 (d * 100 + i) (td_V A B d x y)).1 45 (d' * 100 + (y' * 10 + x')) = B.1 45 (d' * 100 + (y' * 10 + x')) := if_neg (fun z => by omega)
        unfold td_at
        rw [e]
        exact hr d' a b x' y' x0 x1 y0 y1
      · by_cases e : c = i
        · subst e
          rw [show (tb_upI B 45 (d * 100 + c) (td_V A B d x y)).1 45 (d * 100 + c) = td_V A B d x y from if_pos ⟨rfl, rfl⟩, ← hx, ← hy]
          exact v
        · rw [show (tb_upI B 45 (d * 100 + i) (td_V A B d x y)).1 45 (d * 100 + c) = B.1 45 (d * 100 + c) from if_neg (fun z => by omega)]
          exact hc c c0 (by omega)
  exact key B x5 f hr (fun c a b => absurd b (by omega))
theorem sp166 (hG : tb_RG A) (hk : ∀ B, tb_fr [45] [] [] A B → (∀ d, 0 ≤ d → d ≤ td_LA A → td_ok A (B.1 45) d) → K (tb_sum (td_cc A 0) 100) B) : tb_Ci X 166 [tb_r 42] A K := by
  have l := td_LAb hG
  refine q166 ?_
  rw [e167 hG]
  have key : ∀ B c2 x4 x5, tb_fr [45] [] [] A B → (∀ d', td_LA A + 1 - 1 < d' → d' ≤ td_LA A → td_ok A (B.1 45) d') → (td_LA A + 1 - 1 < td_LA A → c2 = tb_sum (td_cc A (td_LA A + 1 - 1 + 1)) 100) → tb_E X 166 9 [tb_r 42, tb_i (td_LA A), tb_i c2, tb_i (td_LA A + 1 - 1), x4, x5] [] B (tb_Ri 166 K) := by
    refine tb_ld (E := fun d => ∀ B c2 x4 x5, tb_fr [45] [] [] A B → (∀ d', d < d' → d' ≤ td_LA A → td_ok A (B.1 45) d') → (d < td_LA A → c2 = tb_sum (td_cc A (d + 1)) 100) → tb_E X 166 9 [tb_r 42, tb_i (td_LA A), tb_i c2, tb_i d, x4, x5] [] B (tb_Ri 166 K)) (n := td_LA A + 1) (by omega) ?_ ?_
    · intro B c2 x4 x5 f hr hc
      refine q166_9 ⟨fun _ => ?_, fun q => absurd q (by decide)⟩
      rw [hc (by omega)]
      exact hk B f (fun d a b => hr d (by omega) b)
    · intro d d0 d1 ih B c2 x4 x5 f hr hc
      refine q166_9 ⟨fun q => absurd q (by omega), fun _ => ?_⟩
      refine l166r hG f d0 (by omega) hr (fun B1 x5 f1 h1 => ?_)
      refine q166_18 ⟨fun _ => ?_, fun q => absurd q (by decide)⟩
      rw [tb_w_id (x := d + -1) (by omega) (by omega)]
      refine ih B1 _ _ _ f1 (fun d' a b => h1 d' (by omega) b) (fun _ => ?_)
      rw [show d - 1 + 1 = d by omega]
  rw [show td_LA A + 1 - 1 = td_LA A by omega] at key
  exact key A 0 _ _ tb_fr.refl (fun d' a b => absurd b (by omega)) (fun q => absurd q (by omega))
end TBFITS2
