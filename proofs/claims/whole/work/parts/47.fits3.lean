/-! fits: the reference's two tables -/
section TBFITS3
variable {X : tb_X} {A B : tb_H} {K : Int → tb_H → Prop} {Kv : tb_H → Prop}
abbrev td_fr3 (A B : tb_H) : Prop := tb_fr [99, 100] [(77, 28), (77, 29), (77, 30)] [] A B
theorem td_RG3 (hG : tb_RG A) (f : td_fr3 A B) : tb_RG B := hG.fr f rfl
theorem td_sA3 (f : td_fr3 A B) (d x y : Int) : td_sn (B.1 87) (B.1 88) (B.1 89) d x y (B.1 77 27).toNat = td_sA A d x y := by
  rw [show B.1 87 = A.1 87 from funext (fun k => f.1 87 k rfl rfl), show B.1 88 = A.1 88 from funext (fun k => f.1 88 k rfl rfl), show B.1 89 = A.1 89 from funext (fun k => f.1 89 k rfl rfl), show B.1 77 27 = A.1 77 27 from f.1 77 27 rfl rfl]
  rfl
def td_af (s t : Int) : Int := (tb_wx (s / 80) (s / 8 % 10) ((s % 8 + t + 7) % 8) * 10 + tb_wy (s / 80) (s / 8 % 10) ((s % 8 + t + 7) % 8)) * 8 + tb_wh (s / 80) (s / 8 % 10) ((s % 8 + t + 7) % 8)
theorem td_afB {s t : Int} (s0 : 0 ≤ s) (s1 : s < 800) (t0 : 0 ≤ t) (t1 : t ≤ 2) : 0 ≤ td_af s t ∧ td_af s t < 800 ∧ td_af s t / 80 = tb_wx (s / 80) (s / 8 % 10) ((s % 8 + t + 7) % 8) ∧ td_af s t / 8 % 10 = tb_wy (s / 80) (s / 8 % 10) ((s % 8 + t + 7) % 8) ∧ td_af s t % 8 = tb_wh (s / 80) (s / 8 % 10) ((s % 8 + t + 7) % 8) := by
  have w := tb_wB (x := s / 80) (y := s / 8 % 10) (h := (s % 8 + t + 7) % 8) (by omega) (by omega) (by omega) (by omega) (by omega) (by omega)
  unfold td_af
  refine ⟨?_, ?_, ?_, ?_, ?_⟩ <;> omega
theorem e292s {s t : Int} (s0 : 0 ≤ s) (s1 : s < 800) (t0 : 0 ≤ t) (t1 : t ≤ 2) (hk : ∀ B, tb_fr [] [(77, 28), (77, 29), (77, 30)] [] A B → K (td_af s t) B) : tb_Ci X 292 [tb_r 77, tb_i s, tb_i t] A K := by
  have e : (tb_i s : tb_V) = tb_i ((s / 80 * 10 + s / 8 % 10) * 8 + s % 8) := by congr 1; omega
  rw [e, e292 (by omega) (by omega) (by omega) (by omega) (by omega) (by omega) t0 t1]
  refine hk _ ?_
  refine tb_fr.upI ?_ rfl
  refine tb_fr.upI ?_ rfl
  exact tb_fr.upI tb_fr.refl rfl
theorem e306s (hG : tb_RG A) (f : td_fr3 A B) {s d : Int} (s0 : 0 ≤ s) (s1 : s < 800) : tb_Ci X 306 [tb_r 77, tb_i s, tb_i d] B K = K (td_bb (td_sA A d (s / 80) (s / 8 % 10))) B := by
  have e : (tb_i s : tb_V) = tb_i ((s / 80 * 10 + s / 8 % 10) * 8 + s % 8) := by congr 1; omega
  rw [e, e306 (td_RG3 hG f) (by omega) (by omega) (by omega) (by omega) (by omega) (by omega), td_sA3 f]
def td_fs (A : tb_H) (d s : Int) : Bool := td_FA A d (s / 80) (s / 8 % 10) (s % 8)
def td_ss (A : tb_H) (d s : Int) : Bool := td_sA A d (s / 80) (s / 8 % 10)
theorem td_fs_L (s : Int) : td_fs A (td_LA A) s = td_ss A (td_LA A) s := td_FA_L _ _ _
theorem td_fs_s {d s : Int} (h : d < td_LA A) (s0 : 0 ≤ s) (s1 : s < 800) : td_fs A d s = (td_ss A d s && (td_fs A (d + 1) (td_af s 0) || td_fs A (d + 1) (td_af s 1) || td_fs A (d + 1) (td_af s 2))) := by
  have a0 := td_afB s0 s1 (t := 0) (by decide) (by decide)
  have a1 := td_afB s0 s1 (t := 1) (by decide) (by decide)
  have a2 := td_afB s0 s1 (t := 2) (by decide) (by decide)
  unfold td_fs td_ss
  rw [td_FA_s h, a0.2.2.1, a0.2.2.2.1, a0.2.2.2.2, a1.2.2.1, a1.2.2.2.1, a1.2.2.2.2, a2.2.2.1, a2.2.2.2.1, a2.2.2.2.2]
  rfl
theorem td_ixw {d s : Int} (d0 : 0 ≤ d) (d1 : d ≤ 20) (s0 : 0 ≤ s) (s1 : s < 800) : tb_w (tb_w (800 * d) + s) = 800 * d + s := by
  rw [tb_w_id (x := 800 * d) (by omega) (by omega), tb_w_id (by omega) (by omega)]
theorem td_bn (b : Bool) : (if td_bb b = 0 then 0 else 1 : Int) = td_bb b := by cases b <;> decide
/-- one state, from the end of its turns -/
theorem l304e (hG : tb_RG A) (f : td_fr3 A B) {d s fl t : Int} (d0 : 0 ≤ d) (d1 : d ≤ 20) (s0 : 0 ≤ s) (s1 : s < 800) (ht : fl ≠ 0 ∨ 3 ≤ t)
    (hk : tb_E X 304 17 [tb_r 77, tb_i (td_LA A), tb_i d, tb_i (s + 1), tb_i fl, tb_i t] [] (tb_upI B 99 (800 * d + s) (if fl = 0 then 0 else td_bb (td_ss A d s))) (tb_Rv 304 Kv)) : tb_E X 304 39 [tb_r 77, tb_i (td_LA A), tb_i d, tb_i s, tb_i fl, tb_i t] [] B (tb_Rv 304 Kv) := by
  have a : fl = 0 → (0 ≤ tb_w (tb_w (800 * d) + s) ∧ tb_w (tb_w (800 * d) + s) < 16800) ∧ tb_E X 304 17 [tb_r 77, tb_i (td_LA A), tb_i d, tb_i (tb_w (s + 1)), tb_i fl, tb_i t] [] (tb_upI B 99 (tb_w (tb_w (800 * d) + s)) 0) (tb_Rv 304 Kv) := by
    intro z
    rw [td_ixw d0 d1 s0 s1, tb_w_id (x := s + 1) (by omega) (by omega)]
    rw [if_pos z] at hk
    exact ⟨⟨by omega, by omega⟩, hk⟩
  have b : fl ≠ 0 → tb_Ci X 306 [tb_r 77, tb_i s, tb_i d] B (fun v B1 => (0 ≤ tb_w (tb_w (800 * d) + s) ∧ tb_w (tb_w (800 * d) + s) < 16800) ∧ tb_E X 304 17 [tb_r 77, tb_i (td_LA A), tb_i d, tb_i (tb_w (s + 1)), tb_i fl, tb_i t] [] (tb_upI B1 99 (tb_w (tb_w (800 * d) + s)) (if v = 0 then 0 else 1 : Int)) (tb_Rv 304 Kv)) := by
    intro z
    rw [e306s hG f s0 s1, td_ixw d0 d1 s0 s1, tb_w_id (x := s + 1) (by omega) (by omega), td_bn]
    rw [if_neg z] at hk
    exact ⟨⟨by omega, by omega⟩, hk⟩
  exact q304_39 ⟨fun _ => ⟨a, b⟩, fun q => ⟨fun _ => ⟨a, b⟩, fun z => by rcases ht with y | y; exact absurd z y; omega⟩⟩
/-- one state of a day before the last -/
theorem l304t (hG : tb_RG A) (f : td_fr3 A B) {d s : Int} (d0 : 0 ≤ d) (d1 : d < td_LA A) (s0 : 0 ≤ s) (s1 : s < 800) (hr : ∀ s, 0 ≤ s → s < 800 → B.1 99 (800 * (d + 1) + s) = td_bb (td_fs A (d + 1) s))
    (hk : ∀ B1 x4 x5, tb_fr [] [(77, 28), (77, 29), (77, 30)] [] B B1 → tb_E X 304 17 [tb_r 77, tb_i (td_LA A), tb_i d, tb_i (s + 1), x4, x5] [] (tb_upI B1 99 (800 * d + s) (td_bb (td_fs A d s))) (tb_Rv 304 Kv)) : tb_E X 304 39 [tb_r 77, tb_i (td_LA A), tb_i d, tb_i s, tb_i 0, tb_i 0] [] B (tb_Rv 304 Kv) := by
  have l := td_LAb hG
  have fs := td_fs_s d1 s0 s1
  have step : ∀ t B1, 0 ≤ t → t ≤ 2 → tb_fr [] [(77, 28), (77, 29), (77, 30)] [] B B1 → (∀ B2, tb_fr [] [(77, 28), (77, 29), (77, 30)] [] B B2 → tb_E X 304 39 [tb_r 77, tb_i (td_LA A), tb_i d, tb_i s, tb_i (td_bb (td_fs A (d + 1) (td_af s t))), tb_i (t + 1)] [] B2 (tb_Rv 304 Kv)) → tb_E X 304 39 [tb_r 77, tb_i (td_LA A), tb_i d, tb_i s, tb_i 0, tb_i t] [] B1 (tb_Rv 304 Kv) := by
    intro t B1 t0 t2 f1 e
    have af := td_afB s0 s1 t0 t2
    refine q304_39 ⟨fun q => absurd q (by omega), fun _ => ⟨fun q => absurd rfl q, fun _ => ?_⟩⟩
    refine e292s s0 s1 t0 t2 (fun B2 f2 => ?_)
    rw [tb_w_id (x := d + 1) (by omega) (by omega), td_ixw (d := d + 1) (by omega) (by omega) af.1 af.2.1, tb_w_id (x := t + 1) (by omega) (by omega)]
    have f3 := f1.trans f2
    rw [show B2.1 99 (800 * (d + 1) + td_af s t) = td_bb (td_fs A (d + 1) (td_af s t)) from (f3.1 99 _ rfl rfl).trans (hr _ af.1 af.2.1)]
    exact ⟨⟨by omega, by omega⟩, e B2 f3⟩
  have fin : ∀ t B1 b, tb_fr [] [(77, 28), (77, 29), (77, 30)] [] B B1 → (b = true ∨ 3 ≤ t) → td_fs A d s = (td_ss A d s && b) → tb_E X 304 39 [tb_r 77, tb_i (td_LA A), tb_i d, tb_i s, tb_i (td_bb b), tb_i t] [] B1 (tb_Rv 304 Kv) := by
    intro t B1 b f1 hb e
    refine l304e hG (f.trans (f1.mono rfl rfl rfl)) d0 (by omega) s0 s1 (hb.imp (fun z => by rw [z]; decide) id) ?_
    have g := hk B1 (tb_i (td_bb b)) (tb_i t) f1
    rw [e] at g
    cases b
    · rw [Bool.and_false] at g
      exact g
    · rw [Bool.and_true] at g
      exact g
  refine step 0 B (by decide) (by decide) tb_fr.refl (fun B1 f1 => ?_)
  cases c0 : td_fs A (d + 1) (td_af s 0)
  · refine step 1 B1 (by decide) (by decide) f1 (fun B2 f2 => ?_)
    cases c1 : td_fs A (d + 1) (td_af s 1)
    · refine step 2 B2 (by decide) (by decide) f2 (fun B3 f3 => ?_)
      refine fin 3 B3 _ f3 (Or.inr (by decide)) ?_
      rw [fs, c0, c1]; rfl
    · refine fin 2 B2 true f2 (Or.inl rfl) ?_
      rw [fs, c0, c1]; rfl
  · refine fin 1 B1 true f1 (Or.inl rfl) ?_
    rw [fs, c0]; rfl
/-- one day -/
theorem l304r (hG : tb_RG A) {d : Int} (d0 : 0 ≤ d) (d1 : d ≤ td_LA A)
    (hk : ∀ B x4 x5, td_fr3 A B → (∀ d', d ≤ d' → d' ≤ td_LA A → ∀ s, 0 ≤ s → s < 800 → B.1 99 (800 * d' + s) = td_bb (td_fs A d' s)) → tb_E X 304 17 [tb_r 77, tb_i (td_LA A), tb_i d, tb_i 800, x4, x5] [] B (tb_Rv 304 Kv)) :
    ∀ B x4 x5, td_fr3 A B → (∀ d', d < d' → d' ≤ td_LA A → ∀ s, 0 ≤ s → s < 800 → B.1 99 (800 * d' + s) = td_bb (td_fs A d' s)) → (∀ s, 0 ≤ s → s < 0 → B.1 99 (800 * d + s) = td_bb (td_fs A d s)) → tb_E X 304 17 [tb_r 77, tb_i (td_LA A), tb_i d, tb_i 0, x4, x5] [] B (tb_Rv 304 Kv) := by
  have l := td_LAb hG
  refine tb_lp (E := fun i => ∀ B x4 x5, td_fr3 A B → (∀ d', d < d' → d' ≤ td_LA A → ∀ s, 0 ≤ s → s < 800 → B.1 99 (800 * d' + s) = td_bb (td_fs A d' s)) → (∀ s, 0 ≤ s → s < i → B.1 99 (800 * d + s) = td_bb (td_fs A d s)) → tb_E X 304 17 [tb_r 77, tb_i (td_LA A), tb_i d, tb_i i, x4, x5] [] B (tb_Rv 304 Kv)) (n := 800) (by decide) ?_ ?_
  · intro B x4 x5 f hr hc
    refine hk B x4 x5 f (fun d' a b => ?_)
    by_cases e : d' = d
    · rw [e]; exact hc
    · exact hr d' (by omega) b
  · intro i i0 i1 ih B x4 x5 f hr hc
    have ih2 : ∀ B1 x4 x5, tb_fr [] [(77, 28), (77, 29), (77, 30)] [] B B1 → tb_E X 304 17 [tb_r 77, tb_i (td_LA A), tb_i d, tb_i (i + 1), x4, x5] [] (tb_upI B1 99 (800 * d + i) (td_bb (td_fs A d i))) (tb_Rv 304 Kv) := by
      intro B1 x4 x5 f1
      refine ih _ x4 x5 (tb_fr.upI (f.trans (f1.mono rfl rfl rfl)) rfl) (fun d' a b s s0 s1 => ?_) (fun s s0 s1 => ?_)
      · rw [show (tb_upI B1 99 (800 * d + i) (td_bb (td_fs A d i))).1 99 (800 * d' + s) = B1.1 99 (800 * d' + s) from if_neg (fun z => by omega), f1.1 99 _ rfl rfl]
        exact hr d' a b s s0 s1
      · by_cases e : s = i
        · rw [e]; exact if_pos ⟨rfl, rfl⟩
        · rw [show (tb_upI B1 99 (800 * d + i) (td_bb (td_fs A d i))).1 99 (800 * d + s) = B1.1 99 (800 * d + s) from if_neg (fun z => by omega), f1.1 99 _ rfl rfl]
          exact hc s s0 (by omega)
    refine q304_17 ⟨fun q => absurd q (by omega), fun _ => ?_⟩
    by_cases e : d = td_LA A
    · rw [if_neg (fun z => z e)]
      refine l304e hG f d0 (by omega) i0 i1 (Or.inl (by decide)) ?_
      have g := ih2 B (tb_i 1) (tb_i 0) tb_fr.refl
      rw [e] at g
      rw [td_fs_L] at g
      rw [e]
      exact g
    · rw [if_pos e]
      exact l304t hG f d0 (by omega) i0 i1 (hr (d + 1) (by omega) (by omega)) ih2
/-- forward: reached from some state before -/
def td_gp (A : tb_H) : Nat → Int → Prop
  | 0, s => td_ss A 0 s = true
  | n + 1, s => td_ss A (n + 1) s = true ∧ ∃ s' t, (0 ≤ s' ∧ s' < 800) ∧ (0 ≤ t ∧ t ≤ 2) ∧ td_gp A n s' ∧ td_af s' t = s
def td_gr (A : tb_H) (r : Int → Int) (d : Int) : Prop := ∀ s, 0 ≤ s → s < 800 → (r (800 * d + s) ≠ 0 ↔ td_gp A d.toNat s)
def td_bk (A : tb_H) (r : Int → Int) : Prop := ∀ d', 0 ≤ d' → d' ≤ td_LA A → ∀ s, 0 ≤ s → s < 800 → r (800 * d' + s) = td_bb (td_fs A d' s)
/-- the first table done -/
theorem l304b (hG : tb_RG A) (hk : ∀ B x3 x4 x5, td_fr3 A B → td_bk A (B.1 99) → tb_E X 304 123 [tb_r 77, tb_i (td_LA A), tb_i 0, x3, x4, x5] [] B (tb_Rv 304 Kv)) : tb_Cv X 304 [tb_r 77] A Kv := by
  have l := td_LAb hG
  refine q304 ?_
  rw [e305 hG, e240]
  have lb := td_ls_b (r := A.1 87) (A.1 77 27).toNat (fun i a b => (hG.2.2 i a (by have := hG.2.1; omega)).2.1)
  rw [← lb.2.1]
  have key : ∀ B x3 x4 x5, td_fr3 A B → (∀ d', td_LA A + 1 - 1 < d' → d' ≤ td_LA A → ∀ s, 0 ≤ s → s < 800 → B.1 99 (800 * d' + s) = td_bb (td_fs A d' s)) → tb_E X 304 11 [tb_r 77, tb_i (td_LA A), tb_i (td_LA A + 1 - 1), x3, x4, x5] [] B (tb_Rv 304 Kv) := by
    refine tb_ld (E := fun d => ∀ B x3 x4 x5, td_fr3 A B → (∀ d', d < d' → d' ≤ td_LA A → ∀ s, 0 ≤ s → s < 800 → B.1 99 (800 * d' + s) = td_bb (td_fs A d' s)) → tb_E X 304 11 [tb_r 77, tb_i (td_LA A), tb_i d, x3, x4, x5] [] B (tb_Rv 304 Kv)) (n := td_LA A + 1) (by omega) ?_ ?_
    · intro B x3 x4 x5 f hr
      exact q304_11 ⟨fun _ => hk B _ _ _ f (fun d a b => hr d (by omega) b), fun q => absurd q (by decide)⟩
    · intro d d0 d1 ih B x3 x4 x5 f hr
      refine q304_11 ⟨fun q => absurd q (by omega), fun _ => ?_⟩
      refine l304r hG d0 (by omega) (fun B1 x4 x5 f1 h1 => ?_) B x4 x5 f hr (fun s a b => absurd b (by omega))
      refine q304_17 ⟨fun _ => ?_, fun q => absurd q (by decide)⟩
      rw [tb_w_id (x := d + -1) (by omega) (by omega)]
      exact ih B1 _ _ _ f1 (fun d' a b => h1 d' (by omega) b)
  rw [show td_LA A + 1 - 1 = td_LA A by omega] at key
  exact key A _ _ _ tb_fr.refl (fun d' a b => absurd b (by omega))
end TBFITS3
