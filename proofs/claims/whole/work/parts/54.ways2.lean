/-! ways: the reference, whole -/
section TBWAYS2
variable {X : tb_X} {A B : tb_H} {K : Int → tb_H → Prop} {Kv : tb_H → Prop}
theorem td_nvc {N : Int} {e a b : Int → Int} {G G' : (Int → Int) → Int} (N0 : 0 ≤ N) (h : td_nv N e a G) (hab : ∀ z, 0 ≤ z → z < N → b z = a z) (hg : ∀ φ, G φ = G' φ) : td_nv N e b G' := by
  refine ⟨fun z z0 z1 => ?_, fun φ => ?_⟩
  · rw [hab z z0 z1]; exact h.1 z z0 z1
  · rw [← hg φ, ← h.2 φ]
    exact tb_sum_congr N0 (fun i i0 i1 => by show b i * φ (e i) = a i * φ (e i); rw [hab i i0 i1])
theorem td_nvz {N : Int} {e a : Int → Int} (N0 : 0 ≤ N) (h : ∀ z, 0 ≤ z → z < N → a z = 0) : td_nv N e a (fun _ => 0) := by
  refine ⟨fun z z0 z1 => by rw [h z z0 z1]; exact Int.le_refl _, fun φ => ?_⟩
  refine tb_indN (P := fun m => tb_sum (fun z => a z * φ (e z)) m = 0) (N := N) rfl (fun i i0 i1 ih => ?_) N N0 (Int.le_refl _)
  rw [tb_sum_s i0, ih, h i i0 i1]
  omega
def td_PP (tg : Int → Int → Int) (φ : Int → Int) (j : Int) : Int := φ (tg j 0) + φ (tg j 1) + φ (tg j 2)
def td_GG (tg : Int → Int → Int) (cur : Int → Int) (i : Int) (φ : Int → Int) : Int := tb_sum (fun j => cur j * td_PP tg φ j) i
theorem td_lc {c : Int} (h : 0 ≤ c) : tb_lcmp c 0 = 0 ↔ c = 0 := by
  unfold tb_lcmp
  rw [if_neg (by omega)]
  split <;> omega
/-- one state -/
theorem l296s (M : tc_M A) {d : Nat} {ln days i : Int} (f : td_frw A B) (hd : 1 ≤ d ∧ d ≤ 12) (hln : ln = tb_lean (A.1 80) (A.1 82) (fun f => A.1 82 (31 + f)) 9 (A.1 80 0)) (i0 : 0 ≤ i) (i1 : i < 11200) {x5 x6 x7 x8 x9 x10 x11 : tb_V} (hc : ∀ z, 0 ≤ z → z < 11200 → 0 ≤ B.2.1 96 z) (hT : tb_sum (B.2.1 96) 11200 ≤ 531441) (hn : td_nv 11200 id (B.2.1 97) (td_GG (td_tg (A.1 80) (A.1 82 8) ln (A.1 82 3) d) (B.2.1 96) i))
    (hk : ∀ B1 x5 x6 x7 x8 x9 x10 x11, td_frw A B1 → B1.2.1 96 = B.2.1 96 → td_nv 11200 id (B1.2.1 97) (td_GG (td_tg (A.1 80) (A.1 82 8) ln (A.1 82 3) d) (B.2.1 96) (i + 1)) → tb_E X 296 95 [tb_r 77, tb_i days, tb_i (tb_lng (A.1 80) (A.1 82 8) ln), tb_i d, tb_i (i + 1), x5, x6, x7, x8, x9, x10, x11] [] B1 (tb_Rv 296 Kv)) :
    tb_E X 296 95 [tb_r 77, tb_i days, tb_i (tb_lng (A.1 80) (A.1 82 8) ln), tb_i d, tb_i i, x5, x6, x7, x8, x9, x10, x11] [] B (tb_Rv 296 Kv) := by
  have e80 : B.1 80 = A.1 80 := funext fun k => f.1 80 k rfl rfl
  have e82 : B.1 82 = A.1 82 := funext fun k => f.1 82 k rfl rfl
  have z9 := M.s0
  have ci := hc i i0 i1
  have t3 := td_t3 hc i0 i1
  refine q296_95 ⟨fun q => absurd q (by omega), fun _ => ⟨⟨i0, i1⟩, fun n => ?_, fun n => ?_⟩⟩
  · rw [Int.tmod_eq_emod_of_nonneg i0, Int.tdiv_eq_ediv_of_nonneg i0, tb_w_id (x := i / 14) (by omega) (by omega), tb_w_id (x := i % 14 + 1) (by omega) (by omega), e80, e82, tb_w_id (x := A.1 82 3 + (d : Int)) (by omega) (by omega)]
    show tb_E X 296 187 [tb_r 77, tb_i days, tb_i (tb_lng (A.1 80) (A.1 82 8) ln), tb_i d, tb_i i, tb_i (i % 14), tb_i (i / 14), tb_i (td_hu (A.1 82 3) (i % 14) d), tb_i (if td_hu (A.1 82 3) (i % 14) d < A.1 80 5 then 0 else (if A.1 80 116 ≤ 0 then 0 else 1 : Int) : Int), tb_i 0, x10, x11] [] B (tb_Rv 296 Kv)
    have g1 : td_GG (td_tg (A.1 80) (A.1 82 8) ln (A.1 82 3) d) (B.2.1 96) i (fun _ => 1) = tb_sum (fun j => B.2.1 96 j * (1 + 1 + 1)) i := rfl
    refine l296t M f hd hln i0 i1 (by decide) (by decide) hn ci (by rw [g1]; omega) (fun B1 x10 x11 f1 c1 n1 => ?_)
    refine l296t M f1 hd hln i0 i1 (by decide) (by decide) n1 (by rw [c1]; exact ci) (by rw [c1]; show td_GG _ _ i (fun _ => 1) + B.2.1 96 i * 1 + B.2.1 96 i ≤ 2000000; rw [g1]; omega) (fun B2 x10 x11 f2 c2 n2 => ?_)
    refine l296t M f2 hd hln i0 i1 (by decide) (by decide) n2 (by rw [c2, c1]; exact ci) (by rw [c2, c1]; show td_GG _ _ i (fun _ => 1) + B.2.1 96 i * 1 + B.2.1 96 i * 1 + B.2.1 96 i ≤ 2000000; rw [g1]; omega) (fun B3 x10 x11 f3 c3 n3 => ?_)
    refine q296_187 ⟨fun _ => ?_, fun q => absurd q (by decide)⟩
    rw [tb_w_id (x := i + 1) (by omega) (by omega)]
    refine hk B3 _ _ _ _ _ _ _ f3 (by rw [c3, c2, c1]) (td_nvc (by decide) n3 (fun _ _ _ => rfl) (fun φ => ?_))
    rw [c2, c1]
    unfold td_GG
    rw [tb_sum_s i0]
    show _ + _ * φ (td_tg _ _ _ _ d i 0) + _ * φ (td_tg _ _ _ _ d i (0 + 1)) + _ * φ (td_tg _ _ _ _ d i (0 + 1 + 1)) = _ + _ * (φ (td_tg _ _ _ _ d i 0) + φ (td_tg _ _ _ _ d i 1) + φ (td_tg _ _ _ _ d i 2))
    rw [Int.mul_add, Int.mul_add, show (0 : Int) + 1 = 1 from rfl, show (1 : Int) + 1 = 2 from rfl]
    omega
  · rw [tb_w_id (x := i + 1) (by omega) (by omega)]
    refine hk B _ _ _ _ _ _ _ f rfl (td_nvc (by decide) hn (fun _ _ _ => rfl) (fun φ => ?_))
    unfold td_GG
    rw [tb_sum_s i0, (td_lc ci).mp n]
    omega
theorem td_W96 {z v k : Int} : (tb_upL A 97 z v).2.1 96 k = A.2.1 96 k := if_neg (t := v) (fun q : (96 : Nat) = 97 ∧ k = z => absurd q.1 (by decide))
theorem td_W97 {z v k : Int} : (tb_upL A 96 z v).2.1 97 k = A.2.1 97 k := if_neg (t := v) (fun q : (97 : Nat) = 96 ∧ k = z => absurd q.1 (by decide))
/-- one day -/
theorem l296d (M : tc_M A) {d : Nat} {ln days : Int} (hd : 1 ≤ d ∧ d ≤ 12) (hln : ln = tb_lean (A.1 80) (A.1 82) (fun f => A.1 82 (31 + f)) 9 (A.1 80 0)) {x4 x5 x6 x7 x8 x9 x10 x11 : tb_V} {G : (Int → Int) → Int} (f : td_frw A B) (hn : td_nv 11200 id (B.2.1 96) G) (hT : G (fun _ => 1) ≤ 531441) (hdd : (d : Int) ≤ days)
    (hk : ∀ B1 x4 x5 x6 x7 x8 x9 x10 x11, td_frw A B1 → td_nv 11200 id (B1.2.1 96) (fun φ => G (td_PP (td_tg (A.1 80) (A.1 82 8) ln (A.1 82 3) d) φ)) → tb_E X 296 62 [tb_r 77, tb_i days, tb_i (tb_lng (A.1 80) (A.1 82 8) ln), tb_i ((d : Int) + 1), x4, x5, x6, x7, x8, x9, x10, x11] [] B1 (tb_Rv 296 Kv)) :
    tb_E X 296 62 [tb_r 77, tb_i days, tb_i (tb_lng (A.1 80) (A.1 82 8) ln), tb_i d, x4, x5, x6, x7, x8, x9, x10, x11] [] B (tb_Rv 296 Kv) := by
  refine q296_62 ⟨fun q => absurd q (by omega), fun _ => ?_⟩
  have c0 : ∀ B1, td_frw A B1 → B1.2.1 96 = B.2.1 96 → (∀ k, 0 ≤ k → k < 0 → B1.2.1 97 k = 0) → tb_E X 296 70 [tb_r 77, tb_i days, tb_i (tb_lng (A.1 80) (A.1 82 8) ln), tb_i d, tb_i 0, x5, x6, x7, x8, x9, x10, x11] [] B1 (tb_Rv 296 Kv) := by
    refine tb_lp (E := fun i => ∀ B1, td_frw A B1 → B1.2.1 96 = B.2.1 96 → (∀ k, 0 ≤ k → k < i → B1.2.1 97 k = 0) → tb_E X 296 70 [tb_r 77, tb_i days, tb_i (tb_lng (A.1 80) (A.1 82 8) ln), tb_i d, tb_i i, x5, x6, x7, x8, x9, x10, x11] [] B1 (tb_Rv 296 Kv)) (n := 11200) (by decide) ?_ ?_
    · intro B1 f1 c1 z1
      refine q296_70 ⟨fun _ => ?_, fun q => absurd q (by decide)⟩
      have row : ∀ B1 x5 x6 x7 x8 x9 x10 x11, td_frw A B1 → B1.2.1 96 = B.2.1 96 → td_nv 11200 id (B1.2.1 97) (td_GG (td_tg (A.1 80) (A.1 82 8) ln (A.1 82 3) d) (B.2.1 96) 0) → tb_E X 296 95 [tb_r 77, tb_i days, tb_i (tb_lng (A.1 80) (A.1 82 8) ln), tb_i d, tb_i 0, x5, x6, x7, x8, x9, x10, x11] [] B1 (tb_Rv 296 Kv) := by
        refine tb_lp (E := fun i => ∀ B1 x5 x6 x7 x8 x9 x10 x11, td_frw A B1 → B1.2.1 96 = B.2.1 96 → td_nv 11200 id (B1.2.1 97) (td_GG (td_tg (A.1 80) (A.1 82 8) ln (A.1 82 3) d) (B.2.1 96) i) → tb_E X 296 95 [tb_r 77, tb_i days, tb_i (tb_lng (A.1 80) (A.1 82 8) ln), tb_i d, tb_i i, x5, x6, x7, x8, x9, x10, x11] [] B1 (tb_Rv 296 Kv)) (n := 11200) (by decide) ?_ ?_
        · intro B1 x5 x6 x7 x8 x9 x10 x11 f1 c1 n1
          refine q296_95 ⟨fun _ => ?_, fun q => absurd q (by decide)⟩
          obtain ⟨nx, hnx⟩ : ∃ nx, nx = B1.2.1 97 := ⟨_, rfl⟩
          rw [← hnx] at n1
          have n2 : td_nv 11200 id nx (fun φ => G (td_PP (td_tg (A.1 80) (A.1 82 8) ln (A.1 82 3) d) φ)) := td_nvc (by decide) n1 (fun _ _ _ => rfl) (fun φ => hn.2 (td_PP (td_tg (A.1 80) (A.1 82 8) ln (A.1 82 3) d) φ))
          have cp : ∀ B2, td_frw A B2 → B2.2.1 97 = nx → (∀ k, 0 ≤ k → k < 0 → B2.2.1 96 k = nx k) → tb_E X 296 350 [tb_r 77, tb_i days, tb_i (tb_lng (A.1 80) (A.1 82 8) ln), tb_i d, tb_i 0, x5, x6, x7, x8, x9, x10, x11] [] B2 (tb_Rv 296 Kv) := by
            refine tb_lp (E := fun i => ∀ B2, td_frw A B2 → B2.2.1 97 = nx → (∀ k, 0 ≤ k → k < i → B2.2.1 96 k = nx k) → tb_E X 296 350 [tb_r 77, tb_i days, tb_i (tb_lng (A.1 80) (A.1 82 8) ln), tb_i d, tb_i i, x5, x6, x7, x8, x9, x10, x11] [] B2 (tb_Rv 296 Kv)) (n := 11200) (by decide) ?_ ?_
            · intro B2 f2 c2 e2
              refine q296_350 ⟨fun _ => ?_, fun q => absurd q (by decide)⟩
              rw [tb_w_id (x := (d : Int) + 1) (by omega) (by omega)]
              exact hk B2 _ _ _ _ _ _ _ _ f2 (td_nvc (by decide) n2 e2 (fun _ => rfl))
            · intro i i0 i1 ih B2 f2 c2 e2
              refine q296_350 ⟨fun q => absurd q (by omega), fun _ => ⟨⟨i0, i1⟩, ⟨i0, i1⟩, ?_⟩⟩
              rw [tb_w_id (x := i + 1) (by omega) (by omega)]
              refine ih _ (tb_fr.upL f2 rfl) (by funext k; rw [td_W97, c2]) (fun k k0 k1 => ?_)
              rw [td_upl]
              show (if k = i then B2.2.1 97 i else B2.2.1 96 k) = nx k
              by_cases e : k = i
              · rw [if_pos e, c2, e]
              · rw [if_neg e]; exact e2 k k0 (by omega)
          exact cp B1 f1 hnx.symm (fun k a b => absurd b (by omega))
        · intro i i0 i1 ih B1 x5 x6 x7 x8 x9 x10 x11 f1 c1 n1
          rw [← c1] at n1
          refine l296s M f1 hd hln i0 i1 (by rw [c1]; exact hn.1) (by rw [c1, td_nv1 (by decide) hn]; exact hT) n1 (fun B2 x5 x6 x7 x8 x9 x10 x11 f2 c2 n2 => ?_)
          rw [c1] at n2 c2
          exact ih B2 _ _ _ _ _ _ _ f2 c2 n2
      refine row B1 _ _ _ _ _ _ _ f1 c1 (td_nvc (by decide) (td_nvz (by decide) z1) (fun _ _ _ => rfl) (fun φ => rfl))
    · intro i i0 i1 ih B1 f1 c1 z1
      refine q296_70 ⟨fun q => absurd q (by omega), fun _ => ⟨⟨i0, i1⟩, ?_⟩⟩
      rw [tb_w_id (x := i + 1) (by omega) (by omega)]
      refine ih _ (tb_fr.upL f1 rfl) (by funext k; rw [td_W96, c1]) (fun k k0 k1 => ?_)
      rw [td_upl]
      show (if k = i then 0 else B1.2.1 97 k) = 0
      by_cases e : k = i
      · rw [if_pos e]
      · rw [if_neg e]; exact z1 k k0 (by omega)
  exact c0 B f rfl (fun k a b => absurd b (by omega))
def td_z0 (A : tb_H) : Int := ((A.1 82 0 * 10 + A.1 82 1) * 8 + A.1 82 2) * 14 + 13
theorem sp296 (M : tc_M A) {ln : Int} (hln : ln = tb_lean (A.1 80) (A.1 82) (fun f => A.1 82 (31 + f)) 9 (A.1 80 0)) {days : Nat} (hd : days ≤ 12)
    (hk : ∀ B, td_frw A B → td_nv 11200 id (B.2.1 96) (td_Q (td_tg (A.1 80) (A.1 82 8) ln (A.1 82 3)) (td_z0 A) days) → Kv B) : tb_Cv X 296 [tb_r 77, tb_i days] A Kv := by
  have z := M.s0
  refine q296 ?_
  have c0 : ∀ B x3 x4 x5 x6 x7 x8 x9 x10 x11, td_frw A B → (∀ k, 0 ≤ k → k < 0 → B.2.1 96 k = 0) → tb_E X 296 2 [tb_r 77, tb_i days, tb_i 0, x3, x4, x5, x6, x7, x8, x9, x10, x11] [] B (tb_Rv 296 Kv) := by
    refine tb_lp (E := fun i => ∀ B x3 x4 x5 x6 x7 x8 x9 x10 x11, td_frw A B → (∀ k, 0 ≤ k → k < i → B.2.1 96 k = 0) → tb_E X 296 2 [tb_r 77, tb_i days, tb_i i, x3, x4, x5, x6, x7, x8, x9, x10, x11] [] B (tb_Rv 296 Kv)) (n := 11200) (by decide) ?_ ?_
    · intro B x3 x4 x5 x6 x7 x8 x9 x10 x11 f hz
      have e80 : B.1 80 = A.1 80 := funext fun k => f.1 80 k rfl rfl
      have e82 : B.1 82 = A.1 82 := funext fun k => f.1 82 k rfl rfl
      refine q296_2 ⟨fun _ => ?_, fun q => absurd q (by decide)⟩
      rw [e82, e291 z.1.1 z.1.2 z.2.1.1 z.2.1.2 z.2.2.1.1 z.2.2.1.2, tb_w_id (x := ((A.1 82 0 * 10 + A.1 82 1) * 8 + A.1 82 2) * 14) (by omega) (by omega), tb_w_id (x := ((A.1 82 0 * 10 + A.1 82 1) * 8 + A.1 82 2) * 14 + 13) (by omega) (by omega)]
      refine ⟨⟨by omega, by omega⟩, ?_⟩
      have MB : tc_M (tb_upL B 96 (td_z0 A) 1) := M.c e80 e82
      show tb_Ci X 245 [tb_r 77] (tb_upL B 96 (td_z0 A) 1) _
      rw [e245 MB]
      rw [show (tb_upL B 96 (td_z0 A) 1).1 80 = A.1 80 from e80, show (tb_upL B 96 (td_z0 A) 1).1 82 = A.1 82 from e82, ← hln]
      have n0 := (td_nva (c := 1) (b := 1) (td_nvz (e := id) (a := B.2.1 96) (N := 11200) (by decide) hz) (z := td_z0 A) (by unfold td_z0; omega) (by unfold td_z0; omega) (by decide) (by decide)).2
      have days' : ∀ k : Nat, ∀ (d : Nat) B x4 x5 x6 x7 x8 x9 x10 x11, d + k = days → td_frw A B → td_nv 11200 id (B.2.1 96) (td_Q (td_tg (A.1 80) (A.1 82 8) ln (A.1 82 3)) (td_z0 A) d) → tb_E X 296 62 [tb_r 77, tb_i days, tb_i (tb_lng (A.1 80) (A.1 82 8) ln), tb_i ((d : Int) + 1), x4, x5, x6, x7, x8, x9, x10, x11] [] B (tb_Rv 296 Kv) := by
        intro k
        induction k with
        | zero =>
          intro d B x4 x5 x6 x7 x8 x9 x10 x11 hk2 fB nB
          have : d = days := by omega
          subst this
          exact q296_62 ⟨fun _ => hk B fB nB, fun q => absurd q (by omega)⟩
        | succ k ih =>
          intro d B x4 x5 x6 x7 x8 x9 x10 x11 hk2 fB nB
          have p3 := td_p3B (k := d) (by omega)
          refine l296d (d := d + 1) M (by omega) hln fB nB (by rw [td_Qc]; omega) (by omega) (fun B1 x4 x5 x6 x7 x8 x9 x10 x11 f1 n1 => ?_)
          exact ih (d + 1) B1 _ _ _ _ _ _ _ _ (by omega) f1 n1
      refine days' days 0 _ _ _ _ _ _ _ _ _ (by omega) (tb_fr.upL f rfl) (td_nvc (by decide) n0 (fun y y0 y1 => ?_) (fun φ => ?_))
      · rw [td_upl]
        show (if y = td_z0 A then 1 else B.2.1 96 y) = if y = td_z0 A then B.2.1 96 (td_z0 A) + 1 else B.2.1 96 y
        rw [hz (td_z0 A) (by unfold td_z0; omega) (by unfold td_z0; omega)]
        rfl
      · show 0 + 1 * φ (td_z0 A) = φ (td_z0 A)
        omega
    · intro i i0 i1 ih B x3 x4 x5 x6 x7 x8 x9 x10 x11 f hz
      refine q296_2 ⟨fun q => absurd q (by omega), fun _ => ⟨⟨i0, i1⟩, ?_⟩⟩
      rw [tb_w_id (x := i + 1) (by omega) (by omega)]
      refine ih _ _ _ _ _ _ _ _ _ _ (tb_fr.upL f rfl) (fun k k0 k1 => ?_)
      rw [td_upl]
      show (if k = i then 0 else B.2.1 96 k) = 0
      by_cases e : k = i
      · rw [if_pos e]
      · rw [if_neg e]; exact hz k k0 (by omega)
  exact c0 A _ _ _ _ _ _ _ _ _ tb_fr.refl (fun k a b => absurd b (by omega))
end TBWAYS2
