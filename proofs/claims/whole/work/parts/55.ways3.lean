/-! ways: the class's charts -/
section TBWAYS3
variable {X : tb_X} {A B : tb_H} {K : Int → tb_H → Prop} {Kv : tb_H → Prop}
def td_m (n : Int) : Int := if n = 12 then 13 else n
def td_io (j : Int) : Int := ((j / 8 % 10 * 10 + j / 80 % 10) * 8 + j % 8) * 14 + td_m (j / 800)
theorem td_mB {n : Int} (h0 : 0 ≤ n) (h1 : n ≤ 12) : 0 ≤ td_m n ∧ td_m n ≤ 13 := by unfold td_m; split <;> omega
theorem td_ioB {j : Int} (h0 : 0 ≤ j) (h1 : j < 10400) : td_io j / 1120 = j / 8 % 10 ∧ td_io j / 112 % 10 = j / 80 % 10 ∧ td_io j / 14 % 8 = j % 8 ∧ td_io j % 14 = td_m (j / 800) := by
  have m := td_mB (n := j / 800) (by omega) (by omega)
  unfold td_io
  refine ⟨?_, ?_, ?_, ?_⟩ <;> omega
def td_pc (P Q : Nat) : Prop := (P = 39 ∧ Q = 40) ∨ (P = 40 ∧ Q = 39)
theorem td_pck {P Q : Nat} (h : td_pc P Q) : tb_kd P = (1, 10400, [0]) ∧ tb_kd Q = (1, 10400, [0]) ∧ P ≠ Q := by
  rcases h with ⟨rfl, rfl⟩ | ⟨rfl, rfl⟩ <;> exact ⟨rfl, rfl, by decide⟩
theorem td_pcs {P Q : Nat} (h : td_pc P Q) : td_pc Q P := by
  rcases h with ⟨rfl, rfl⟩ | ⟨rfl, rfl⟩
  · exact Or.inr ⟨rfl, rfl⟩
  · exact Or.inl ⟨rfl, rfl⟩
abbrev td_frc (A B : tb_H) : Prop := tb_fr [39, 40] [] [38] A B
theorem td_pcu {P Q : Nat} (h : td_pc P Q) {k x : Int} (f : td_frc A B) : td_frc A (tb_upI B Q k x) := by
  rcases h with ⟨rfl, rfl⟩ | ⟨rfl, rfl⟩ <;> exact tb_fr.upI f rfl
theorem td_upi {o : Nat} {z v : Int} : (tb_upI A o z v).1 o = td_up (A.1 o) z v := by
  funext i
  show (if o = o ∧ i = z then v else A.1 o i) = if i = z then v else A.1 o i
  by_cases e : i = z
  · rw [if_pos ⟨rfl, e⟩, if_pos e]
  · rw [if_neg (fun q => e q.2), if_neg e]
theorem td_upo {o p : Nat} (h : p ≠ o) {z v : Int} : (tb_upI A o z v).1 p = A.1 p := by
  funext i
  show (if p = o ∧ i = z then v else A.1 p i) = A.1 p i
  exact if_neg (fun q => h q.1)
/-- while a day's chart is drawn -/
def td_cw (A B : tb_H) (P Q : Nat) (cur : Int → Int) (k1 : Int) (G : (Int → Int) → Int) : Prop := td_frc A B ∧ (B.2.2 38 0 = P ∧ B.2.2 38 1 = Q) ∧ B.1 P = cur ∧ td_nv 10400 td_io (B.1 Q) G ∧ ∀ z, 0 ≤ z → z < 10400 → k1 ≤ z / 800 → z / 800 < 12 → B.1 Q z = 0
theorem l150 {P Q : Nat} (pc : td_pc P Q) {cur : Int → Int} {k1 n p c : Int} {G : (Int → Int) → Int} (h : td_cw A B P Q cur k1 G) (n0 : 0 ≤ n) (n1 : n < k1 ∨ n = 12) (k12 : k1 ≤ 12) (p0 : 0 ≤ p) (p1 : p < 800) (c0 : 0 ≤ c) (hb : G (fun _ => 1) + c ≤ 2000000)
    (hk : ∀ B1, td_cw A B1 P Q cur k1 (fun φ => G φ + c * φ (td_io (n * 800 + p))) → Kv B1) : tb_Cv X 150 [tb_r 38, tb_i n, tb_i p, tb_i c] B Kv := by
  obtain ⟨f, hp, hc, hn, hz⟩ := h
  have na := td_nva hn (z := n * 800 + p) (by omega) (by omega) c0 hb
  refine q150 ?_
  rw [tb_w_id (x := n * 800) (by omega) (by omega), tb_w_id (x := n * 800 + p) (by omega) (by omega)]
  refine ⟨fun q => absurd q (by omega), fun _ => ?_⟩
  rw [hp.2]
  refine ⟨(td_pck pc).2.1, fun q => absurd q (by omega), fun _ => ?_⟩
  rw [tb_w_id (x := B.1 Q (n * 800 + p) + c) (by omega) (by omega)]
  refine hk _ ⟨td_pcu pc f, hp, by rw [td_upo (td_pck pc).2.2]; exact hc, by rw [td_upi]; exact na.2, fun z z0 z1 z2 z3 => ?_⟩
  rw [td_upi]
  show (if z = n * 800 + p then _ else B.1 Q z) = 0
  rw [if_neg (by omega)]
  exact hz z z0 z1 z2 z3
theorem l153 (L : tb_L A) {P Q : Nat} (pc : td_pc P Q) {cur : Int → Int} {k1 n x y g c : Int} {G : (Int → Int) → Int} (h : td_cw A B P Q cur k1 G) (n0 : 0 ≤ n) (n1 : n + 1 < k1 ∨ n = 12) (k0 : 1 ≤ k1) (k12 : k1 ≤ 12) (x0 : 0 ≤ x) (x1 : x ≤ 9) (y0 : 0 ≤ y) (y1 : y ≤ 9) (g0 : 0 ≤ g) (g1 : g ≤ 7) (c0 : 0 ≤ c) (hb : G (fun _ => 1) + c ≤ 2000000)
    (hk : ∀ B1, td_cw A B1 P Q cur k1 (fun φ => G φ + c * φ (td_t1 (A.1 80) x y g (td_m n))) → Kv B1) : tb_Cv X 153 [tb_r 38, tb_r 4, tb_i n, tb_i ((y * 10 + x) * 8 + g), tb_i c] B Kv := by
  have LB : tb_L B := L.fr h.1 rfl
  have e80 : B.1 80 = A.1 80 := funext fun k => h.1.1 80 k rfl rfl
  have w := tb_wB x0 x1 y0 y1 g0 g1
  refine q153 ?_
  rw [e88 x0 x1 y0 y1 g0 g1]
  refine ⟨LB.b, ?_⟩
  rw [e90 (by omega) (by omega), show ((tb_wy x y g * 10 + tb_wx x y g) * 8 + tb_wh x y g) / 8 = tb_wy x y g * 10 + tb_wx x y g by omega]
  have go : ∀ n', 0 ≤ n' → (n' < k1 ∨ n' = 12) → td_m n' = td_n2 (A.1 80) (tb_wx x y g) (tb_wy x y g) (td_m n) → tb_Cv X 150 [tb_r 38, tb_i n', tb_i ((tb_wy x y g * 10 + tb_wx x y g) * 8 + tb_wh x y g), tb_i c] B Kv := by
    intro n' a b e
    refine l150 pc h a b k12 (by omega) (by omega) c0 hb (fun B1 h1 => hk B1 ?_)
    have ei : td_io (n' * 800 + ((tb_wy x y g * 10 + tb_wx x y g) * 8 + tb_wh x y g)) = td_t1 (A.1 80) x y g (td_m n) := by
      unfold td_io td_t1
      rw [show (n' * 800 + ((tb_wy x y g * 10 + tb_wx x y g) * 8 + tb_wh x y g)) / 800 = n' by omega, e]
      omega
    rw [ei] at h1
    exact h1
  refine sp92 LB w.1.1 w.1.2 w.2.1.1 w.2.1.2 (fun q => ?_) (fun q => ?_)
  · rw [e80] at q
    rw [if_neg (by decide)]
    refine go 0 (by decide) (by omega) ?_
    unfold td_n2
    rw [if_pos (td_wq_t q)]
    rfl
  · rw [e80] at q
    rw [if_pos rfl, tb_w_id (x := n + 1) (by omega) (by omega)]
    have wf := td_wq_f q
    refine go _ (by split <;> omega) (by split <;> omega) ?_
    unfold td_n2
    rw [wf, if_neg (show ¬ (false = true) by decide)]
    unfold td_m
    ((repeat' split) <;> omega)
def td_GC (tg : Int → Int → Int) (cur : Int → Int) (i : Int) (φ : Int → Int) : Int := tb_sum (fun j => cur j * td_PP tg φ (td_io j)) i
/-- one row of a day -/
theorem l152 (L : tb_L A) {P Q d : Nat} (pc : td_pc P Q) {cur : Int → Int} {n x3 ln : Int} (d1 : 1 ≤ d) (d12 : d ≤ 12) (n0 : 0 ≤ n) (n1 : n + 1 < d ∨ n = 12) (hx : x3 + 1 = td_hu (A.1 82 3) (td_m n) d) (hx2 : 0 ≤ x3 ∧ x3 ≤ 1000)
    (hc : ∀ z, 0 ≤ z → z < 10400 → 0 ≤ cur z) (hT : tb_sum cur 10400 ≤ 531441)
    (hk : ∀ B1, td_cw A B1 P Q cur d (td_GC (td_tg (A.1 80) (A.1 82 8) ln (A.1 82 3) d) cur ((n + 1) * 800)) → Kv B1) :
    ∀ B, td_cw A B P Q cur d (td_GC (td_tg (A.1 80) (A.1 82 8) ln (A.1 82 3) d) cur (n * 800)) → tb_Cv X 152 [tb_r 38, tb_r 4, tb_i n, tb_i x3, tb_i ln] B Kv := by
  have key : ∀ B x6 x7 x8 x9 x10, td_cw A B P Q cur d (td_GC (td_tg (A.1 80) (A.1 82 8) ln (A.1 82 3) d) cur (n * 800 + 0)) → tb_E X 152 3 [tb_r 38, tb_r 4, tb_i n, tb_i x3, tb_i ln, tb_i 0, x6, x7, x8, x9, x10] [] B (tb_Rv 152 Kv) := by
    refine tb_lp (E := fun s => ∀ B x6 x7 x8 x9 x10, td_cw A B P Q cur d (td_GC (td_tg (A.1 80) (A.1 82 8) ln (A.1 82 3) d) cur (n * 800 + s)) → tb_E X 152 3 [tb_r 38, tb_r 4, tb_i n, tb_i x3, tb_i ln, tb_i s, x6, x7, x8, x9, x10] [] B (tb_Rv 152 Kv)) (n := 800) (by decide) ?_ ?_
    · intro B x6 x7 x8 x9 x10 h
      rw [show n * 800 + 800 = (n + 1) * 800 by omega] at h
      exact q152_3 ⟨fun _ => hk B h, fun q => absurd q (by decide)⟩
    · intro s s0 s1 ih B x6 x7 x8 x9 x10 h
      obtain ⟨j, hj⟩ : ∃ j, j = n * 800 + s := ⟨_, rfl⟩
      have ej : tb_w (tb_w (n * 800) + s) = j := by rw [tb_w_id (x := n * 800) (by omega) (by omega), tb_w_id (by omega) (by omega)]; omega
      have LB : tb_L B := L.fr h.1 rfl
      have e80 : B.1 80 = A.1 80 := funext fun k => h.1.1 80 k rfl rfl
      have e82 : B.1 82 = A.1 82 := funext fun k => h.1.1 82 k rfl rfl
      have cj := hc j (by omega) (by omega)
      have t3 := td_t3 hc (i := j) (by omega) (by omega)
      have cb := (td_u1 hc 10400 (by decide) (Int.le_refl _)).2 j (by omega) (by omega)
      have cs := (td_u1 hc j (by omega) (by omega)).1
      rw [← hj] at h
      have g1 : td_GC (td_tg (A.1 80) (A.1 82 8) ln (A.1 82 3) d) cur j (fun _ => 1) = tb_sum (fun j => cur j * (1 + 1 + 1)) j := rfl
      have sN : ∀ φ, td_GC (td_tg (A.1 80) (A.1 82 8) ln (A.1 82 3) d) cur (n * 800 + (s + 1)) φ = td_GC (td_tg (A.1 80) (A.1 82 8) ln (A.1 82 3) d) cur j φ + cur j * td_PP (td_tg (A.1 80) (A.1 82 8) ln (A.1 82 3) d) φ (td_io j) := by
        intro φ
        unfold td_GC
        rw [show n * 800 + (s + 1) = j + 1 by omega, tb_sum_s (by omega)]
      have io := td_ioB (j := j) (by omega) (by omega)
      obtain ⟨x, ex⟩ : ∃ x, x = j / 8 % 10 := ⟨_, rfl⟩
      obtain ⟨y, ey⟩ : ∃ y, y = j / 80 % 10 := ⟨_, rfl⟩
      obtain ⟨h', eh⟩ : ∃ h', h' = j % 8 := ⟨_, rfl⟩
      have en : j / 800 = n := by omega
      have tgt : ∀ t, td_tg (A.1 80) (A.1 82 8) ln (A.1 82 3) d (td_io j) t = td_t1 (A.1 80) x y (td_hg (A.1 80) (A.1 82 8) ln (A.1 82 3) x y h' (td_m n) d t) (td_m n) := by
        intro t
        unfold td_tg
        rw [io.1, io.2.1, io.2.2.1, io.2.2.2, ← ex, ← ey, ← eh, en]
      refine q152_3 ⟨fun q => absurd q (by omega), fun _ => ⟨fun q => absurd q (by omega), fun _ => ?_⟩⟩
      rw [ej, h.2.1.1]
      refine ⟨(td_pck pc).1, ?_⟩
      rw [if_pos (show j < 10400 by omega), h.2.2.1, tb_w_id (x := s + 1) (by omega) (by omega), e90 s0 (by omega), e89, show s / 8 = y * 10 + x by omega, show s % 8 = h' by omega, tb_w_id (x := x3 + 1) (by omega) (by omega), hx, e78 LB (by omega) (by omega) (by omega) (by omega) (by omega) (by omega), e80, e82]
      refine ⟨fun nz => ⟨fun q8 => ?_, fun q8 => ?_⟩, fun z => ?_⟩
      · have turn : ∀ t B1, 0 ≤ t → t ≤ 2 → ∀ G, td_cw A B1 P Q cur d G → G (fun _ => 1) + cur j ≤ 2000000 → (∀ B2, td_cw A B2 P Q cur d (fun φ => G φ + cur j * φ (td_tg (A.1 80) (A.1 82 8) ln (A.1 82 3) d (td_io j) t)) → tb_E X 152 112 [tb_r 38, tb_r 4, tb_i n, tb_i x3, tb_i ln, tb_i s, tb_i j, tb_i (cur j), tb_i (y * 10 + x), tb_i (tb_bear (A.1 80) (A.1 82 8) x y h' (td_hu (A.1 82 3) (td_m n) d) ln), tb_i (t + 1)] [] B2 (tb_Rv 152 Kv)) → tb_E X 152 112 [tb_r 38, tb_r 4, tb_i n, tb_i x3, tb_i ln, tb_i s, tb_i j, tb_i (cur j), tb_i (y * 10 + x), tb_i (tb_bear (A.1 80) (A.1 82 8) x y h' (td_hu (A.1 82 3) (td_m n) d) ln), tb_i t] [] B1 (tb_Rv 152 Kv) := by
          intro t B1 t0 t2 G h1 hb e
          refine q152_112 ⟨fun q => absurd q (by omega), fun _ => ?_⟩
          rw [e89, show s % 8 = h' by omega, e86 (by omega) (by omega) t0 t2, e87 (by omega) (by omega), show (y * 10 + x) * 8 + (h' + t + 7) % 8 % 8 = (y * 10 + x) * 8 + (h' + t + 7) % 8 by omega, tb_w_id (x := t + 1) (by omega) (by omega)]
          refine l153 L pc h1 n0 n1 (by omega) (by omega) (by omega) (by omega) (by omega) (by omega) (by omega) (by omega) cj hb (fun B2 h2 => e B2 ?_)
          rw [tgt t, show td_hg (A.1 80) (A.1 82 8) ln (A.1 82 3) x y h' (td_m n) d t = (h' + t + 7) % 8 from if_pos q8]
          exact h2
        refine turn 0 B (by decide) (by decide) _ h (by rw [g1]; omega) (fun B1 h1 => ?_)
        refine turn (0 + 1) B1 (by decide) (by decide) _ h1 (by show td_GC _ _ j (fun _ => 1) + cur j * 1 + cur j ≤ 2000000; rw [g1]; omega) (fun B2 h2 => ?_)
        refine turn (0 + 1 + 1) B2 (by decide) (by decide) _ h2 (by show td_GC _ _ j (fun _ => 1) + cur j * 1 + cur j * 1 + cur j ≤ 2000000; rw [g1]; omega) (fun B3 h3 => ?_)
        refine q152_112 ⟨fun _ => ?_, fun q => absurd q (by decide)⟩
        rw [tb_w_id (x := s + 1) (by omega) (by omega)]
        refine ih B3 _ _ _ _ _ ⟨h3.1, h3.2.1, h3.2.2.1, td_nvc (by decide) h3.2.2.2.1 (fun _ _ _ => rfl) (fun φ => ?_), h3.2.2.2.2⟩
        rw [sN φ]
        unfold td_PP
        rw [Int.mul_add, Int.mul_add, show (0 : Int) + 1 = 1 from rfl, show (1 : Int) + 1 = 2 from rfl]
        omega
      · have hg : ∀ t, td_hg (A.1 80) (A.1 82 8) ln (A.1 82 3) x y h' (td_m n) d t = tb_bear (A.1 80) (A.1 82 8) x y h' (td_hu (A.1 82 3) (td_m n) d) ln := fun t => if_neg q8
        have hB := td_hgB (r := A.1 80) (pl := A.1 82 8) (ln := ln) (h3 := A.1 82 3) (x := x) (y := y) (h := h') (n := td_m n) (d := d) (t := 0) (by omega) (by omega) (by decide) (by decide)
        rw [hg] at hB
        rw [e87 (by omega) (by omega), show tb_bear (A.1 80) (A.1 82 8) x y h' (td_hu (A.1 82 3) (td_m n) d) ln % 8 = tb_bear (A.1 80) (A.1 82 8) x y h' (td_hu (A.1 82 3) (td_m n) d) ln by omega, tb_w_id (x := 3 * cur j) (by omega) (by omega)]
        refine l153 L pc h n0 n1 (by omega) (by omega) (by omega) (by omega) (by omega) (by omega) hB.1 hB.2 (by omega) (by rw [g1]; omega) (fun B1 h1 => ?_)
        refine ih B1 _ _ _ _ _ ⟨h1.1, h1.2.1, h1.2.2.1, td_nvc (by decide) h1.2.2.2.1 (fun _ _ _ => rfl) (fun φ => ?_), h1.2.2.2.2⟩
        rw [sN φ]
        unfold td_PP
        rw [tgt 0, tgt 1, tgt 2, hg, hg, hg, Int.mul_add, Int.mul_add, Int.mul_assoc]
        omega
      · refine ih B _ _ _ _ _ ⟨h.1, h.2.1, h.2.2.1, td_nvc (by decide) h.2.2.2.1 (fun _ _ _ => rfl) (fun φ => ?_), h.2.2.2.2⟩
        rw [sN φ, z]
        omega
  intro B h
  refine q152 (key B _ _ _ _ _ ?_)
  rw [show n * 800 + 0 = n * 800 by omega]
  exact h
end TBWAYS3
