/-! ways: sums against any weight; the reference -/
section TBWAYS
variable {X : tb_X} {A B : tb_H} {K : Int → tb_H → Prop} {Kv : tb_H → Prop}
def td_up (a : Int → Int) (z v : Int) : Int → Int := fun i => if i = z then v else a i
theorem td_us {a f : Int → Int} {z v N : Int} (z0 : 0 ≤ z) (z1 : z < N) : tb_sum (fun i => td_up a z v i * f i) N = tb_sum (fun i => a i * f i) N + (v - a z) * f z := by
  have key := tb_indN (P := fun m => tb_sum (fun i => td_up a z v i * f i) m = tb_sum (fun i => a i * f i) m + (if z < m then (v - a z) * f z else 0)) (N := N) (by rw [if_neg (by omega)]; rfl) (fun i h0 h1 ih => by
    rw [tb_sum_s h0, tb_sum_s h0, ih]
    by_cases e : i = z
    · subst e
      rw [if_neg (by omega), if_pos (by omega)]
      show _ + (if i = i then v else a i) * f i = _
      rw [if_pos rfl, Int.sub_mul]
      omega
    · show _ + (if i = z then v else a i) * f i = _
      rw [if_neg e]
      by_cases c : z < i
      · rw [if_pos c, if_pos (by omega)]; omega
      · rw [if_neg c, if_neg (by omega)]; omega) N (by omega) (Int.le_refl _)
  rw [if_pos z1] at key
  exact key
theorem td_u1 {a : Int → Int} {N : Int} (h : ∀ i, 0 ≤ i → i < N → 0 ≤ a i) : ∀ m, 0 ≤ m → m ≤ N → 0 ≤ tb_sum a m ∧ ∀ z, 0 ≤ z → z < m → tb_sum a z + a z ≤ tb_sum a m := by
  refine tb_indN (P := fun m => 0 ≤ tb_sum a m ∧ ∀ z, 0 ≤ z → z < m → tb_sum a z + a z ≤ tb_sum a m) (N := N) ⟨Int.le_refl _, fun z a b => absurd b (by omega)⟩ ?_
  intro i h0 h1 ih
  rw [tb_sum_s h0]
  have hi := h i h0 h1
  refine ⟨by omega, fun z z0 z1 => ?_⟩
  by_cases e : z = i
  · rw [e]; exact Int.le_refl _
  · have := ih.2 z z0 (by omega)
    omega
def td_nv (N : Int) (e : Int → Int) (a : Int → Int) (G : (Int → Int) → Int) : Prop := (∀ z, 0 ≤ z → z < N → 0 ≤ a z) ∧ ∀ φ : Int → Int, tb_sum (fun z => a z * φ (e z)) N = G φ
theorem td_nv1 {N : Int} {e a : Int → Int} {G : (Int → Int) → Int} (N0 : 0 ≤ N) (h : td_nv N e a G) : tb_sum a N = G (fun _ => 1) := by
  rw [← h.2]
  exact tb_sum_congr N0 (fun i _ _ => by show a i = a i * 1; omega)
theorem td_nva {N : Int} {e a : Int → Int} {G : (Int → Int) → Int} {z c b : Int} (h : td_nv N e a G) (z0 : 0 ≤ z) (z1 : z < N) (c0 : 0 ≤ c) (hb : G (fun _ => 1) + c ≤ b) : (0 ≤ a z + c ∧ a z + c ≤ b) ∧ td_nv N e (td_up a z (a z + c)) (fun φ => G φ + c * φ (e z)) := by
  have s1 := td_nv1 (by omega) h
  have u := td_u1 h.1 N (by omega) (Int.le_refl _)
  have uz := u.2 z z0 z1
  have us := (td_u1 h.1 z z0 (by omega)).1
  have az := h.1 z z0 z1
  refine ⟨⟨by omega, by omega⟩, fun y y0 y1 => ?_, fun φ => ?_⟩
  · show 0 ≤ (if y = z then a z + c else a y)
    split
    · omega
    · exact h.1 y y0 y1
  · rw [td_us (f := fun i => φ (e i)) z0 z1, h.2 φ, show a z + c - a z = c by omega]
def td_p3 : Nat → Int
  | 0 => 1
  | k + 1 => 3 * td_p3 k
theorem td_p3B {k : Nat} (h : k ≤ 12) : 0 ≤ td_p3 k ∧ td_p3 k ≤ 531441 := by
  have : k = 0 ∨ k = 1 ∨ k = 2 ∨ k = 3 ∨ k = 4 ∨ k = 5 ∨ k = 6 ∨ k = 7 ∨ k = 8 ∨ k = 9 ∨ k = 10 ∨ k = 11 ∨ k = 12 := by omega
  rcases this with rfl | rfl | rfl | rfl | rfl | rfl | rfl | rfl | rfl | rfl | rfl | rfl | rfl <;> decide
def td_Q (tg : Nat → Int → Int → Int) (z0 : Int) : Nat → (Int → Int) → Int
  | 0, φ => φ z0
  | k + 1, φ => td_Q tg z0 k (fun j => φ (tg (k + 1) j 0) + φ (tg (k + 1) j 1) + φ (tg (k + 1) j 2))
theorem td_Qc (tg : Nat → Int → Int → Int) (z0 : Int) : ∀ (k : Nat) (c : Int), td_Q tg z0 k (fun _ => c) = td_p3 k * c := by
  intro k
  induction k with
  | zero => intro c; show c = 1 * c; omega
  | succ k ih =>
    intro c
    show td_Q tg z0 k (fun _ => c + c + c) = 3 * td_p3 k * c
    rw [ih, Int.mul_assoc, show c + c + c = 3 * c by omega, ← Int.mul_assoc, ← Int.mul_assoc, Int.mul_comm (td_p3 k) 3]
noncomputable def td_wq (r : Int → Int) (x y : Int) : Bool := @decide (tb_isw r x y) (Classical.propDecidable _)
theorem td_wq_t {r : Int → Int} {x y : Int} (h : tb_isw r x y) : td_wq r x y = true := @decide_eq_true _ (Classical.propDecidable _) h
theorem td_wq_f {r : Int → Int} {x y : Int} (h : ¬ tb_isw r x y) : td_wq r x y = false := @decide_eq_false _ (Classical.propDecidable _) h
def td_hu (h3 n d : Int) : Int := if n ≠ 13 then n + 1 else h3 + d
def td_hg (r : Int → Int) (pl ln h3 x y h n d t : Int) : Int := if tb_bear r pl x y h (td_hu h3 n d) ln = 8 then (h + t + 7) % 8 else tb_bear r pl x y h (td_hu h3 n d) ln
noncomputable def td_n2 (r : Int → Int) (x y n : Int) : Int := if td_wq r x y = true then 0 else (if n ≠ 13 then n + 1 else 13)
noncomputable def td_t1 (r : Int → Int) (x y g n : Int) : Int := ((tb_wx x y g * 10 + tb_wy x y g) * 8 + tb_wh x y g) * 14 + td_n2 r (tb_wx x y g) (tb_wy x y g) n
noncomputable def td_tg (r : Int → Int) (pl ln h3 : Int) (d : Nat) (j t : Int) : Int := td_t1 r (j / 1120) (j / 112 % 10) (td_hg r pl ln h3 (j / 1120) (j / 112 % 10) (j / 14 % 8) (j % 14) d t) (j % 14)
theorem td_hgB {r : Int → Int} {pl ln h3 x y h n d t : Int} (h0 : 0 ≤ h) (h1 : h ≤ 7) (t0 : 0 ≤ t) (t1 : t ≤ 2) : 0 ≤ td_hg r pl ln h3 x y h n d t ∧ td_hg r pl ln h3 x y h n d t ≤ 7 := by
  unfold td_hg
  split
  · omega
  · rename_i q
    revert q
    unfold tb_bear
    split
    · intro _
      unfold tb_tw
      split
      · exact ⟨h0, h1⟩
      · rename_i n
        have f := (tb_hdf (tb_sgn3 _) (tb_sgn3 _) n).1
        omega
    · split
      · intro _; omega
      · split
        · intro _; omega
        · split
          · intro _; exact ⟨h0, h1⟩
          · intro u; exact absurd rfl u
theorem td_t1B {r : Int → Int} {x y g n : Int} (x0 : 0 ≤ x) (x1 : x ≤ 9) (y0 : 0 ≤ y) (y1 : y ≤ 9) (g0 : 0 ≤ g) (g1 : g ≤ 7) (n0 : 0 ≤ n) (n1 : n ≤ 13) : 0 ≤ td_t1 r x y g n ∧ td_t1 r x y g n < 11200 := by
  have w := tb_wB x0 x1 y0 y1 g0 g1
  have : 0 ≤ td_n2 r (tb_wx x y g) (tb_wy x y g) n ∧ td_n2 r (tb_wx x y g) (tb_wy x y g) n ≤ 13 := by
    unfold td_n2
    ((repeat' split) <;> omega)
  unfold td_t1
  omega
theorem tb_W_id {x : Int} (h0 : -9223372036854775808 ≤ x) (h1 : x < 9223372036854775808) : tb_W x = x := by unfold tb_W; omega
abbrev td_frw (A B : tb_H) : Prop := tb_fr [96, 97] [(77, 28), (77, 29), (77, 30)] [] A B
theorem td_upl {o : Nat} {z v : Int} : (tb_upL A o z v).2.1 o = td_up (A.2.1 o) z v := by
  funext i
  show (if o = o ∧ i = z then v else A.2.1 o i) = if i = z then v else A.2.1 o i
  by_cases e : i = z
  · rw [if_pos ⟨rfl, e⟩, if_pos e]
  · rw [if_neg (fun q => e q.2), if_neg e]
theorem td_t3 {cur : Int → Int} {N i : Int} (h : ∀ z, 0 ≤ z → z < N → 0 ≤ cur z) (i0 : 0 ≤ i) (i1 : i < N) : tb_sum (fun j => cur j * (1 + 1 + 1)) i + 3 * cur i ≤ 3 * tb_sum cur N := by
  have u := (td_u1 h N (by omega) (Int.le_refl _)).2 i i0 i1
  have : ∀ m, 0 ≤ m → m ≤ i → tb_sum (fun j => cur j * (1 + 1 + 1)) m = 3 * tb_sum cur m := tb_indN (P := fun m => tb_sum (fun j => cur j * (1 + 1 + 1)) m = 3 * tb_sum cur m) (N := i) rfl (fun k k0 _ ih => by rw [tb_sum_s k0, tb_sum_s k0, ih]; omega)
  rw [this i i0 (Int.le_refl _)]
  omega
/-- one turn of one state -/
theorem l296t (M : tc_M A) {d : Nat} {ln days i t : Int} (f : td_frw A B) (hd : 1 ≤ d ∧ d ≤ 12) (hln : ln = tb_lean (A.1 80) (A.1 82) (fun f => A.1 82 (31 + f)) 9 (A.1 80 0)) (i0 : 0 ≤ i) (i1 : i < 11200) (t0 : 0 ≤ t) (t1 : t < 3) {x10 x11 : tb_V} {G : (Int → Int) → Int} (hn : td_nv 11200 id (B.2.1 97) G) (hc : 0 ≤ B.2.1 96 i) (hG : G (fun _ => 1) + B.2.1 96 i ≤ 2000000)
    (hk : ∀ B1 x10 x11, td_frw A B1 → B1.2.1 96 = B.2.1 96 → td_nv 11200 id (B1.2.1 97) (fun φ => G φ + B.2.1 96 i * φ (td_tg (A.1 80) (A.1 82 8) ln (A.1 82 3) d i t)) → tb_E X 296 187 [tb_r 77, tb_i days, tb_i (tb_lng (A.1 80) (A.1 82 8) ln), tb_i d, tb_i i, tb_i (i % 14), tb_i (i / 14), tb_i (td_hu (A.1 82 3) (i % 14) d), tb_i (if td_hu (A.1 82 3) (i % 14) d < A.1 80 5 then 0 else (if A.1 80 116 ≤ 0 then 0 else 1 : Int) : Int), tb_i (t + 1), x10, x11] [] B1 (tb_Rv 296 Kv)) :
    tb_E X 296 187 [tb_r 77, tb_i days, tb_i (tb_lng (A.1 80) (A.1 82 8) ln), tb_i d, tb_i i, tb_i (i % 14), tb_i (i / 14), tb_i (td_hu (A.1 82 3) (i % 14) d), tb_i (if td_hu (A.1 82 3) (i % 14) d < A.1 80 5 then 0 else (if A.1 80 116 ≤ 0 then 0 else 1 : Int) : Int), tb_i t, x10, x11] [] B (tb_Rv 296 Kv) := by
  have e80 : B.1 80 = A.1 80 := funext fun k => f.1 80 k rfl rfl
  have e82 : B.1 82 = A.1 82 := funext fun k => f.1 82 k rfl rfl
  have MB : tc_M B := M.c e80 e82
  have v2 := M.v2
  obtain ⟨x, hx⟩ : ∃ x, x = i / 1120 := ⟨_, rfl⟩
  obtain ⟨y, hy⟩ : ∃ y, y = i / 112 % 10 := ⟨_, rfl⟩
  obtain ⟨h, hh⟩ : ∃ h, h = i / 14 % 8 := ⟨_, rfl⟩
  obtain ⟨n, hn'⟩ : ∃ n, n = i % 14 := ⟨_, rfl⟩
  have xb : 0 ≤ x ∧ x ≤ 9 ∧ 0 ≤ y ∧ y ≤ 9 ∧ 0 ≤ h ∧ h ≤ 7 ∧ 0 ≤ n ∧ n ≤ 13 := by omega
  obtain ⟨x0, x1, y0, y1, h0, h1, n0, n1⟩ := xb
  have ex : tb_w ((i / 14).tdiv 80) = x := by rw [Int.tdiv_eq_ediv_of_nonneg (by omega), tb_w_id (by omega) (by omega)]; omega
  have ey : (tb_w ((i / 14).tdiv 8)).tmod 10 = y := by rw [Int.tdiv_eq_ediv_of_nonneg (by omega), tb_w_id (by omega) (by omega), Int.tmod_eq_emod_of_nonneg (by omega)]; omega
  have eh : (i / 14).tmod 8 = h := by rw [Int.tmod_eq_emod_of_nonneg (by omega)]; omega
  have tl : ∀ g, g = td_hg (A.1 80) (A.1 82 8) ln (A.1 82 3) x y h n d t → tb_Cv X 249 [tb_r 77, tb_i x, tb_i y, tb_i g] B (fun A1 => tb_Ci X 251 [tb_r 77, tb_i (A1.1 77 28), tb_i (A1.1 77 29)] A1 (fun v A2 => tb_Ci X 291 [tb_i (A2.1 77 28), tb_i (A2.1 77 29), tb_i (A2.1 77 30)] A2 (fun s A3 => (0 ≤ (tb_w ((tb_w (s * 14)) + (if v = 0 then (if i % 14 ≠ 13 then tb_w (i % 14 + 1) else 13 : Int) else 0 : Int))) ∧ (tb_w ((tb_w (s * 14)) + (if v = 0 then (if i % 14 ≠ 13 then tb_w (i % 14 + 1) else 13 : Int) else 0 : Int))) < 11200) ∧ ((0 ≤ i ∧ i < 11200) ∧ ((0 ≤ (tb_w ((tb_w (s * 14)) + (if v = 0 then (if i % 14 ≠ 13 then tb_w (i % 14 + 1) else 13 : Int) else 0 : Int))) ∧ (tb_w ((tb_w (s * 14)) + (if v = 0 then (if i % 14 ≠ 13 then tb_w (i % 14 + 1) else 13 : Int) else 0 : Int))) < 11200) ∧ tb_E X 296 187 [tb_r 77, tb_i days, tb_i (tb_lng (A.1 80) (A.1 82 8) ln), tb_i d, tb_i i, tb_i (i % 14), tb_i (i / 14), tb_i (td_hu (A.1 82 3) (i % 14) d), tb_i (if td_hu (A.1 82 3) (i % 14) d < A.1 80 5 then 0 else (if A.1 80 116 ≤ 0 then 0 else 1 : Int) : Int), tb_i (tb_w (t + 1)), tb_i g, tb_i (if v = 0 then (if i % 14 ≠ 13 then tb_w (i % 14 + 1) else 13 : Int) else 0 : Int)] [] (tb_upL A3 97 (tb_w ((tb_w (s * 14)) + (if v = 0 then (if i % 14 ≠ 13 then tb_w (i % 14 + 1) else 13 : Int) else 0 : Int))) (tb_W ((A3.2.1 97 (tb_w ((tb_w (s * 14)) + (if v = 0 then (if i % 14 ≠ 13 then tb_w (i % 14 + 1) else 13 : Int) else 0 : Int)))) + (A3.2.1 96 i)))) (tb_Rv 296 Kv)))))) := by
    intro g hg
    have gb := td_hgB (r := A.1 80) (pl := A.1 82 8) (ln := ln) (h3 := A.1 82 3) (x := x) (y := y) (n := n) (d := d) (t := t) h0 h1 t0 (by omega)
    rw [← hg] at gb
    have w := tb_wB x0 x1 y0 y1 gb.1 gb.2
    rw [e249 x0 x1 y0 y1 gb.1 gb.2]
    have fin : ∀ v : Int, (v = 0 ↔ td_wq (A.1 80) (tb_wx x y g) (tb_wy x y g) = false) → tb_Ci X 291 [tb_i (tb_wx x y g), tb_i (tb_wy x y g), tb_i (tb_wh x y g)] (tc_sw B (tb_wx x y g) (tb_wy x y g) (tb_wh x y g)) (fun s A3 => (0 ≤ (tb_w ((tb_w (s * 14)) + (if v = 0 then (if i % 14 ≠ 13 then tb_w (i % 14 + 1) else 13 : Int) else 0 : Int))) ∧ (tb_w ((tb_w (s * 14)) + (if v = 0 then (if i % 14 ≠ 13 then tb_w (i % 14 + 1) else 13 : Int) else 0 : Int))) < 11200) ∧ ((0 ≤ i ∧ i < 11200) ∧ ((0 ≤ (tb_w ((tb_w (s * 14)) + (if v = 0 then (if i % 14 ≠ 13 then tb_w (i % 14 + 1) else 13 : Int) else 0 : Int))) ∧ (tb_w ((tb_w (s * 14)) + (if v = 0 then (if i % 14 ≠ 13 then tb_w (i % 14 + 1) else 13 : Int) else 0 : Int))) < 11200) ∧ tb_E X 296 187 [tb_r 77, tb_i days, tb_i (tb_lng (A.1 80) (A.1 82 8) ln), tb_i d, tb_i i, tb_i (i % 14), tb_i (i / 14), tb_i (td_hu (A.1 82 3) (i % 14) d), tb_i (if td_hu (A.1 82 3) (i % 14) d < A.1 80 5 then 0 else (if A.1 80 116 ≤ 0 then 0 else 1 : Int) : Int), tb_i (tb_w (t + 1)), tb_i g, tb_i (if v = 0 then (if i % 14 ≠ 13 then tb_w (i % 14 + 1) else 13 : Int) else 0 : Int)] [] (tb_upL A3 97 (tb_w ((tb_w (s * 14)) + (if v = 0 then (if i % 14 ≠ 13 then tb_w (i % 14 + 1) else 13 : Int) else 0 : Int))) (tb_W ((A3.2.1 97 (tb_w ((tb_w (s * 14)) + (if v = 0 then (if i % 14 ≠ 13 then tb_w (i % 14 + 1) else 13 : Int) else 0 : Int)))) + (A3.2.1 96 i)))) (tb_Rv 296 Kv)))) := by
      intro v hv
      rw [e291 w.1.1 w.1.2 w.2.1.1 w.2.1.2 w.2.2.1 w.2.2.2]
      have en : (if v = 0 then (if i % 14 ≠ 13 then tb_w (i % 14 + 1) else 13 : Int) else 0 : Int) = td_n2 (A.1 80) (tb_wx x y g) (tb_wy x y g) n := by
        rw [tb_w_id (x := i % 14 + 1) (by omega) (by omega), ← hn']
        unfold td_n2
        cases c : td_wq (A.1 80) (tb_wx x y g) (tb_wy x y g)
        · rw [if_pos (hv.mpr c)]
          exact (if_neg (by decide)).symm
        · rw [if_neg (fun z => by rw [hv.mp z] at c; exact absurd c (by decide))]
          exact (if_pos rfl).symm
      have tb := td_t1B (r := A.1 80) x0 x1 y0 y1 gb.1 gb.2 n0 n1
      have n2 : 0 ≤ td_n2 (A.1 80) (tb_wx x y g) (tb_wy x y g) n ∧ td_n2 (A.1 80) (tb_wx x y g) (tb_wy x y g) n ≤ 13 := by
        unfold td_n2
        ((repeat' split) <;> omega)
      rw [en]
      have ez : tb_w (tb_w (((tb_wx x y g * 10 + tb_wy x y g) * 8 + tb_wh x y g) * 14) + td_n2 (A.1 80) (tb_wx x y g) (tb_wy x y g) n) = td_t1 (A.1 80) x y g n := by
        rw [tb_w_id (x := ((tb_wx x y g * 10 + tb_wy x y g) * 8 + tb_wh x y g) * 14) (by omega) (by omega), tb_w_id (by omega) (by omega)]
        rfl
      rw [ez, tb_w_id (x := t + 1) (by omega) (by omega)]
      have na := td_nva hn tb.1 tb.2 hc hG
      have c97 : (tc_sw B (tb_wx x y g) (tb_wy x y g) (tb_wh x y g)).2.1 = B.2.1 := rfl
      rw [c97, tb_W_id (by omega) (by omega)]
      refine ⟨tb, ⟨i0, i1⟩, tb, hk _ _ _ (tb_fr.upL (tb_fr.upI (tb_fr.upI (tb_fr.upI f rfl) rfl) rfl) rfl) ?_ ?_⟩
      · funext k
        show (if (96 : Nat) = 97 ∧ k = td_t1 (A.1 80) x y g n then B.2.1 97 (td_t1 (A.1 80) x y g n) + B.2.1 96 i else B.2.1 96 k) = _
        exact if_neg (fun z => absurd z.1 (by decide))
      · rw [td_upl, c97]
        have et : td_tg (A.1 80) (A.1 82 8) ln (A.1 82 3) d i t = td_t1 (A.1 80) x y g n := by
          unfold td_tg
          rw [← hx, ← hy, ← hh, ← hn', ← hg]
        rw [et]
        exact na.2
    show tb_Ci X 251 [tb_r 77, tb_i (tb_wx x y g), tb_i (tb_wy x y g)] (tc_sw B (tb_wx x y g) (tb_wy x y g) (tb_wh x y g)) _
    refine sp251 (A := tc_sw B (tb_wx x y g) (tb_wy x y g) (tb_wh x y g)) (MB.c rfl rfl) (fun q => ?_) (fun q => ?_)
    · have q : tb_isw (B.1 80) (tb_wx x y g) (tb_wy x y g) := q
      rw [e80] at q
      exact fin 1 ⟨fun z => absurd z (by decide), fun z => by rw [td_wq_t q] at z; exact absurd z (by decide)⟩
    · have q : ¬ tb_isw (B.1 80) (tb_wx x y g) (tb_wy x y g) := q
      rw [e80] at q
      exact fin 0 ⟨fun _ => td_wq_f q, fun _ => rfl⟩
  refine q296_187 ⟨fun q => absurd q (by omega), fun _ => ⟨fun q => ?_, fun q => ?_⟩⟩
  · rw [ex, ey, eh]
    have nb : ¬ (A.1 80 5 ≤ td_hu (A.1 82 3) n d ∧ 0 < A.1 80 116) := by
      rintro ⟨a, b⟩
      rw [← hn', if_neg (by omega), if_neg (by omega)] at q
      exact absurd q (by decide)
    have lb : tb_lng (A.1 80) (A.1 82 8) ln = -1 ∨ (0 ≤ tb_lng (A.1 80) (A.1 82 8) ln ∧ tb_lng (A.1 80) (A.1 82 8) ln ≤ 2) := by
      unfold tb_lng
      ((repeat' split) <;> omega)
    rw [e248 h0 h1 (by split <;> omega) (by split <;> omega)]
    refine tl _ ?_
    unfold td_hg tb_bear
    rw [if_neg nb]
    unfold tb_lng
    ((repeat' split) <;> omega)
  · have yb : A.1 80 5 ≤ td_hu (A.1 82 3) n d ∧ 0 < A.1 80 116 := by
      rw [← hn'] at q
      revert q
      ((repeat' split) <;> omega)
    rw [ex, ey, eh, e237 MB x0 x1 y0 y1 (by rw [e80]; exact yb.2), e80]
    refine tl _ ?_
    have b1 := td_hgB (r := A.1 80) (pl := A.1 82 8) (ln := ln) (h3 := A.1 82 3) (x := x) (y := y) (n := n) (d := d) (t := t) h0 h1 t0 (by omega)
    unfold td_hg tb_bear
    rw [if_pos yb]
    have twb : 0 ≤ tb_tw (A.1 80) x y h ∧ tb_tw (A.1 80) x y h ≤ 7 := by
      unfold tb_tw
      split
      · exact ⟨h0, h1⟩
      · rename_i n
        have f := (tb_hdf (tb_sgn3 _) (tb_sgn3 _) n).1
        omega
    rw [if_neg (by omega)]
end TBWAYS
