/-! LEAVES: small methods as equations -/
section TBLEAF
variable {X : tb_X} {A : tb_H} {K : Int → tb_H → Prop} {Kv : tb_H → Prop}
theorem e3 : tb_Ci X 3 [tb_r 1] A K = K (A.1 1 2) A := tb_dei (q3 ⟨rfl, rfl⟩)
theorem e5 {a b c : Int} : tb_Ci X 5 [tb_i a, tb_i b, tb_i c] A K = K (if a < b then 1 else (if a ≤ c then 0 else 1 : Int) : Int) A := tb_dei (q5 ⟨rfl, rfl⟩)
theorem e6 {x : Int} : tb_Ci X 6 [tb_r 0, tb_i x] A K = K (if x = 0 then 0 else 1 : Int) (tb_upI A 0 13 x) := tb_dei (q6 ⟨rfl, rfl⟩)
theorem e48 : tb_Ci X 48 [tb_r 1] A K = K (A.1 1 11) A := tb_dei (q48 ⟨rfl, rfl⟩)
theorem e52 {x y : Int} : tb_Ci X 52 [tb_i x, tb_i y] A K = K (tb_w ((tb_w (y * 10)) + x)) A := tb_dei (q52 ⟨rfl, rfl⟩)
theorem e53 {f s : Int} (h0 : 0 ≤ f) (h1 : f < 4) : tb_Cv X 53 [tb_r 4, tb_i f, tb_i s] A Kv = Kv (tb_upI A 8 f s) := tb_dev (q53 ⟨fun h => by omega, fun _ => ⟨fun h => by omega, fun _ => rfl⟩⟩)
theorem e54 (h0 : 0 ≤ A.1 5 0) (h1 : A.1 5 0 < 201) : tb_Cv X 54 [tb_r 4] A Kv = Kv (tb_upI A 10 (A.1 5 0) (A.1 5 2)) := tb_dev (q54 ⟨fun h => by omega, fun _ => ⟨fun h => by omega, fun _ => rfl⟩⟩)
theorem e55 : tb_Cv X 55 [tb_r 17] A Kv = Kv (tb_upI A 17 4 0) := tb_dev (q55 rfl)
theorem e56 : tb_Cv X 56 [tb_r 42] A Kv = Kv (tb_upI A 42 2 0) := tb_dev (q56 rfl)
theorem e57 : tb_Ci X 57 [tb_r 0] A K = K (A.1 0 11) A := tb_dei (q57 ⟨rfl, rfl⟩)
theorem e58 : tb_Ci X 58 [tb_r 0] A K = K (if (A.1 0 13) ≠ 4 then -1 else A.1 0 12 : Int) A := tb_dei (q58 ⟨rfl, rfl⟩)
theorem e65g {x : Int} : tb_Ci X 65 [tb_r 4, tb_i x] A K = K (if x < 0 then 1 else (if x < 6 then A.1 6 x else 1 : Int) : Int) A := tb_dei (q65 ⟨rfl, rfl⟩)
theorem e67 {h v : Int} (h0 : 0 ≤ h) (h1 : h < 6) : tb_Cv X 67 [tb_r 4, tb_i h, tb_i v] A Kv = Kv (tb_upI A 6 h v) := tb_dev (q67 ⟨fun h => by omega, fun _ => ⟨fun h => by omega, fun _ => rfl⟩⟩)
theorem e71 {h v : Int} (h0 : 0 ≤ h) (h1 : h < 4) : tb_Cv X 71 [tb_r 4, tb_i h, tb_i v] A Kv = Kv (tb_upI A 7 h v) := tb_dev (q71 ⟨fun h => by omega, fun _ => ⟨fun h => by omega, fun _ => rfl⟩⟩)
theorem e82 {x : Int} (h : 0 ≤ x) : tb_Ci X 82 [tb_i x] A K = K (x % 10) A := tb_dei (q82 ⟨by rw [Int.tmod_eq_emod_of_nonneg h], rfl⟩)
theorem e83 {x : Int} (h : 0 ≤ x) (h1 : x < 2147483648) : tb_Ci X 83 [tb_i x] A K = K (x / 10) A := tb_dei (q83 ⟨by rw [Int.tdiv_eq_ediv_of_nonneg h, tb_w_id (by omega) (by omega)], rfl⟩)
theorem e99 {h v : Int} (h0 : 0 ≤ h) (h1 : h < 8) : tb_Cv X 99 [tb_r 4, tb_i h, tb_i v] A Kv = Kv (tb_upI A 9 h v) := tb_dev (q99 ⟨fun h => by omega, fun _ => ⟨fun h => by omega, fun _ => rfl⟩⟩)
theorem e104 {x : Int} (h0 : 0 ≤ x) (h1 : x < 201) : tb_Ci X 104 [tb_r 4, tb_i x] A K = K (A.1 10 x) A := tb_dei (q104 (by rw [if_neg (by omega), if_pos h1]; exact ⟨rfl, rfl⟩))
theorem e121 {x : Int} : tb_Cv X 121 [tb_r 4, tb_i x] A Kv = Kv (tb_upI A 5 10 (tb_xor (A.1 5 10) (tb_shl 1 x))) := tb_dev (q121 rfl)
theorem e125 : tb_Ci X 125 [tb_r 17] A K = K (A.1 17 4) A := tb_dei (q125 ⟨rfl, rfl⟩)
theorem e164 : tb_Ci X 164 [tb_r 42] A K = K (A.1 42 2) A := tb_dei (q164 ⟨rfl, rfl⟩)
theorem e195 : tb_Ci X 195 [tb_r 0] A K = K (A.1 0 13) A := tb_dei (q195 ⟨rfl, rfl⟩)
theorem e198 : tb_Ci X 198 [tb_r 77] A K = K (A.1 77 0) A := tb_dei (q198 ⟨rfl, rfl⟩)
theorem e201 : tb_Cv X 201 [tb_r 77] A Kv = Kv (tb_upI (tb_upI A 77 0 0) 77 11 0) := tb_dev (q201 rfl)
theorem e202 {a b c : Int} : tb_Ci X 202 [tb_i a, tb_i b, tb_i c] A K = K (if a < b then 0 else (if c < a then 0 else 1 : Int) : Int) A := tb_dei (q202 ⟨rfl, rfl⟩)
theorem e203 {x : Int} : tb_Ci X 203 [tb_r 77, tb_i x] A K = K (-1) (tb_upI A 77 11 x) := tb_dei (q203 ⟨rfl, rfl⟩)
theorem e224 {a b : Int} : tb_Ci X 224 [tb_i a, tb_i b] A K = K (if (tb_and (tb_shr a b) 1) ≠ 1 then 0 else 1 : Int) A := tb_dei (q224 ⟨rfl, rfl⟩)
theorem e230 : tb_Ci X 230 [tb_r 77] A K = K (A.1 77 9) (tb_upI A 77 0 0) := tb_dei (q230 ⟨rfl, rfl⟩)
theorem e231 : tb_Ci X 231 [tb_r 77] A K = K (if (A.1 77 11) ≠ 4 then -1 else A.1 77 10 : Int) (tb_upI A 77 0 0) := tb_dei (q231 ⟨rfl, rfl⟩)
theorem e233 {x : Int} : tb_Ci X 233 [tb_r 77, tb_i x] A K = K 0 (tb_upI A 77 11 x) := tb_dei (q233 ⟨rfl, rfl⟩)
theorem e239 {x : Int} (h0 : -2147483647 ≤ x) (h1 : x < 2147483648) : tb_Ci X 239 [tb_i x] A K = K (tc_ab x) A := tb_dei (q239 ⟨by unfold tc_ab; rw [tb_w_id (by omega) (by omega)], rfl⟩)
theorem e240 {x y : Int} : tb_Ci X 240 [tb_i x, tb_i y] A K = K (tb_mx2 x y) A := tb_dei (q240 ⟨rfl, rfl⟩)
theorem e259 {x y : Int} : tb_Ci X 259 [tb_r 77, tb_i x, tb_i y] A K = K y (tb_upI A 77 11 x) := tb_dei (q259 ⟨rfl, rfl⟩)
theorem e322 : tb_Ci X 322 [tb_r 77] A K = K (A.1 77 11) (tb_upI A 77 0 0) := tb_dei (q322 ⟨rfl, rfl⟩)
theorem e250 {x y : Int} : tb_Ci X 250 [tb_i x, tb_i y] A K = K (if 0 ≤ x ∧ x ≤ 9 ∧ 0 ≤ y ∧ y ≤ 9 then 1 else 0 : Int) A := by
  refine tb_dei (q250 ?_)
  simp only [e202]
  refine ⟨fun h => ⟨?_, trivial⟩, fun h => ⟨?_, trivial⟩⟩
  · repeat' split at h
    all_goals (first | (rw [if_neg (by omega)]) | (exfalso; omega))
  · repeat' split
    all_goals omega
theorem e28g {b : Nat} (hb : tb_isB b) {x : Int} (h0 : 0 ≤ x) (h1 : x < 9) : tb_Ci X 28 [tb_r b, tb_i x] A K = K (A.1 (b + 1) x) A := tb_dei (q28 hb ⟨by rw [if_neg (by omega), if_pos h1], rfl⟩)
theorem e28 (L : tb_L A) {s : Int} (h0 : 0 ≤ s) (h1 : s < 9) : tb_Ci X 28 [tb_r (A.2.2 4 1), tb_i s] A K = K (A.1 80 (110 + s)) A := by rw [e28g L.b h0 h1, L.ct h0 h1]
theorem e28_0 (L : tb_L A) : tb_Ci X 28 [tb_r (A.2.2 4 1), tb_i 0] A K = K (A.1 80 110) A := e28 L (by decide) (by decide)
theorem e28_1 (L : tb_L A) : tb_Ci X 28 [tb_r (A.2.2 4 1), tb_i 1] A K = K (A.1 80 111) A := e28 L (by decide) (by decide)
theorem e28_2 (L : tb_L A) : tb_Ci X 28 [tb_r (A.2.2 4 1), tb_i 2] A K = K (A.1 80 112) A := e28 L (by decide) (by decide)
theorem e28_3 (L : tb_L A) : tb_Ci X 28 [tb_r (A.2.2 4 1), tb_i 3] A K = K (A.1 80 113) A := e28 L (by decide) (by decide)
theorem e28_4 (L : tb_L A) : tb_Ci X 28 [tb_r (A.2.2 4 1), tb_i 4] A K = K (A.1 80 114) A := e28 L (by decide) (by decide)
theorem e28_5 (L : tb_L A) : tb_Ci X 28 [tb_r (A.2.2 4 1), tb_i 5] A K = K (A.1 80 115) A := e28 L (by decide) (by decide)
theorem e28_6 (L : tb_L A) : tb_Ci X 28 [tb_r (A.2.2 4 1), tb_i 6] A K = K (A.1 80 116) A := e28 L (by decide) (by decide)
theorem e28_7 (L : tb_L A) : tb_Ci X 28 [tb_r (A.2.2 4 1), tb_i 7] A K = K (A.1 80 117) A := e28 L (by decide) (by decide)
theorem e28_8 (L : tb_L A) : tb_Ci X 28 [tb_r (A.2.2 4 1), tb_i 8] A K = K (A.1 80 118) A := e28 L (by decide) (by decide)
theorem e41 (L : tb_L A) {s l x c : Int} (hs0 : 0 ≤ s) (hs1 : s < 9) (hx0 : 0 ≤ x) (hx1 : x < 6) (hp : (s * 48 + x, 110 + s, c) ∈ tb_tab) (l0 : 0 ≤ l) (l1 : l < A.1 80 (110 + s)) (l2 : l < 8) : tb_Ci X 41 [tb_r (A.2.2 4 1), tb_i s, tb_i l, tb_i x] A K = K (A.1 80 (c + l)) A := by
  refine tb_dei (q41 L.b ?_)
  refine ⟨fun h => by omega, fun _ => ⟨fun h => by omega, fun _ => ⟨fun h => by omega, fun _ => ⟨fun h => ?_, fun _ => ⟨fun h => by omega, fun _ => ⟨fun _ => ?_, fun h => by omega⟩⟩⟩⟩⟩⟩
  · rw [L.ct hs0 hs1] at h; omega
  · rw [tb_w_id (x := s * 8) (by omega) (by omega), tb_w_id (x := s * 8 + l) (by omega) (by omega), tb_w_id (x := (s * 8 + l) * 6) (by omega) (by omega), tb_w_id (x := (s * 8 + l) * 6 + x) (by omega) (by omega)]
    rw [if_neg (by omega), if_pos (by omega), show (s * 8 + l) * 6 + x = s * 48 + x + 6 * l by omega, L.va hp l0 l1]
    exact ⟨rfl, rfl⟩
theorem e41n (L : tb_L A) {s l x : Int} (hs0 : 0 ≤ s) (hs1 : s < 9) (hx0 : 0 ≤ x) (hx1 : x < 6) (l0 : 0 ≤ l) (l1 : A.1 80 (110 + s) ≤ l) : tb_Ci X 41 [tb_r (A.2.2 4 1), tb_i s, tb_i l, tb_i x] A K = K 0 A := by
  refine tb_dei (q41 L.b ?_)
  refine ⟨fun h => by omega, fun _ => ⟨fun h => by omega, fun _ => ⟨fun h => by omega, fun _ => ⟨fun h => ⟨rfl, rfl⟩, fun h => ?_⟩⟩⟩⟩
  rw [L.ct hs0 hs1] at h; omega
theorem e41_00 (L : tb_L A) : tb_Ci X 41 [tb_r (A.2.2 4 1), tb_i 0, tb_i 0, tb_i 0] A K = K (A.1 80 0) A := by
  have := L.c110
  exact e41 (s := 0) (x := 0) (c := 0) (l := 0) L (by decide) (by decide) (by decide) (by decide) (by decide) (by decide) (by show 0 < A.1 80 110; omega) (by decide)
theorem e41_01 (L : tb_L A) : tb_Ci X 41 [tb_r (A.2.2 4 1), tb_i 0, tb_i 0, tb_i 1] A K = K (A.1 80 1) A := by
  have := L.c110
  exact e41 (s := 0) (x := 1) (c := 1) (l := 0) L (by decide) (by decide) (by decide) (by decide) (by decide) (by decide) (by show 0 < A.1 80 110; omega) (by decide)
theorem e41_02 (L : tb_L A) : tb_Ci X 41 [tb_r (A.2.2 4 1), tb_i 0, tb_i 0, tb_i 2] A K = K (A.1 80 2) A := by
  have := L.c110
  exact e41 (s := 0) (x := 2) (c := 2) (l := 0) L (by decide) (by decide) (by decide) (by decide) (by decide) (by decide) (by show 0 < A.1 80 110; omega) (by decide)
theorem e41_03 (L : tb_L A) : tb_Ci X 41 [tb_r (A.2.2 4 1), tb_i 0, tb_i 0, tb_i 3] A K = K (A.1 80 3) A := by
  have := L.c110
  exact e41 (s := 0) (x := 3) (c := 3) (l := 0) L (by decide) (by decide) (by decide) (by decide) (by decide) (by decide) (by show 0 < A.1 80 110; omega) (by decide)
theorem e41_04 (L : tb_L A) : tb_Ci X 41 [tb_r (A.2.2 4 1), tb_i 0, tb_i 0, tb_i 4] A K = K (A.1 80 4) A := by
  have := L.c110
  exact e41 (s := 0) (x := 4) (c := 4) (l := 0) L (by decide) (by decide) (by decide) (by decide) (by decide) (by decide) (by show 0 < A.1 80 110; omega) (by decide)
theorem e41_05 (L : tb_L A) : tb_Ci X 41 [tb_r (A.2.2 4 1), tb_i 0, tb_i 0, tb_i 5] A K = K (A.1 80 5) A := by
  have := L.c110
  exact e41 (s := 0) (x := 5) (c := 5) (l := 0) L (by decide) (by decide) (by decide) (by decide) (by decide) (by decide) (by show 0 < A.1 80 110; omega) (by decide)
theorem e41_10 (L : tb_L A) : tb_Ci X 41 [tb_r (A.2.2 4 1), tb_i 1, tb_i 0, tb_i 0] A K = K (A.1 80 6) A := by
  have := L.c111
  exact e41 (s := 1) (x := 0) (c := 6) (l := 0) L (by decide) (by decide) (by decide) (by decide) (by decide) (by decide) (by show 0 < A.1 80 111; omega) (by decide)
theorem e41_11 (L : tb_L A) : tb_Ci X 41 [tb_r (A.2.2 4 1), tb_i 1, tb_i 0, tb_i 1] A K = K (A.1 80 7) A := by
  have := L.c111
  exact e41 (s := 1) (x := 1) (c := 7) (l := 0) L (by decide) (by decide) (by decide) (by decide) (by decide) (by decide) (by show 0 < A.1 80 111; omega) (by decide)
theorem e41_12 (L : tb_L A) : tb_Ci X 41 [tb_r (A.2.2 4 1), tb_i 1, tb_i 0, tb_i 2] A K = K (A.1 80 8) A := by
  have := L.c111
  exact e41 (s := 1) (x := 2) (c := 8) (l := 0) L (by decide) (by decide) (by decide) (by decide) (by decide) (by decide) (by show 0 < A.1 80 111; omega) (by decide)
theorem e41_20 (L : tb_L A) {l : Int} (l0 : 0 ≤ l) (l1 : l < A.1 80 112) : tb_Ci X 41 [tb_r (A.2.2 4 1), tb_i 2, tb_i l, tb_i 0] A K = K (A.1 80 (9 + l)) A := by
  have := L.c112
  exact e41 (s := 2) (x := 0) (c := 9) L (by decide) (by decide) (by decide) (by decide) (by decide) l0 l1 (by omega)
theorem e41_21 (L : tb_L A) {l : Int} (l0 : 0 ≤ l) (l1 : l < A.1 80 112) : tb_Ci X 41 [tb_r (A.2.2 4 1), tb_i 2, tb_i l, tb_i 1] A K = K (A.1 80 (17 + l)) A := by
  have := L.c112
  exact e41 (s := 2) (x := 1) (c := 17) L (by decide) (by decide) (by decide) (by decide) (by decide) l0 l1 (by omega)
theorem e41_22 (L : tb_L A) {l : Int} (l0 : 0 ≤ l) (l1 : l < A.1 80 112) : tb_Ci X 41 [tb_r (A.2.2 4 1), tb_i 2, tb_i l, tb_i 2] A K = K (A.1 80 (25 + l)) A := by
  have := L.c112
  exact e41 (s := 2) (x := 2) (c := 25) L (by decide) (by decide) (by decide) (by decide) (by decide) l0 l1 (by omega)
theorem e41_30 (L : tb_L A) {l : Int} (l0 : 0 ≤ l) (l1 : l < A.1 80 113) : tb_Ci X 41 [tb_r (A.2.2 4 1), tb_i 3, tb_i l, tb_i 0] A K = K (A.1 80 (33 + l)) A := by
  have := L.c113
  exact e41 (s := 3) (x := 0) (c := 33) L (by decide) (by decide) (by decide) (by decide) (by decide) l0 l1 (by omega)
theorem e41_31 (L : tb_L A) {l : Int} (l0 : 0 ≤ l) (l1 : l < A.1 80 113) : tb_Ci X 41 [tb_r (A.2.2 4 1), tb_i 3, tb_i l, tb_i 1] A K = K (A.1 80 (39 + l)) A := by
  have := L.c113
  exact e41 (s := 3) (x := 1) (c := 39) L (by decide) (by decide) (by decide) (by decide) (by decide) l0 l1 (by omega)
theorem e41_32 (L : tb_L A) {l : Int} (l0 : 0 ≤ l) (l1 : l < A.1 80 113) : tb_Ci X 41 [tb_r (A.2.2 4 1), tb_i 3, tb_i l, tb_i 2] A K = K (A.1 80 (45 + l)) A := by
  have := L.c113
  exact e41 (s := 3) (x := 2) (c := 45) L (by decide) (by decide) (by decide) (by decide) (by decide) l0 l1 (by omega)
theorem e41_33 (L : tb_L A) {l : Int} (l0 : 0 ≤ l) (l1 : l < A.1 80 113) : tb_Ci X 41 [tb_r (A.2.2 4 1), tb_i 3, tb_i l, tb_i 3] A K = K (A.1 80 (51 + l)) A := by
  have := L.c113
  exact e41 (s := 3) (x := 3) (c := 51) L (by decide) (by decide) (by decide) (by decide) (by decide) l0 l1 (by omega)
theorem e41_40 (L : tb_L A) {l : Int} (l0 : 0 ≤ l) (l1 : l < A.1 80 114) : tb_Ci X 41 [tb_r (A.2.2 4 1), tb_i 4, tb_i l, tb_i 0] A K = K (A.1 80 (57 + l)) A := by
  have := L.c114
  exact e41 (s := 4) (x := 0) (c := 57) L (by decide) (by decide) (by decide) (by decide) (by decide) l0 l1 (by omega)
theorem e41_41 (L : tb_L A) {l : Int} (l0 : 0 ≤ l) (l1 : l < A.1 80 114) : tb_Ci X 41 [tb_r (A.2.2 4 1), tb_i 4, tb_i l, tb_i 1] A K = K (A.1 80 (61 + l)) A := by
  have := L.c114
  exact e41 (s := 4) (x := 1) (c := 61) L (by decide) (by decide) (by decide) (by decide) (by decide) l0 l1 (by omega)
theorem e41_50 (L : tb_L A) {l : Int} (l0 : 0 ≤ l) (l1 : l < A.1 80 115) : tb_Ci X 41 [tb_r (A.2.2 4 1), tb_i 5, tb_i l, tb_i 0] A K = K (A.1 80 (65 + l)) A := by
  have := L.c115
  exact e41 (s := 5) (x := 0) (c := 65) L (by decide) (by decide) (by decide) (by decide) (by decide) l0 l1 (by omega)
theorem e41_51 (L : tb_L A) {l : Int} (l0 : 0 ≤ l) (l1 : l < A.1 80 115) : tb_Ci X 41 [tb_r (A.2.2 4 1), tb_i 5, tb_i l, tb_i 1] A K = K (A.1 80 (69 + l)) A := by
  have := L.c115
  exact e41 (s := 5) (x := 1) (c := 69) L (by decide) (by decide) (by decide) (by decide) (by decide) l0 l1 (by omega)
theorem e41_60 (L : tb_L A) {l : Int} (l0 : 0 ≤ l) (l1 : l < A.1 80 116) : tb_Ci X 41 [tb_r (A.2.2 4 1), tb_i 6, tb_i l, tb_i 0] A K = K (A.1 80 (73 + l)) A := by
  have := L.c116
  exact e41 (s := 6) (x := 0) (c := 73) L (by decide) (by decide) (by decide) (by decide) (by decide) l0 l1 (by omega)
theorem e41_61 (L : tb_L A) {l : Int} (l0 : 0 ≤ l) (l1 : l < A.1 80 116) : tb_Ci X 41 [tb_r (A.2.2 4 1), tb_i 6, tb_i l, tb_i 1] A K = K (A.1 80 (77 + l)) A := by
  have := L.c116
  exact e41 (s := 6) (x := 1) (c := 77) L (by decide) (by decide) (by decide) (by decide) (by decide) l0 l1 (by omega)
theorem e41_70 (L : tb_L A) {l : Int} (l0 : 0 ≤ l) (l1 : l < A.1 80 117) : tb_Ci X 41 [tb_r (A.2.2 4 1), tb_i 7, tb_i l, tb_i 0] A K = K (A.1 80 (81 + l)) A := by
  have := L.c117
  exact e41 (s := 7) (x := 0) (c := 81) L (by decide) (by decide) (by decide) (by decide) (by decide) l0 l1 (by omega)
theorem e41_71 (L : tb_L A) {l : Int} (l0 : 0 ≤ l) (l1 : l < A.1 80 117) : tb_Ci X 41 [tb_r (A.2.2 4 1), tb_i 7, tb_i l, tb_i 1] A K = K (A.1 80 (85 + l)) A := by
  have := L.c117
  exact e41 (s := 7) (x := 1) (c := 85) L (by decide) (by decide) (by decide) (by decide) (by decide) l0 l1 (by omega)
theorem e41_72 (L : tb_L A) {l : Int} (l0 : 0 ≤ l) (l1 : l < A.1 80 117) : tb_Ci X 41 [tb_r (A.2.2 4 1), tb_i 7, tb_i l, tb_i 2] A K = K (A.1 80 (89 + l)) A := by
  have := L.c117
  exact e41 (s := 7) (x := 2) (c := 89) L (by decide) (by decide) (by decide) (by decide) (by decide) l0 l1 (by omega)
theorem e41_73 (L : tb_L A) {l : Int} (l0 : 0 ≤ l) (l1 : l < A.1 80 117) : tb_Ci X 41 [tb_r (A.2.2 4 1), tb_i 7, tb_i l, tb_i 3] A K = K (A.1 80 (93 + l)) A := by
  have := L.c117
  exact e41 (s := 7) (x := 3) (c := 93) L (by decide) (by decide) (by decide) (by decide) (by decide) l0 l1 (by omega)
theorem e41_74 (L : tb_L A) {l : Int} (l0 : 0 ≤ l) (l1 : l < A.1 80 117) : tb_Ci X 41 [tb_r (A.2.2 4 1), tb_i 7, tb_i l, tb_i 4] A K = K (A.1 80 (97 + l)) A := by
  have := L.c117
  exact e41 (s := 7) (x := 4) (c := 97) L (by decide) (by decide) (by decide) (by decide) (by decide) l0 l1 (by omega)
theorem e41_80 (L : tb_L A) {l : Int} (l0 : 0 ≤ l) (l1 : l < A.1 80 118) : tb_Ci X 41 [tb_r (A.2.2 4 1), tb_i 8, tb_i l, tb_i 0] A K = K (A.1 80 (101 + l)) A := by
  have := L.c118
  exact e41 (s := 8) (x := 0) (c := 101) L (by decide) (by decide) (by decide) (by decide) (by decide) l0 l1 (by omega)
theorem e41_81 (L : tb_L A) {l : Int} (l0 : 0 ≤ l) (l1 : l < A.1 80 118) : tb_Ci X 41 [tb_r (A.2.2 4 1), tb_i 8, tb_i l, tb_i 1] A K = K (A.1 80 (104 + l)) A := by
  have := L.c118
  exact e41 (s := 8) (x := 1) (c := 104) L (by decide) (by decide) (by decide) (by decide) (by decide) l0 l1 (by omega)
theorem e41_82 (L : tb_L A) {l : Int} (l0 : 0 ≤ l) (l1 : l < A.1 80 118) : tb_Ci X 41 [tb_r (A.2.2 4 1), tb_i 8, tb_i l, tb_i 2] A K = K (A.1 80 (107 + l)) A := by
  have := L.c118
  exact e41 (s := 8) (x := 2) (c := 107) L (by decide) (by decide) (by decide) (by decide) (by decide) l0 l1 (by omega)
theorem tc_M.v0 (L : tc_M A) : 0 ≤ A.1 80 0 ∧ A.1 80 0 ≤ 9 := L.bd0 (a := 110) (b := 0) (c := 0) (d := 9) (by decide) (by rw [L.c110]; decide)
theorem tc_M.v1 (L : tc_M A) : 0 ≤ A.1 80 1 ∧ A.1 80 1 ≤ 9 := L.bd0 (a := 110) (b := 1) (c := 0) (d := 9) (by decide) (by rw [L.c110]; decide)
theorem tc_M.v2 (L : tc_M A) : 1 ≤ A.1 80 2 ∧ A.1 80 2 ≤ 99 := L.bd0 (a := 110) (b := 2) (c := 1) (d := 99) (by decide) (by rw [L.c110]; decide)
theorem tc_M.v3 (L : tc_M A) : 1 ≤ A.1 80 3 ∧ A.1 80 3 ≤ 30 := L.bd0 (a := 110) (b := 3) (c := 1) (d := 30) (by decide) (by rw [L.c110]; decide)
theorem tc_M.v4 (L : tc_M A) : 0 ≤ A.1 80 4 ∧ A.1 80 4 ≤ 99 := L.bd0 (a := 110) (b := 4) (c := 0) (d := 99) (by decide) (by rw [L.c110]; decide)
theorem tc_M.v5 (L : tc_M A) : 1 ≤ A.1 80 5 ∧ A.1 80 5 ≤ 30 := L.bd0 (a := 110) (b := 5) (c := 1) (d := 30) (by decide) (by rw [L.c110]; decide)
theorem tc_M.v6 (L : tc_M A) : 0 ≤ A.1 80 6 ∧ A.1 80 6 ≤ 9 := L.bd0 (a := 111) (b := 6) (c := 0) (d := 9) (by decide) (by rw [L.c111]; decide)
theorem tc_M.v7 (L : tc_M A) : 0 ≤ A.1 80 7 ∧ A.1 80 7 ≤ 9 := L.bd0 (a := 111) (b := 7) (c := 0) (d := 9) (by decide) (by rw [L.c111]; decide)
theorem tc_M.v8 (L : tc_M A) : 0 ≤ A.1 80 8 ∧ A.1 80 8 ≤ 7 := L.bd0 (a := 111) (b := 8) (c := 0) (d := 7) (by decide) (by rw [L.c111]; decide)
theorem tc_M.v9 (L : tc_M A) {l : Int} (l0 : 0 ≤ l) (l1 : l < A.1 80 112) : 0 ≤ A.1 80 (9 + l) ∧ A.1 80 (9 + l) ≤ 9 := L.bd (a := 112) (b := 9) (c := 0) (d := 9) (by decide) l0 l1
theorem tc_M.v17 (L : tc_M A) {l : Int} (l0 : 0 ≤ l) (l1 : l < A.1 80 112) : 0 ≤ A.1 80 (17 + l) ∧ A.1 80 (17 + l) ≤ 9 := L.bd (a := 112) (b := 17) (c := 0) (d := 9) (by decide) l0 l1
theorem tc_M.v25 (L : tc_M A) {l : Int} (l0 : 0 ≤ l) (l1 : l < A.1 80 112) : 1 ≤ A.1 80 (25 + l) ∧ A.1 80 (25 + l) ≤ 99 := L.bd (a := 112) (b := 25) (c := 1) (d := 99) (by decide) l0 l1
theorem tc_M.v39 (L : tc_M A) {l : Int} (l0 : 0 ≤ l) (l1 : l < A.1 80 113) : 1 ≤ A.1 80 (39 + l) ∧ A.1 80 (39 + l) ≤ 30 := L.bd (a := 113) (b := 39) (c := 1) (d := 30) (by decide) l0 l1
theorem tc_M.v45 (L : tc_M A) {l : Int} (l0 : 0 ≤ l) (l1 : l < A.1 80 113) : 1 ≤ A.1 80 (45 + l) ∧ A.1 80 (45 + l) ≤ 60 := L.bd (a := 113) (b := 45) (c := 1) (d := 60) (by decide) l0 l1
theorem tc_M.v51 (L : tc_M A) {l : Int} (l0 : 0 ≤ l) (l1 : l < A.1 80 113) : 1 ≤ A.1 80 (51 + l) ∧ A.1 80 (51 + l) ≤ 99 := L.bd (a := 113) (b := 51) (c := 1) (d := 99) (by decide) l0 l1
theorem tc_M.v61 (L : tc_M A) {l : Int} (l0 : 0 ≤ l) (l1 : l < A.1 80 114) : 1 ≤ A.1 80 (61 + l) ∧ A.1 80 (61 + l) ≤ 30 := L.bd (a := 114) (b := 61) (c := 1) (d := 30) (by decide) l0 l1
theorem tc_M.v69 (L : tc_M A) {l : Int} (l0 : 0 ≤ l) (l1 : l < A.1 80 115) : 1 ≤ A.1 80 (69 + l) ∧ A.1 80 (69 + l) ≤ 9 := L.bd (a := 115) (b := 69) (c := 1) (d := 9) (by decide) l0 l1
theorem tc_M.v73 (L : tc_M A) {l : Int} (l0 : 0 ≤ l) (l1 : l < A.1 80 116) : 0 ≤ A.1 80 (73 + l) ∧ A.1 80 (73 + l) ≤ 9 := L.bd (a := 116) (b := 73) (c := 0) (d := 9) (by decide) l0 l1
theorem tc_M.v77 (L : tc_M A) {l : Int} (l0 : 0 ≤ l) (l1 : l < A.1 80 116) : 0 ≤ A.1 80 (77 + l) ∧ A.1 80 (77 + l) ≤ 9 := L.bd (a := 116) (b := 77) (c := 0) (d := 9) (by decide) l0 l1
theorem tc_M.v81 (L : tc_M A) {l : Int} (l0 : 0 ≤ l) (l1 : l < A.1 80 117) : 0 ≤ A.1 80 (81 + l) ∧ A.1 80 (81 + l) ≤ 9 := L.bd (a := 117) (b := 81) (c := 0) (d := 9) (by decide) l0 l1
theorem tc_M.v85 (L : tc_M A) {l : Int} (l0 : 0 ≤ l) (l1 : l < A.1 80 117) : 0 ≤ A.1 80 (85 + l) ∧ A.1 80 (85 + l) ≤ 9 := L.bd (a := 117) (b := 85) (c := 0) (d := 9) (by decide) l0 l1
theorem tc_M.v89 (L : tc_M A) {l : Int} (l0 : 0 ≤ l) (l1 : l < A.1 80 117) : 1 ≤ A.1 80 (89 + l) ∧ A.1 80 (89 + l) ≤ 99 := L.bd (a := 117) (b := 89) (c := 1) (d := 99) (by decide) l0 l1
theorem tc_M.v93 (L : tc_M A) {l : Int} (l0 : 0 ≤ l) (l1 : l < A.1 80 117) : 1 ≤ A.1 80 (93 + l) ∧ A.1 80 (93 + l) ≤ 99 := L.bd (a := 117) (b := 93) (c := 1) (d := 99) (by decide) l0 l1
theorem tc_M.v97 (L : tc_M A) {l : Int} (l0 : 0 ≤ l) (l1 : l < A.1 80 117) : 1 ≤ A.1 80 (97 + l) ∧ A.1 80 (97 + l) ≤ 99 := L.bd (a := 117) (b := 97) (c := 1) (d := 99) (by decide) l0 l1
theorem tc_M.v104 (L : tc_M A) {l : Int} (l0 : 0 ≤ l) (l1 : l < A.1 80 118) : 1 ≤ A.1 80 (104 + l) ∧ A.1 80 (104 + l) ≤ 99 := L.bd (a := 118) (b := 104) (c := 1) (d := 99) (by decide) l0 l1
theorem tc_M.v107 (L : tc_M A) {l : Int} (l0 : 0 ≤ l) (l1 : l < A.1 80 118) : 0 ≤ A.1 80 (107 + l) ∧ A.1 80 (107 + l) ≤ 1 := L.bd (a := 118) (b := 107) (c := 0) (d := 1) (by decide) l0 l1
theorem tc_M.v33 (L : tc_M A) {l : Int} (l0 : 0 ≤ l) (l1 : l < A.1 80 113) : 0 ≤ A.1 80 (33 + l) ∧ A.1 80 (33 + l) < A.1 80 112 := L.sc (a := 113) (b := 33) (by decide) l0 l1
theorem tc_M.v57 (L : tc_M A) {l : Int} (l0 : 0 ≤ l) (l1 : l < A.1 80 114) : 0 ≤ A.1 80 (57 + l) ∧ A.1 80 (57 + l) < A.1 80 112 := L.sc (a := 114) (b := 57) (by decide) l0 l1
theorem tc_M.v65 (L : tc_M A) {l : Int} (l0 : 0 ≤ l) (l1 : l < A.1 80 115) : 0 ≤ A.1 80 (65 + l) ∧ A.1 80 (65 + l) < A.1 80 112 := L.sc (a := 115) (b := 65) (by decide) l0 l1
theorem tc_M.v101 (L : tc_M A) {l : Int} (l0 : 0 ≤ l) (l1 : l < A.1 80 118) : 0 ≤ A.1 80 (101 + l) ∧ A.1 80 (101 + l) < A.1 80 112 := L.sc (a := 118) (b := 101) (by decide) l0 l1
def tb_L.v0 (L : tb_L A) := @tc_M.v0 A L.M
def tb_L.v1 (L : tb_L A) := @tc_M.v1 A L.M
def tb_L.v2 (L : tb_L A) := @tc_M.v2 A L.M
def tb_L.v3 (L : tb_L A) := @tc_M.v3 A L.M
def tb_L.v4 (L : tb_L A) := @tc_M.v4 A L.M
def tb_L.v5 (L : tb_L A) := @tc_M.v5 A L.M
def tb_L.v6 (L : tb_L A) := @tc_M.v6 A L.M
def tb_L.v7 (L : tb_L A) := @tc_M.v7 A L.M
def tb_L.v8 (L : tb_L A) := @tc_M.v8 A L.M
def tb_L.v9 (L : tb_L A) := @tc_M.v9 A L.M
def tb_L.v17 (L : tb_L A) := @tc_M.v17 A L.M
def tb_L.v25 (L : tb_L A) := @tc_M.v25 A L.M
def tb_L.v39 (L : tb_L A) := @tc_M.v39 A L.M
def tb_L.v45 (L : tb_L A) := @tc_M.v45 A L.M
def tb_L.v51 (L : tb_L A) := @tc_M.v51 A L.M
def tb_L.v61 (L : tb_L A) := @tc_M.v61 A L.M
def tb_L.v69 (L : tb_L A) := @tc_M.v69 A L.M
def tb_L.v73 (L : tb_L A) := @tc_M.v73 A L.M
def tb_L.v77 (L : tb_L A) := @tc_M.v77 A L.M
def tb_L.v81 (L : tb_L A) := @tc_M.v81 A L.M
def tb_L.v85 (L : tb_L A) := @tc_M.v85 A L.M
def tb_L.v89 (L : tb_L A) := @tc_M.v89 A L.M
def tb_L.v93 (L : tb_L A) := @tc_M.v93 A L.M
def tb_L.v97 (L : tb_L A) := @tc_M.v97 A L.M
def tb_L.v104 (L : tb_L A) := @tc_M.v104 A L.M
def tb_L.v107 (L : tb_L A) := @tc_M.v107 A L.M
def tb_L.v33 (L : tb_L A) := @tc_M.v33 A L.M
def tb_L.v57 (L : tb_L A) := @tc_M.v57 A L.M
def tb_L.v65 (L : tb_L A) := @tc_M.v65 A L.M
def tb_L.v101 (L : tb_L A) := @tc_M.v101 A L.M
end TBLEAF
