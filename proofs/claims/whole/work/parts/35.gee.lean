/-! the class's life beside ANY state told the reference's way (printed by a program out of parts 18, 19, 20, 34) -/
def tc_rz (c : Nat → Int → Int) (q : Nat) (s : Int → Int) : Prop := (c q 0 = s 9 ∧ c q 1 = s 10 ∧ c q 2 = s 1 * 10 + s 0 ∧ c q 3 = s 2 ∧ c q 4 = s 3 ∧ c q 5 = s 4 ∧ c q 6 = s 5 ∧ c q 7 = s 6 ∧ c q 8 = s 7 ∧ c q 9 = s 8) ∧ ((0 ≤ c q 10 ∧ c q 10 < 64) ∧ ∀ h, 0 ≤ h → h < 6 → tb_and (tb_shr (c q 10) h) 1 = s (21 + h)) ∧ ((0 ≤ c q 11 ∧ c q 11 < 256) ∧ ∀ k, 0 ≤ k → k < 8 → tb_and (tb_shr (c q 11) k) 1 = s (35 + k)) ∧ (∀ h, 0 ≤ h → h < 6 → c (q + 1) h = s (15 + h)) ∧ (∀ f, 0 ≤ f → f < 4 → c (q + 2) f = s (27 + f)) ∧ (∀ f, 0 ≤ f → f < 4 → c (q + 3) f = s (31 + f)) ∧ (∀ k, 0 ≤ k → k < 8 → c (q + 4) k = s (43 + k))
def tc_G (A : tb_H) (s : Int → Int) : Prop := (A.2.2 4 1 = 11 ∨ A.2.2 4 1 = 48) ∧ tb_rb A.1 (A.2.2 4 1) (A.1 80) ∧ tb_bb (A.1 80) ∧ (A.1 80 110 = 1 ∧ A.1 80 111 = 1 ∧ 1 ≤ A.1 80 112) ∧ tc_rz A.1 5 s ∧ tb_bz (A.1 80) s
section TBGEE
variable {X : tb_X} {A : tb_H} {σ : Int → Int} {K : Int → tb_H → Prop} {Kv : tb_H → Prop}
theorem tb_L.G (L : tb_L A) : tc_G A (A.1 82) := by
  obtain ⟨h1, h2, h3, h4, h5, h6⟩ := L
  obtain ⟨a1, a2, a3, a4, a5, a6, a7, _⟩ := h5
  obtain ⟨b1, b2, b3, b4, _⟩ := h6
  exact ⟨h1, h2, h3, h4, ⟨a1, a2, a3, a4, a5, a6, a7⟩, ⟨b1, b2, b3, b4⟩⟩
theorem tc_G.b (L : tc_G A σ) : tb_isB (A.2.2 4 1) := by rcases L.1 with h | h <;> rw [h]; exact tb_isB11; exact tb_isB48
theorem tc_G.ct (L : tc_G A σ) {s : Int} (h0 : 0 ≤ s) (h1 : s < 9) : A.1 (A.2.2 4 1 + 1) s = A.1 80 (110 + s) := L.2.1.1 s h0 h1
theorem tc_G.va (L : tc_G A σ) {a b c : Int} (hp : (a, b, c) ∈ tb_tab) {l : Int} (h0 : 0 ≤ l) (h1 : l < A.1 80 b) : A.1 (A.2.2 4 1 + 2) (a + 6 * l) = A.1 80 (c + l) := L.2.1.2 _ hp l h0 h1
theorem tc_G.bd (L : tc_G A σ) {a b c d : Int} (hp : (a, b, c, d) ∈ tb_bnd) {l : Int} (h0 : 0 ≤ l) (h1 : l < A.1 80 a) : c ≤ A.1 80 (b + l) ∧ A.1 80 (b + l) ≤ d := L.2.2.1.2.2.2.2.2.2.2.2.2.1 _ hp l h0 h1
theorem tc_G.bd0 (L : tc_G A σ) {a b c d : Int} (hp : (a, b, c, d) ∈ tb_bnd) (h1 : 0 < A.1 80 a) : c ≤ A.1 80 b ∧ A.1 80 b ≤ d := by
  have := L.bd hp (l := 0) (by omega) h1
  rwa [Int.add_zero] at this
theorem tc_G.sc (L : tc_G A σ) {a b : Int} (hp : (a, b) ∈ tb_scr) {l : Int} (h0 : 0 ≤ l) (h1 : l < A.1 80 a) : 0 ≤ A.1 80 (b + l) ∧ A.1 80 (b + l) < A.1 80 112 := L.2.2.1.2.2.2.2.2.2.2.2.2.2 _ hp l h0 h1
theorem tc_G.c112 (L : tc_G A σ) : 1 ≤ A.1 80 112 ∧ A.1 80 112 ≤ 8 := ⟨L.2.2.2.1.2.2, L.2.2.1.2.2.1.2⟩
theorem tc_G.c113 (L : tc_G A σ) : 0 ≤ A.1 80 113 ∧ A.1 80 113 ≤ 6 := L.2.2.1.2.2.2.1
theorem tc_G.c114 (L : tc_G A σ) : 0 ≤ A.1 80 114 ∧ A.1 80 114 ≤ 4 := L.2.2.1.2.2.2.2.1
theorem tc_G.c115 (L : tc_G A σ) : 0 ≤ A.1 80 115 ∧ A.1 80 115 ≤ 4 := L.2.2.1.2.2.2.2.2.1
theorem tc_G.c116 (L : tc_G A σ) : 0 ≤ A.1 80 116 ∧ A.1 80 116 ≤ 4 := L.2.2.1.2.2.2.2.2.2.1
theorem tc_G.c117 (L : tc_G A σ) : 0 ≤ A.1 80 117 ∧ A.1 80 117 ≤ 4 := L.2.2.1.2.2.2.2.2.2.2.1
theorem tc_G.c118 (L : tc_G A σ) : 0 ≤ A.1 80 118 ∧ A.1 80 118 ≤ 3 := L.2.2.1.2.2.2.2.2.2.2.2.1
theorem tc_G.c110 (L : tc_G A σ) : A.1 80 110 = 1 := L.2.2.2.1.1
theorem tc_G.c111 (L : tc_G A σ) : A.1 80 111 = 1 := L.2.2.2.1.2.1
theorem tc_G.sc0 (L : tc_G A σ) : A.1 5 0 = σ 9 ∧ A.1 5 1 = σ 10 ∧ A.1 5 2 = σ 1 * 10 + σ 0 ∧ A.1 5 3 = σ 2 ∧ A.1 5 4 = σ 3 ∧ A.1 5 5 = σ 4 ∧ A.1 5 6 = σ 5 ∧ A.1 5 7 = σ 6 ∧ A.1 5 8 = σ 7 ∧ A.1 5 9 = σ 8 := L.2.2.2.2.1.1
theorem tc_G.tie (L : tc_G A σ) {h : Int} (h0 : 0 ≤ h) (h1 : h < 6) : tb_and (tb_shr (A.1 5 10) h) 1 = σ (21 + h) := L.2.2.2.2.1.2.1.2 h h0 h1
theorem tc_G.gone (L : tc_G A σ) {h : Int} (h0 : 0 ≤ h) (h1 : h < 8) : tb_and (tb_shr (A.1 5 11) h) 1 = σ (35 + h) := L.2.2.2.2.1.2.2.1.2 h h0 h1
theorem tc_G.hf (L : tc_G A σ) {h : Int} (h0 : 0 ≤ h) (h1 : h < 6) : A.1 6 h = σ (15 + h) := L.2.2.2.2.1.2.2.2.1 h h0 h1
theorem tc_G.ff (L : tc_G A σ) {h : Int} (h0 : 0 ≤ h) (h1 : h < 4) : A.1 7 h = σ (27 + h) := L.2.2.2.2.1.2.2.2.2.1 h h0 h1
theorem tc_G.ho (L : tc_G A σ) {h : Int} (h0 : 0 ≤ h) (h1 : h < 4) : A.1 8 h = σ (31 + h) := L.2.2.2.2.1.2.2.2.2.2.1 h h0 h1
theorem tc_G.ba (L : tc_G A σ) {h : Int} (h0 : 0 ≤ h) (h1 : h < 8) : A.1 9 h = σ (43 + h) := L.2.2.2.2.1.2.2.2.2.2.2 h h0 h1
theorem tc_G.s0 (L : tc_G A σ) : (0 ≤ σ 0 ∧ σ 0 ≤ 9) ∧ (0 ≤ σ 1 ∧ σ 1 ≤ 9) ∧ (0 ≤ σ 2 ∧ σ 2 ≤ 7) ∧ (0 ≤ σ 3 ∧ σ 3 ≤ σ 9) ∧ (-2147483648 ≤ σ 4 ∧ σ 4 < 2147483648) ∧ (-2147483648 ≤ σ 5 ∧ σ 5 < 2147483648) ∧ (0 ≤ σ 6 ∧ σ 6 ≤ 15) ∧ (0 ≤ σ 7 ∧ σ 7 ≤ 15) ∧ (-2147483648 ≤ σ 8 ∧ σ 8 < 2147483648) ∧ (0 ≤ σ 9 ∧ σ 9 ≤ 200) ∧ (0 ≤ σ 10 ∧ σ 10 ≤ 65536) := L.2.2.2.2.2.1
theorem tc_G.s15 (L : tc_G A σ) {h : Int} (h0 : 0 ≤ h) (h1 : h < 6) : (0 ≤ σ (15 + h) ∧ σ (15 + h) ≤ 2) ∧ (0 ≤ σ (21 + h) ∧ σ (21 + h) ≤ 1) := L.2.2.2.2.2.2.1 h h0 h1
theorem tc_G.s27 (L : tc_G A σ) {h : Int} (h0 : 0 ≤ h) (h1 : h < 4) : (0 ≤ σ (27 + h) ∧ σ (27 + h) ≤ 2) ∧ (0 ≤ σ (31 + h) ∧ σ (31 + h) < A.1 80 112) := L.2.2.2.2.2.2.2.1 h h0 h1
theorem tc_G.s35 (L : tc_G A σ) {h : Int} (h0 : 0 ≤ h) (h1 : h < 8) : (0 ≤ σ (35 + h) ∧ σ (35 + h) ≤ 1) ∧ (0 ≤ σ (43 + h) ∧ σ (43 + h) ≤ 9) := L.2.2.2.2.2.2.2.2 h h0 h1
theorem tc_G.v0 (L : tc_G A σ) : 0 ≤ A.1 80 0 ∧ A.1 80 0 ≤ 9 := L.bd0 (a := 110) (b := 0) (c := 0) (d := 9) (by decide) (by rw [L.c110]; decide)
theorem tc_G.v1 (L : tc_G A σ) : 0 ≤ A.1 80 1 ∧ A.1 80 1 ≤ 9 := L.bd0 (a := 110) (b := 1) (c := 0) (d := 9) (by decide) (by rw [L.c110]; decide)
theorem tc_G.v2 (L : tc_G A σ) : 1 ≤ A.1 80 2 ∧ A.1 80 2 ≤ 99 := L.bd0 (a := 110) (b := 2) (c := 1) (d := 99) (by decide) (by rw [L.c110]; decide)
theorem tc_G.v3 (L : tc_G A σ) : 1 ≤ A.1 80 3 ∧ A.1 80 3 ≤ 30 := L.bd0 (a := 110) (b := 3) (c := 1) (d := 30) (by decide) (by rw [L.c110]; decide)
theorem tc_G.v4 (L : tc_G A σ) : 0 ≤ A.1 80 4 ∧ A.1 80 4 ≤ 99 := L.bd0 (a := 110) (b := 4) (c := 0) (d := 99) (by decide) (by rw [L.c110]; decide)
theorem tc_G.v5 (L : tc_G A σ) : 1 ≤ A.1 80 5 ∧ A.1 80 5 ≤ 30 := L.bd0 (a := 110) (b := 5) (c := 1) (d := 30) (by decide) (by rw [L.c110]; decide)
theorem tc_G.v6 (L : tc_G A σ) : 0 ≤ A.1 80 6 ∧ A.1 80 6 ≤ 9 := L.bd0 (a := 111) (b := 6) (c := 0) (d := 9) (by decide) (by rw [L.c111]; decide)
theorem tc_G.v7 (L : tc_G A σ) : 0 ≤ A.1 80 7 ∧ A.1 80 7 ≤ 9 := L.bd0 (a := 111) (b := 7) (c := 0) (d := 9) (by decide) (by rw [L.c111]; decide)
theorem tc_G.v8 (L : tc_G A σ) : 0 ≤ A.1 80 8 ∧ A.1 80 8 ≤ 7 := L.bd0 (a := 111) (b := 8) (c := 0) (d := 7) (by decide) (by rw [L.c111]; decide)
theorem tc_G.v9 (L : tc_G A σ) {l : Int} (l0 : 0 ≤ l) (l1 : l < A.1 80 112) : 0 ≤ A.1 80 (9 + l) ∧ A.1 80 (9 + l) ≤ 9 := L.bd (a := 112) (b := 9) (c := 0) (d := 9) (by decide) l0 l1
theorem tc_G.v17 (L : tc_G A σ) {l : Int} (l0 : 0 ≤ l) (l1 : l < A.1 80 112) : 0 ≤ A.1 80 (17 + l) ∧ A.1 80 (17 + l) ≤ 9 := L.bd (a := 112) (b := 17) (c := 0) (d := 9) (by decide) l0 l1
theorem tc_G.v25 (L : tc_G A σ) {l : Int} (l0 : 0 ≤ l) (l1 : l < A.1 80 112) : 1 ≤ A.1 80 (25 + l) ∧ A.1 80 (25 + l) ≤ 99 := L.bd (a := 112) (b := 25) (c := 1) (d := 99) (by decide) l0 l1
theorem tc_G.v39 (L : tc_G A σ) {l : Int} (l0 : 0 ≤ l) (l1 : l < A.1 80 113) : 1 ≤ A.1 80 (39 + l) ∧ A.1 80 (39 + l) ≤ 30 := L.bd (a := 113) (b := 39) (c := 1) (d := 30) (by decide) l0 l1
theorem tc_G.v45 (L : tc_G A σ) {l : Int} (l0 : 0 ≤ l) (l1 : l < A.1 80 113) : 1 ≤ A.1 80 (45 + l) ∧ A.1 80 (45 + l) ≤ 60 := L.bd (a := 113) (b := 45) (c := 1) (d := 60) (by decide) l0 l1
theorem tc_G.v51 (L : tc_G A σ) {l : Int} (l0 : 0 ≤ l) (l1 : l < A.1 80 113) : 1 ≤ A.1 80 (51 + l) ∧ A.1 80 (51 + l) ≤ 99 := L.bd (a := 113) (b := 51) (c := 1) (d := 99) (by decide) l0 l1
theorem tc_G.v61 (L : tc_G A σ) {l : Int} (l0 : 0 ≤ l) (l1 : l < A.1 80 114) : 1 ≤ A.1 80 (61 + l) ∧ A.1 80 (61 + l) ≤ 30 := L.bd (a := 114) (b := 61) (c := 1) (d := 30) (by decide) l0 l1
theorem tc_G.v69 (L : tc_G A σ) {l : Int} (l0 : 0 ≤ l) (l1 : l < A.1 80 115) : 1 ≤ A.1 80 (69 + l) ∧ A.1 80 (69 + l) ≤ 9 := L.bd (a := 115) (b := 69) (c := 1) (d := 9) (by decide) l0 l1
theorem tc_G.v73 (L : tc_G A σ) {l : Int} (l0 : 0 ≤ l) (l1 : l < A.1 80 116) : 0 ≤ A.1 80 (73 + l) ∧ A.1 80 (73 + l) ≤ 9 := L.bd (a := 116) (b := 73) (c := 0) (d := 9) (by decide) l0 l1
theorem tc_G.v77 (L : tc_G A σ) {l : Int} (l0 : 0 ≤ l) (l1 : l < A.1 80 116) : 0 ≤ A.1 80 (77 + l) ∧ A.1 80 (77 + l) ≤ 9 := L.bd (a := 116) (b := 77) (c := 0) (d := 9) (by decide) l0 l1
theorem tc_G.v81 (L : tc_G A σ) {l : Int} (l0 : 0 ≤ l) (l1 : l < A.1 80 117) : 0 ≤ A.1 80 (81 + l) ∧ A.1 80 (81 + l) ≤ 9 := L.bd (a := 117) (b := 81) (c := 0) (d := 9) (by decide) l0 l1
theorem tc_G.v85 (L : tc_G A σ) {l : Int} (l0 : 0 ≤ l) (l1 : l < A.1 80 117) : 0 ≤ A.1 80 (85 + l) ∧ A.1 80 (85 + l) ≤ 9 := L.bd (a := 117) (b := 85) (c := 0) (d := 9) (by decide) l0 l1
theorem tc_G.v89 (L : tc_G A σ) {l : Int} (l0 : 0 ≤ l) (l1 : l < A.1 80 117) : 1 ≤ A.1 80 (89 + l) ∧ A.1 80 (89 + l) ≤ 99 := L.bd (a := 117) (b := 89) (c := 1) (d := 99) (by decide) l0 l1
theorem tc_G.v93 (L : tc_G A σ) {l : Int} (l0 : 0 ≤ l) (l1 : l < A.1 80 117) : 1 ≤ A.1 80 (93 + l) ∧ A.1 80 (93 + l) ≤ 99 := L.bd (a := 117) (b := 93) (c := 1) (d := 99) (by decide) l0 l1
theorem tc_G.v97 (L : tc_G A σ) {l : Int} (l0 : 0 ≤ l) (l1 : l < A.1 80 117) : 1 ≤ A.1 80 (97 + l) ∧ A.1 80 (97 + l) ≤ 99 := L.bd (a := 117) (b := 97) (c := 1) (d := 99) (by decide) l0 l1
theorem tc_G.v104 (L : tc_G A σ) {l : Int} (l0 : 0 ≤ l) (l1 : l < A.1 80 118) : 1 ≤ A.1 80 (104 + l) ∧ A.1 80 (104 + l) ≤ 99 := L.bd (a := 118) (b := 104) (c := 1) (d := 99) (by decide) l0 l1
theorem tc_G.v107 (L : tc_G A σ) {l : Int} (l0 : 0 ≤ l) (l1 : l < A.1 80 118) : 0 ≤ A.1 80 (107 + l) ∧ A.1 80 (107 + l) ≤ 1 := L.bd (a := 118) (b := 107) (c := 0) (d := 1) (by decide) l0 l1
theorem tc_G.v33 (L : tc_G A σ) {l : Int} (l0 : 0 ≤ l) (l1 : l < A.1 80 113) : 0 ≤ A.1 80 (33 + l) ∧ A.1 80 (33 + l) < A.1 80 112 := L.sc (a := 113) (b := 33) (by decide) l0 l1
theorem tc_G.v57 (L : tc_G A σ) {l : Int} (l0 : 0 ≤ l) (l1 : l < A.1 80 114) : 0 ≤ A.1 80 (57 + l) ∧ A.1 80 (57 + l) < A.1 80 112 := L.sc (a := 114) (b := 57) (by decide) l0 l1
theorem tc_G.v65 (L : tc_G A σ) {l : Int} (l0 : 0 ≤ l) (l1 : l < A.1 80 115) : 0 ≤ A.1 80 (65 + l) ∧ A.1 80 (65 + l) < A.1 80 112 := L.sc (a := 115) (b := 65) (by decide) l0 l1
theorem tc_G.v101 (L : tc_G A σ) {l : Int} (l0 : 0 ≤ l) (l1 : l < A.1 80 118) : 0 ≤ A.1 80 (101 + l) ∧ A.1 80 (101 + l) < A.1 80 112 := L.sc (a := 118) (b := 101) (by decide) l0 l1
theorem g28 (L : tc_G A σ) {s : Int} (h0 : 0 ≤ s) (h1 : s < 9) : tb_Ci X 28 [tb_r (A.2.2 4 1), tb_i s] A K = K (A.1 80 (110 + s)) A := by rw [e28g L.b h0 h1, L.ct h0 h1]
theorem g28_0 (L : tc_G A σ) : tb_Ci X 28 [tb_r (A.2.2 4 1), tb_i 0] A K = K (A.1 80 110) A := g28 L (by decide) (by decide)
theorem g28_1 (L : tc_G A σ) : tb_Ci X 28 [tb_r (A.2.2 4 1), tb_i 1] A K = K (A.1 80 111) A := g28 L (by decide) (by decide)
theorem g28_2 (L : tc_G A σ) : tb_Ci X 28 [tb_r (A.2.2 4 1), tb_i 2] A K = K (A.1 80 112) A := g28 L (by decide) (by decide)
theorem g28_3 (L : tc_G A σ) : tb_Ci X 28 [tb_r (A.2.2 4 1), tb_i 3] A K = K (A.1 80 113) A := g28 L (by decide) (by decide)
theorem g28_4 (L : tc_G A σ) : tb_Ci X 28 [tb_r (A.2.2 4 1), tb_i 4] A K = K (A.1 80 114) A := g28 L (by decide) (by decide)
theorem g28_5 (L : tc_G A σ) : tb_Ci X 28 [tb_r (A.2.2 4 1), tb_i 5] A K = K (A.1 80 115) A := g28 L (by decide) (by decide)
theorem g28_6 (L : tc_G A σ) : tb_Ci X 28 [tb_r (A.2.2 4 1), tb_i 6] A K = K (A.1 80 116) A := g28 L (by decide) (by decide)
theorem g28_7 (L : tc_G A σ) : tb_Ci X 28 [tb_r (A.2.2 4 1), tb_i 7] A K = K (A.1 80 117) A := g28 L (by decide) (by decide)
theorem g28_8 (L : tc_G A σ) : tb_Ci X 28 [tb_r (A.2.2 4 1), tb_i 8] A K = K (A.1 80 118) A := g28 L (by decide) (by decide)
theorem g41 (L : tc_G A σ) {s l x c : Int} (hs0 : 0 ≤ s) (hs1 : s < 9) (hx0 : 0 ≤ x) (hx1 : x < 6) (hp : (s * 48 + x, 110 + s, c) ∈ tb_tab) (l0 : 0 ≤ l) (l1 : l < A.1 80 (110 + s)) (l2 : l < 8) : tb_Ci X 41 [tb_r (A.2.2 4 1), tb_i s, tb_i l, tb_i x] A K = K (A.1 80 (c + l)) A := by
  refine tb_dei (q41 L.b ?_)
  refine ⟨fun h => by omega, fun _ => ⟨fun h => by omega, fun _ => ⟨fun h => by omega, fun _ => ⟨fun h => ?_, fun _ => ⟨fun h => by omega, fun _ => ⟨fun _ => ?_, fun h => by omega⟩⟩⟩⟩⟩⟩
  · rw [L.ct hs0 hs1] at h; omega
  · rw [tb_w_id (x := s * 8) (by omega) (by omega), tb_w_id (x := s * 8 + l) (by omega) (by omega), tb_w_id (x := (s * 8 + l) * 6) (by omega) (by omega), tb_w_id (x := (s * 8 + l) * 6 + x) (by omega) (by omega)]
    rw [if_neg (by omega), if_pos (by omega), show (s * 8 + l) * 6 + x = s * 48 + x + 6 * l by omega, L.va hp l0 l1]
    exact ⟨rfl, rfl⟩
theorem g41n (L : tc_G A σ) {s l x : Int} (hs0 : 0 ≤ s) (hs1 : s < 9) (hx0 : 0 ≤ x) (hx1 : x < 6) (l0 : 0 ≤ l) (l1 : A.1 80 (110 + s) ≤ l) : tb_Ci X 41 [tb_r (A.2.2 4 1), tb_i s, tb_i l, tb_i x] A K = K 0 A := by
  refine tb_dei (q41 L.b ?_)
  refine ⟨fun h => by omega, fun _ => ⟨fun h => by omega, fun _ => ⟨fun h => by omega, fun _ => ⟨fun h => ⟨rfl, rfl⟩, fun h => ?_⟩⟩⟩⟩
  rw [L.ct hs0 hs1] at h; omega
theorem g41_00 (L : tc_G A σ) : tb_Ci X 41 [tb_r (A.2.2 4 1), tb_i 0, tb_i 0, tb_i 0] A K = K (A.1 80 0) A := by
  have := L.c110
  exact g41 (s := 0) (x := 0) (c := 0) (l := 0) L (by decide) (by decide) (by decide) (by decide) (by decide) (by decide) (by show 0 < A.1 80 110; omega) (by decide)
theorem g41_01 (L : tc_G A σ) : tb_Ci X 41 [tb_r (A.2.2 4 1), tb_i 0, tb_i 0, tb_i 1] A K = K (A.1 80 1) A := by
  have := L.c110
  exact g41 (s := 0) (x := 1) (c := 1) (l := 0) L (by decide) (by decide) (by decide) (by decide) (by decide) (by decide) (by show 0 < A.1 80 110; omega) (by decide)
theorem g41_02 (L : tc_G A σ) : tb_Ci X 41 [tb_r (A.2.2 4 1), tb_i 0, tb_i 0, tb_i 2] A K = K (A.1 80 2) A := by
  have := L.c110
  exact g41 (s := 0) (x := 2) (c := 2) (l := 0) L (by decide) (by decide) (by decide) (by decide) (by decide) (by decide) (by show 0 < A.1 80 110; omega) (by decide)
theorem g41_03 (L : tc_G A σ) : tb_Ci X 41 [tb_r (A.2.2 4 1), tb_i 0, tb_i 0, tb_i 3] A K = K (A.1 80 3) A := by
  have := L.c110
  exact g41 (s := 0) (x := 3) (c := 3) (l := 0) L (by decide) (by decide) (by decide) (by decide) (by decide) (by decide) (by show 0 < A.1 80 110; omega) (by decide)
theorem g41_04 (L : tc_G A σ) : tb_Ci X 41 [tb_r (A.2.2 4 1), tb_i 0, tb_i 0, tb_i 4] A K = K (A.1 80 4) A := by
  have := L.c110
  exact g41 (s := 0) (x := 4) (c := 4) (l := 0) L (by decide) (by decide) (by decide) (by decide) (by decide) (by decide) (by show 0 < A.1 80 110; omega) (by decide)
theorem g41_05 (L : tc_G A σ) : tb_Ci X 41 [tb_r (A.2.2 4 1), tb_i 0, tb_i 0, tb_i 5] A K = K (A.1 80 5) A := by
  have := L.c110
  exact g41 (s := 0) (x := 5) (c := 5) (l := 0) L (by decide) (by decide) (by decide) (by decide) (by decide) (by decide) (by show 0 < A.1 80 110; omega) (by decide)
theorem g41_10 (L : tc_G A σ) : tb_Ci X 41 [tb_r (A.2.2 4 1), tb_i 1, tb_i 0, tb_i 0] A K = K (A.1 80 6) A := by
  have := L.c111
  exact g41 (s := 1) (x := 0) (c := 6) (l := 0) L (by decide) (by decide) (by decide) (by decide) (by decide) (by decide) (by show 0 < A.1 80 111; omega) (by decide)
theorem g41_11 (L : tc_G A σ) : tb_Ci X 41 [tb_r (A.2.2 4 1), tb_i 1, tb_i 0, tb_i 1] A K = K (A.1 80 7) A := by
  have := L.c111
  exact g41 (s := 1) (x := 1) (c := 7) (l := 0) L (by decide) (by decide) (by decide) (by decide) (by decide) (by decide) (by show 0 < A.1 80 111; omega) (by decide)
theorem g41_12 (L : tc_G A σ) : tb_Ci X 41 [tb_r (A.2.2 4 1), tb_i 1, tb_i 0, tb_i 2] A K = K (A.1 80 8) A := by
  have := L.c111
  exact g41 (s := 1) (x := 2) (c := 8) (l := 0) L (by decide) (by decide) (by decide) (by decide) (by decide) (by decide) (by show 0 < A.1 80 111; omega) (by decide)
theorem g41_20 (L : tc_G A σ) {l : Int} (l0 : 0 ≤ l) (l1 : l < A.1 80 112) : tb_Ci X 41 [tb_r (A.2.2 4 1), tb_i 2, tb_i l, tb_i 0] A K = K (A.1 80 (9 + l)) A := by
  have := L.c112
  exact g41 (s := 2) (x := 0) (c := 9) L (by decide) (by decide) (by decide) (by decide) (by decide) l0 l1 (by omega)
theorem g41_21 (L : tc_G A σ) {l : Int} (l0 : 0 ≤ l) (l1 : l < A.1 80 112) : tb_Ci X 41 [tb_r (A.2.2 4 1), tb_i 2, tb_i l, tb_i 1] A K = K (A.1 80 (17 + l)) A := by
  have := L.c112
  exact g41 (s := 2) (x := 1) (c := 17) L (by decide) (by decide) (by decide) (by decide) (by decide) l0 l1 (by omega)
theorem g41_22 (L : tc_G A σ) {l : Int} (l0 : 0 ≤ l) (l1 : l < A.1 80 112) : tb_Ci X 41 [tb_r (A.2.2 4 1), tb_i 2, tb_i l, tb_i 2] A K = K (A.1 80 (25 + l)) A := by
  have := L.c112
  exact g41 (s := 2) (x := 2) (c := 25) L (by decide) (by decide) (by decide) (by decide) (by decide) l0 l1 (by omega)
theorem g41_30 (L : tc_G A σ) {l : Int} (l0 : 0 ≤ l) (l1 : l < A.1 80 113) : tb_Ci X 41 [tb_r (A.2.2 4 1), tb_i 3, tb_i l, tb_i 0] A K = K (A.1 80 (33 + l)) A := by
  have := L.c113
  exact g41 (s := 3) (x := 0) (c := 33) L (by decide) (by decide) (by decide) (by decide) (by decide) l0 l1 (by omega)
theorem g41_31 (L : tc_G A σ) {l : Int} (l0 : 0 ≤ l) (l1 : l < A.1 80 113) : tb_Ci X 41 [tb_r (A.2.2 4 1), tb_i 3, tb_i l, tb_i 1] A K = K (A.1 80 (39 + l)) A := by
  have := L.c113
  exact g41 (s := 3) (x := 1) (c := 39) L (by decide) (by decide) (by decide) (by decide) (by decide) l0 l1 (by omega)
theorem g41_32 (L : tc_G A σ) {l : Int} (l0 : 0 ≤ l) (l1 : l < A.1 80 113) : tb_Ci X 41 [tb_r (A.2.2 4 1), tb_i 3, tb_i l, tb_i 2] A K = K (A.1 80 (45 + l)) A := by
  have := L.c113
  exact g41 (s := 3) (x := 2) (c := 45) L (by decide) (by decide) (by decide) (by decide) (by decide) l0 l1 (by omega)
theorem g41_33 (L : tc_G A σ) {l : Int} (l0 : 0 ≤ l) (l1 : l < A.1 80 113) : tb_Ci X 41 [tb_r (A.2.2 4 1), tb_i 3, tb_i l, tb_i 3] A K = K (A.1 80 (51 + l)) A := by
  have := L.c113
  exact g41 (s := 3) (x := 3) (c := 51) L (by decide) (by decide) (by decide) (by decide) (by decide) l0 l1 (by omega)
theorem g41_40 (L : tc_G A σ) {l : Int} (l0 : 0 ≤ l) (l1 : l < A.1 80 114) : tb_Ci X 41 [tb_r (A.2.2 4 1), tb_i 4, tb_i l, tb_i 0] A K = K (A.1 80 (57 + l)) A := by
  have := L.c114
  exact g41 (s := 4) (x := 0) (c := 57) L (by decide) (by decide) (by decide) (by decide) (by decide) l0 l1 (by omega)
theorem g41_41 (L : tc_G A σ) {l : Int} (l0 : 0 ≤ l) (l1 : l < A.1 80 114) : tb_Ci X 41 [tb_r (A.2.2 4 1), tb_i 4, tb_i l, tb_i 1] A K = K (A.1 80 (61 + l)) A := by
  have := L.c114
  exact g41 (s := 4) (x := 1) (c := 61) L (by decide) (by decide) (by decide) (by decide) (by decide) l0 l1 (by omega)
theorem g41_50 (L : tc_G A σ) {l : Int} (l0 : 0 ≤ l) (l1 : l < A.1 80 115) : tb_Ci X 41 [tb_r (A.2.2 4 1), tb_i 5, tb_i l, tb_i 0] A K = K (A.1 80 (65 + l)) A := by
  have := L.c115
  exact g41 (s := 5) (x := 0) (c := 65) L (by decide) (by decide) (by decide) (by decide) (by decide) l0 l1 (by omega)
theorem g41_51 (L : tc_G A σ) {l : Int} (l0 : 0 ≤ l) (l1 : l < A.1 80 115) : tb_Ci X 41 [tb_r (A.2.2 4 1), tb_i 5, tb_i l, tb_i 1] A K = K (A.1 80 (69 + l)) A := by
  have := L.c115
  exact g41 (s := 5) (x := 1) (c := 69) L (by decide) (by decide) (by decide) (by decide) (by decide) l0 l1 (by omega)
theorem g41_60 (L : tc_G A σ) {l : Int} (l0 : 0 ≤ l) (l1 : l < A.1 80 116) : tb_Ci X 41 [tb_r (A.2.2 4 1), tb_i 6, tb_i l, tb_i 0] A K = K (A.1 80 (73 + l)) A := by
  have := L.c116
  exact g41 (s := 6) (x := 0) (c := 73) L (by decide) (by decide) (by decide) (by decide) (by decide) l0 l1 (by omega)
theorem g41_61 (L : tc_G A σ) {l : Int} (l0 : 0 ≤ l) (l1 : l < A.1 80 116) : tb_Ci X 41 [tb_r (A.2.2 4 1), tb_i 6, tb_i l, tb_i 1] A K = K (A.1 80 (77 + l)) A := by
  have := L.c116
  exact g41 (s := 6) (x := 1) (c := 77) L (by decide) (by decide) (by decide) (by decide) (by decide) l0 l1 (by omega)
theorem g41_70 (L : tc_G A σ) {l : Int} (l0 : 0 ≤ l) (l1 : l < A.1 80 117) : tb_Ci X 41 [tb_r (A.2.2 4 1), tb_i 7, tb_i l, tb_i 0] A K = K (A.1 80 (81 + l)) A := by
  have := L.c117
  exact g41 (s := 7) (x := 0) (c := 81) L (by decide) (by decide) (by decide) (by decide) (by decide) l0 l1 (by omega)
theorem g41_71 (L : tc_G A σ) {l : Int} (l0 : 0 ≤ l) (l1 : l < A.1 80 117) : tb_Ci X 41 [tb_r (A.2.2 4 1), tb_i 7, tb_i l, tb_i 1] A K = K (A.1 80 (85 + l)) A := by
  have := L.c117
  exact g41 (s := 7) (x := 1) (c := 85) L (by decide) (by decide) (by decide) (by decide) (by decide) l0 l1 (by omega)
theorem g41_72 (L : tc_G A σ) {l : Int} (l0 : 0 ≤ l) (l1 : l < A.1 80 117) : tb_Ci X 41 [tb_r (A.2.2 4 1), tb_i 7, tb_i l, tb_i 2] A K = K (A.1 80 (89 + l)) A := by
  have := L.c117
  exact g41 (s := 7) (x := 2) (c := 89) L (by decide) (by decide) (by decide) (by decide) (by decide) l0 l1 (by omega)
theorem g41_73 (L : tc_G A σ) {l : Int} (l0 : 0 ≤ l) (l1 : l < A.1 80 117) : tb_Ci X 41 [tb_r (A.2.2 4 1), tb_i 7, tb_i l, tb_i 3] A K = K (A.1 80 (93 + l)) A := by
  have := L.c117
  exact g41 (s := 7) (x := 3) (c := 93) L (by decide) (by decide) (by decide) (by decide) (by decide) l0 l1 (by omega)
theorem g41_74 (L : tc_G A σ) {l : Int} (l0 : 0 ≤ l) (l1 : l < A.1 80 117) : tb_Ci X 41 [tb_r (A.2.2 4 1), tb_i 7, tb_i l, tb_i 4] A K = K (A.1 80 (97 + l)) A := by
  have := L.c117
  exact g41 (s := 7) (x := 4) (c := 97) L (by decide) (by decide) (by decide) (by decide) (by decide) l0 l1 (by omega)
theorem g41_80 (L : tc_G A σ) {l : Int} (l0 : 0 ≤ l) (l1 : l < A.1 80 118) : tb_Ci X 41 [tb_r (A.2.2 4 1), tb_i 8, tb_i l, tb_i 0] A K = K (A.1 80 (101 + l)) A := by
  have := L.c118
  exact g41 (s := 8) (x := 0) (c := 101) L (by decide) (by decide) (by decide) (by decide) (by decide) l0 l1 (by omega)
theorem g41_81 (L : tc_G A σ) {l : Int} (l0 : 0 ≤ l) (l1 : l < A.1 80 118) : tb_Ci X 41 [tb_r (A.2.2 4 1), tb_i 8, tb_i l, tb_i 1] A K = K (A.1 80 (104 + l)) A := by
  have := L.c118
  exact g41 (s := 8) (x := 1) (c := 104) L (by decide) (by decide) (by decide) (by decide) (by decide) l0 l1 (by omega)
theorem g41_82 (L : tc_G A σ) {l : Int} (l0 : 0 ≤ l) (l1 : l < A.1 80 118) : tb_Ci X 41 [tb_r (A.2.2 4 1), tb_i 8, tb_i l, tb_i 2] A K = K (A.1 80 (107 + l)) A := by
  have := L.c118
  exact g41 (s := 8) (x := 2) (c := 107) L (by decide) (by decide) (by decide) (by decide) (by decide) l0 l1 (by omega)
theorem g65 (L : tc_G A σ) {h : Int} (h0 : 0 ≤ h) (h1 : h < 6) : tb_Ci X 65 [tb_r 4, tb_i h] A K = K (σ (15 + h)) A := by rw [e65g, if_neg (by omega), if_pos h1, L.hf h0 h1]
theorem g69 (L : tc_G A σ) {h : Int} (h0 : 0 ≤ h) (h1 : h < 4) : tb_Ci X 69 [tb_r 4, tb_i h] A K = K (σ (27 + h)) A := tb_dei (q69 (by rw [if_neg (by omega), if_pos h1, L.ff h0 h1]; exact ⟨rfl, rfl⟩))
theorem g70 (L : tc_G A σ) {h : Int} (h0 : 0 ≤ h) (h1 : h < 4) : tb_Ci X 70 [tb_r 4, tb_i h] A K = K (σ (31 + h)) A := tb_dei (q70 (by rw [if_neg (by omega), if_pos h1, L.ho h0 h1]; exact ⟨rfl, rfl⟩))
theorem g96 (L : tc_G A σ) {h : Int} (h0 : 0 ≤ h) (h1 : h < 8) : tb_Ci X 96 [tb_r 4, tb_i h] A K = K (σ (35 + h)) A := tb_dei (q96 (by
  rw [L.gone h0 h1]
  have := (L.s35 h0 h1).1
  refine ⟨?_, rfl⟩
  ((repeat' split) <;> omega)))
theorem g97 (L : tc_G A σ) {h : Int} (h0 : 0 ≤ h) (h1 : h < 8) : tb_Ci X 97 [tb_r 4, tb_i h] A K = K (σ (43 + h)) A := tb_dei (q97 (by rw [if_neg (by omega), if_pos h1, L.ba h0 h1]; exact ⟨rfl, rfl⟩))
theorem g101 (L : tc_G A σ) {h : Int} (h0 : 0 ≤ h) (h1 : h < 6) : tb_Ci X 101 [tb_r 4, tb_i h] A K = K (σ (21 + h)) A := tb_dei (q101 (by
  rw [L.tie h0 h1]
  have := (L.s15 h0 h1).2
  refine ⟨?_, rfl⟩
  ((repeat' split) <;> omega)))
theorem g64 (L : tc_G A σ) {h : Int} (h0 : 0 ≤ h) (h1 : h < 6) : tb_Ci X 64 [tb_r 4, tb_i h] A K = K (if h < A.1 80 113 ∧ σ (15 + h) = 0 then 1 else 0 : Int) A := by
  refine tb_dei (q64 ⟨L.b, ?_⟩)
  simp only [g28_3 L, g65 L h0 h1]
  refine ⟨fun h => ⟨?_, trivial⟩, fun h => ⟨?_, trivial⟩⟩
  · rw [if_neg (by omega)]
  · ((repeat' split) <;> omega)
theorem g68 (L : tc_G A σ) {h : Int} (h0 : 0 ≤ h) (h1 : h < 4) : tb_Ci X 68 [tb_r 4, tb_i h] A K = K (if h < A.1 80 114 ∧ σ (27 + h) = 0 then 1 else 0 : Int) A := by
  refine tb_dei (q68 ⟨L.b, ?_⟩)
  simp only [g28_4 L, g69 L h0 h1]
  refine ⟨fun h => ⟨?_, trivial⟩, fun h => ⟨?_, trivial⟩⟩
  · rw [if_neg (by omega)]
  · ((repeat' split) <;> omega)
theorem g66 (L : tc_G A σ) {h : Int} (h0 : 0 ≤ h) (h1 : h < A.1 80 113) : tb_Ci X 66 [tb_r 4, tb_i h] A K = K (A.1 80 (33 + h)) A := by
  refine tb_dei (q66 ⟨L.b, ?_⟩)
  simp only [g41_30 L h0 h1]
  exact ⟨trivial, trivial⟩
theorem g74 (L : tc_G A σ) {h : Int} (h0 : 0 ≤ h) (h1 : h < 6) : tb_Ci X 74 [tb_r 4, tb_i h] A K = K (if h < A.1 80 113 ∧ σ (15 + h) = 0 then A.1 80 (39 + h) else 0 : Int) A := by
  refine tb_dei (q74 ?_)
  simp only [g64 L h0 h1]
  by_cases hc : h < A.1 80 113 ∧ σ (15 + h) = 0
  · simp only [if_pos hc]
    refine ⟨fun h => absurd h (by decide), fun _ => ⟨L.b, ?_⟩⟩
    simp only [g41_31 L h0 hc.1]
    exact ⟨trivial, trivial⟩
  · simp only [if_neg hc]
    exact ⟨fun _ => ⟨trivial, trivial⟩, fun h => absurd rfl h⟩
theorem g77 (L : tc_G A σ) {h : Int} (h0 : 0 ≤ h) (h1 : h < 4) : tb_Ci X 77 [tb_r 4, tb_i h] A K = K (if h < A.1 80 114 ∧ σ (27 + h) = 0 then A.1 80 (61 + h) else 0 : Int) A := by
  refine tb_dei (q77 ?_)
  simp only [g68 L h0 h1]
  by_cases hc : h < A.1 80 114 ∧ σ (27 + h) = 0
  · simp only [if_pos hc]
    refine ⟨fun h => absurd h (by decide), fun _ => ⟨L.b, ?_⟩⟩
    simp only [g41_41 L h0 hc.1]
    exact ⟨trivial, trivial⟩
  · simp only [if_neg hc]
    exact ⟨fun _ => ⟨trivial, trivial⟩, fun h => absurd rfl h⟩
theorem g76_0 (L : tc_G A σ) : tb_Ci X 76 [tb_r (A.2.2 4 1), tb_i 0] A K = K (A.1 80 0) A := tb_dei (q76 L.b (by rw [g41_00 L]; exact ⟨rfl, rfl⟩))
theorem g76_1 (L : tc_G A σ) : tb_Ci X 76 [tb_r (A.2.2 4 1), tb_i 1] A K = K (A.1 80 1) A := tb_dei (q76 L.b (by rw [g41_01 L]; exact ⟨rfl, rfl⟩))
theorem g76_2 (L : tc_G A σ) : tb_Ci X 76 [tb_r (A.2.2 4 1), tb_i 2] A K = K (A.1 80 2) A := tb_dei (q76 L.b (by rw [g41_02 L]; exact ⟨rfl, rfl⟩))
theorem g76_3 (L : tc_G A σ) : tb_Ci X 76 [tb_r (A.2.2 4 1), tb_i 3] A K = K (A.1 80 3) A := tb_dei (q76 L.b (by rw [g41_03 L]; exact ⟨rfl, rfl⟩))
theorem g76_4 (L : tc_G A σ) : tb_Ci X 76 [tb_r (A.2.2 4 1), tb_i 4] A K = K (A.1 80 4) A := tb_dei (q76 L.b (by rw [g41_04 L]; exact ⟨rfl, rfl⟩))
theorem g76_5 (L : tc_G A σ) : tb_Ci X 76 [tb_r (A.2.2 4 1), tb_i 5] A K = K (A.1 80 5) A := tb_dei (q76 L.b (by rw [g41_05 L]; exact ⟨rfl, rfl⟩))
theorem g75_0 (L : tc_G A σ) {k : Int} (h0 : 0 ≤ k) (h1 : k < A.1 80 112) : tb_Ci X 75 [tb_r (A.2.2 4 1), tb_i k, tb_i 0] A K = K (A.1 80 (9 + k) - A.1 80 0) A := by
  refine tb_dei (q75 L.b ?_)
  have a := L.v9 h0 h1
  have b := L.v0
  simp only [g41_20 L h0 h1]
  rw [show tb_w (0 + 0) = 0 from rfl, g76_0 L, tb_w_id (by omega) (by omega)]
  exact ⟨rfl, rfl⟩
theorem g75_1 (L : tc_G A σ) {k : Int} (h0 : 0 ≤ k) (h1 : k < A.1 80 112) : tb_Ci X 75 [tb_r (A.2.2 4 1), tb_i k, tb_i 1] A K = K (A.1 80 (17 + k) - A.1 80 1) A := by
  refine tb_dei (q75 L.b ?_)
  have a := L.v17 h0 h1
  have b := L.v1
  simp only [g41_21 L h0 h1]
  rw [show tb_w (0 + 1) = 1 from rfl, g76_1 L, tb_w_id (by omega) (by omega)]
  exact ⟨rfl, rfl⟩
theorem tc_G.lnH0 (L : tc_G A σ) {o m : Int} (ho : (o = 9 ∧ m = 0) ∨ (o = 17 ∧ m = 1)) {h : Int} (h0 : 0 ≤ h) (h1 : h < A.1 80 113) : -270 ≤ tb_lnH (A.1 80) σ o (A.1 80 m) h ∧ tb_lnH (A.1 80) σ o (A.1 80 m) h ≤ 270 := by
  unfold tb_lnH
  have a := L.v39 h0 h1
  have s := L.v33 h0 h1
  split
  · refine tb_mulb (by omega) (by omega) ?_ ?_ <;> rcases ho with ⟨rfl, rfl⟩ | ⟨rfl, rfl⟩
    all_goals first
      | (have b := L.v9 s.1 s.2
         have d := L.v0
         omega)
      | (have b := L.v17 s.1 s.2
         have d := L.v1
         omega)
  · omega
theorem tc_G.lnF0 (L : tc_G A σ) {at' : Int → Int} (ha : ∀ f, 0 ≤ f → f < A.1 80 114 → 0 ≤ at' f ∧ at' f < A.1 80 112) {o m : Int} (ho : (o = 9 ∧ m = 0) ∨ (o = 17 ∧ m = 1)) {h : Int} (h0 : 0 ≤ h) (h1 : h < A.1 80 114) : -270 ≤ tb_lnF (A.1 80) σ at' o (A.1 80 m) h ∧ tb_lnF (A.1 80) σ at' o (A.1 80 m) h ≤ 270 := by
  unfold tb_lnF
  have a := L.v61 h0 h1
  have s := ha h h0 h1
  split
  · refine tb_mulb (by omega) (by omega) ?_ ?_ <;> rcases ho with ⟨rfl, rfl⟩ | ⟨rfl, rfl⟩
    all_goals first
      | (have b := L.v9 s.1 s.2
         have d := L.v0
         omega)
      | (have b := L.v17 s.1 s.2
         have d := L.v1
         omega)
  · omega
theorem tc_G.sH (L : tc_G A σ) {o m : Int} (ho : (o = 9 ∧ m = 0) ∨ (o = 17 ∧ m = 1)) {n : Int} (h0 : 0 ≤ n) (h1 : n ≤ A.1 80 113) : -1620 ≤ tb_sum (tb_lnH (A.1 80) σ o (A.1 80 m)) n ∧ tb_sum (tb_lnH (A.1 80) σ o (A.1 80 m)) n ≤ 1620 := by
  have := L.c113
  have := tb_sum_ab (f := tb_lnH (A.1 80) σ o (A.1 80 m)) (N := 6) (c := 270) h0 (by omega) (by decide) (fun i a b => L.lnH0 ho a (by omega))
  omega
theorem tc_G.sF (L : tc_G A σ) {at' : Int → Int} (ha : ∀ f, 0 ≤ f → f < A.1 80 114 → 0 ≤ at' f ∧ at' f < A.1 80 112) {o m : Int} (ho : (o = 9 ∧ m = 0) ∨ (o = 17 ∧ m = 1)) {n : Int} (h0 : 0 ≤ n) (h1 : n ≤ A.1 80 114) : -1080 ≤ tb_sum (tb_lnF (A.1 80) σ at' o (A.1 80 m)) n ∧ tb_sum (tb_lnF (A.1 80) σ at' o (A.1 80 m)) n ≤ 1080 := by
  have := L.c114
  have := tb_sum_ab (f := tb_lnF (A.1 80) σ at' o (A.1 80 m)) (N := 4) (c := 270) h0 (by omega) (by decide) (fun i a b => L.lnF0 ha ho a (by omega))
  omega
theorem tc_G.at (L : tc_G A σ) : ∀ f, 0 ≤ f → f < A.1 80 114 → 0 ≤ σ (31 + f) ∧ σ (31 + f) < A.1 80 112 := fun f h0 h1 => (L.s27 h0 (by have := L.c114; omega)).2
theorem g73_0 (L : tc_G A σ) : tb_Ci X 73 [tb_r 4, tb_i 0] A K = K (tb_lean (A.1 80) σ (fun f => σ (31 + f)) 9 (A.1 80 0)) A := by
  have c3 := L.c113
  have c4 := L.c114
  refine tb_dei (q73 ?_)
  have sH := L.sH (o := 9) (m := 0) (Or.inl ⟨rfl, rfl⟩) c3.1 (Int.le_refl _)
  have l2 : tb_E X 73 46 [tb_r 4, tb_i 0, tb_i (tb_sum (tb_lnH (A.1 80) σ 9 (A.1 80 0)) (A.1 80 113) + tb_sum (tb_lnF (A.1 80) σ (fun f => σ (31 + f)) 9 (A.1 80 0)) 0), tb_i 0] [] A (tb_Ri 73 (fun v' A' => v' = tb_lean (A.1 80) σ (fun f => σ (31 + f)) 9 (A.1 80 0) ∧ A' = A)) := by
    refine tb_lp (E := fun i => tb_E X 73 46 [tb_r 4, tb_i 0, tb_i (tb_sum (tb_lnH (A.1 80) σ 9 (A.1 80 0)) (A.1 80 113) + tb_sum (tb_lnF (A.1 80) σ (fun f => σ (31 + f)) 9 (A.1 80 0)) i), tb_i i] [] A (tb_Ri 73 (fun v' A' => v' = tb_lean (A.1 80) σ (fun f => σ (31 + f)) 9 (A.1 80 0) ∧ A' = A))) c4.1 ?_ ?_
    · refine q73_46 ⟨L.b, ?_⟩
      rw [g28_4 L]
      exact ⟨fun _ => ⟨rfl, rfl⟩, fun h => by omega⟩
    · intro i h0 h1 ih
      refine q73_46 ⟨L.b, ?_⟩
      rw [g28_4 L]
      refine ⟨fun h => by omega, fun _ => ?_⟩
      have at' := L.at i h0 h1
      rw [g77 L h0 (by omega)]
      refine ⟨L.b, ?_⟩
      rw [g70 L h0 (by omega), g75_0 L at'.1 at'.2]
      have sF := L.sF (o := 9) (m := 0) L.at (Or.inl ⟨rfl, rfl⟩) (n := i) h0 (by omega)
      have b1 := L.lnF0 (o := 9) (m := 0) L.at (Or.inl ⟨rfl, rfl⟩) h0 h1
      have e : (if i < A.1 80 114 ∧ σ (27 + i) = 0 then A.1 80 (61 + i) else 0) * (A.1 80 (9 + σ (31 + i)) - A.1 80 0) = tb_lnF (A.1 80) σ (fun f => σ (31 + f)) 9 (A.1 80 0) i := by
        unfold tb_lnF
        by_cases hc : σ (27 + i) = 0
        · rw [if_pos ⟨h1, hc⟩, if_pos hc]
        · rw [if_neg (fun q => hc q.2), if_neg hc, Int.zero_mul]
      rw [e, tb_w_id (x := tb_lnF (A.1 80) σ (fun f => σ (31 + f)) 9 (A.1 80 0) i) (by omega) (by omega), tb_w_id (x := i + 1) (by omega) (by omega), tb_w_id (by omega) (by omega), Int.add_assoc, ← tb_sum_s h0]
      exact ih
  rw [tb_sum_0, Int.add_zero] at l2
  have l1 : tb_E X 73 4 [tb_r 4, tb_i 0, tb_i (tb_sum (tb_lnH (A.1 80) σ 9 (A.1 80 0)) 0), tb_i 0] [] A (tb_Ri 73 (fun v' A' => v' = tb_lean (A.1 80) σ (fun f => σ (31 + f)) 9 (A.1 80 0) ∧ A' = A)) := by
    refine tb_lp (E := fun i => tb_E X 73 4 [tb_r 4, tb_i 0, tb_i (tb_sum (tb_lnH (A.1 80) σ 9 (A.1 80 0)) i), tb_i i] [] A (tb_Ri 73 (fun v' A' => v' = tb_lean (A.1 80) σ (fun f => σ (31 + f)) 9 (A.1 80 0) ∧ A' = A))) c3.1 ?_ ?_
    · refine q73_4 ⟨L.b, ?_⟩
      rw [g28_3 L]
      exact ⟨fun _ => l2, fun h => by omega⟩
    · intro i h0 h1 ih
      refine q73_4 ⟨L.b, ?_⟩
      rw [g28_3 L]
      refine ⟨fun h => by omega, fun _ => ?_⟩
      have at' := L.v33 h0 h1
      rw [g74 L h0 (by omega)]
      refine ⟨L.b, ?_⟩
      rw [g66 L h0 h1, g75_0 L at'.1 at'.2]
      have sH := L.sH (o := 9) (m := 0) (Or.inl ⟨rfl, rfl⟩) (n := i) h0 (by omega)
      have b1 := L.lnH0 (o := 9) (m := 0) (Or.inl ⟨rfl, rfl⟩) h0 h1
      have e : (if i < A.1 80 113 ∧ σ (15 + i) = 0 then A.1 80 (39 + i) else 0) * (A.1 80 (9 + A.1 80 (33 + i)) - A.1 80 0) = tb_lnH (A.1 80) σ 9 (A.1 80 0) i := by
        unfold tb_lnH
        by_cases hc : σ (15 + i) = 0
        · rw [if_pos ⟨h1, hc⟩, if_pos hc]
        · rw [if_neg (fun q => hc q.2), if_neg hc, Int.zero_mul]
      rw [e, tb_w_id (x := tb_lnH (A.1 80) σ 9 (A.1 80 0) i) (by omega) (by omega), tb_w_id (x := i + 1) (by omega) (by omega), tb_w_id (by omega) (by omega), ← tb_sum_s h0]
      exact ih
  exact l1
theorem tc_G.w7 (M : tc_G A σ) {w : Int} (w0 : 0 ≤ w) (w1 : w < A.1 80 116) : (0 ≤ A.1 80 (73 + w) ∧ A.1 80 (73 + w) ≤ 9) ∧ (0 ≤ A.1 80 (77 + w) ∧ A.1 80 (77 + w) ≤ 9) := ⟨M.v73 w0 w1, M.v77 w0 w1⟩
theorem g80 (L : tc_G A σ) {w : Int} (w0 : 0 ≤ w) (w1 : w < A.1 80 116) : tb_Ci X 80 [tb_r (A.2.2 4 1), tb_i w] A K = K (A.1 80 (77 + w) * 10 + A.1 80 (73 + w)) A := by
  have b := L.w7 w0 w1
  refine tb_dei (q80 L.b ?_)
  rw [g41_60 L w0 w1, g41_61 L w0 w1, e52c b.1.1 b.1.2 b.2.1 b.2.2]
  exact ⟨rfl, rfl⟩
theorem g92 (L : tc_G A σ) {x y : Int} (x0 : 0 ≤ x) (x1 : x ≤ 9) (y0 : 0 ≤ y) (y1 : y ≤ 9) (k1 : tb_isw (A.1 80) x y → K 1 A) (k0 : ¬ tb_isw (A.1 80) x y → K 0 A) : tb_Ci X 92 [tb_r (A.2.2 4 1), tb_i (y * 10 + x)] A K := by
  have c := L.c116
  refine q92 L.b ?_
  have key := tb_lp (n := A.1 80 116) (E := fun i => (∀ w, 0 ≤ w → w < i → ¬ (A.1 80 (73 + w) = x ∧ A.1 80 (77 + w) = y)) → tb_E X 92 2 [tb_r (A.2.2 4 1), tb_i (y * 10 + x), tb_i i] [] A (tb_Ri 92 K)) c.1 ?_ ?_
  · exact key (fun w a b => by omega)
  · intro n
    refine q92_2 L.b ?_
    rw [g28_6 L]
    exact ⟨fun _ => k0 (fun ⟨w, w0, w1, w2⟩ => n w w0 w1 w2), fun q => by omega⟩
  · intro i i0 i1 ih n
    have b := L.w7 i0 i1
    refine q92_2 L.b ?_
    rw [g28_6 L]
    refine ⟨fun q => by omega, fun _ => ?_⟩
    rw [g80 L i0 i1, tb_w_id (x := i + 1) (by omega) (by omega)]
    refine ⟨fun q => ih (fun w w0 w1 => ?_), fun q => k1 ⟨i, i0, i1, by omega, by omega⟩⟩
    by_cases e : w = i
    · rw [e]
      intro u
      omega
    · exact n w w0 (by omega)
theorem g79 (L : tc_G A σ) {x y : Int} (x0 : 0 ≤ x) (x1 : x ≤ 9) (y0 : 0 ≤ y) (y1 : y ≤ 9) : tb_Ci X 79 [tb_r (A.2.2 4 1), tb_i (y * 10 + x)] A K = K (if A.1 80 116 = 0 then -1 else A.1 80 (77 + tb_nw (A.1 80) x y (A.1 80 116).toNat) * 10 + A.1 80 (73 + tb_nw (A.1 80) x y (A.1 80 116).toNat) : Int) A := by
  have c := L.c116
  refine tb_dei (q79 L.b ?_)
  have key := tb_lp (n := A.1 80 116) (E := fun i => ∀ j : tb_V, tb_E X 79 4 [tb_r (A.2.2 4 1), tb_i (y * 10 + x), tb_i (if i = 0 then -1 else A.1 80 (77 + tb_nw (A.1 80) x y i.toNat) * 10 + A.1 80 (73 + tb_nw (A.1 80) x y i.toNat)), tb_i i, j] [] A (tb_Ri 79 (fun v' A' => v' = (if A.1 80 116 = 0 then -1 else A.1 80 (77 + tb_nw (A.1 80) x y (A.1 80 116).toNat) * 10 + A.1 80 (73 + tb_nw (A.1 80) x y (A.1 80 116).toNat)) ∧ A' = A))) c.1 ?_ ?_
  · exact key _
  · intro j
    refine q79_4 L.b ?_
    rw [g28_6 L]
    exact ⟨fun _ => ⟨rfl, rfl⟩, fun q => by omega⟩
  · intro i i0 i1 ih j
    have b := L.w7 i0 i1
    rw [show (i + 1).toNat = i.toNat + 1 by omega, if_neg (by omega)] at ih
    rw [tb_nw_s, show ((i.toNat : Nat) : Int) = i by omega] at ih
    refine q79_4 L.b ?_
    rw [g28_6 L]
    refine ⟨fun q => by omega, fun _ => ?_⟩
    rw [g80 L i0 i1, tb_w_id (x := i + 1) (by omega) (by omega)]
    by_cases e : i = 0
    · rw [if_pos e]
      refine ⟨fun _ => ?_, fun q => absurd rfl q⟩
      have e0 : tb_nw (A.1 80) x y i.toNat = 0 := by rw [e]; rfl
      rw [e0, e] at ih
      rw [if_neg (Int.lt_irrefl _)] at ih
      rw [e]
      exact ih _
    · have nb := tb_nwB (A.1 80) x y i.toNat (by omega)
      have b' := L.w7 (w := tb_nw (A.1 80) x y i.toNat) nb.1 (by omega)
      rw [if_neg e]
      refine ⟨fun q => by omega, fun _ => ?_⟩
      rw [e81 b.1.1 b.1.2 b.2.1 b.2.2 x0 x1 y0 y1, e81 b'.1.1 b'.1.2 b'.2.1 b'.2.2 x0 x1 y0 y1, tb_far_c (A.1 80 (73 + i)), tb_far_c (A.1 80 (73 + tb_nw (A.1 80) x y i.toNat))]
      refine ⟨fun q => ?_, fun q => ?_⟩
      · rw [if_neg (show ¬ tb_fW (A.1 80) x y i < tb_fW (A.1 80) x y (tb_nw (A.1 80) x y i.toNat) by unfold tb_fW; omega)] at ih
        exact ih _
      · rw [if_pos (show tb_fW (A.1 80) x y i < tb_fW (A.1 80) x y (tb_nw (A.1 80) x y i.toNat) from q)] at ih
        exact ih _
theorem g78 (L : tc_G A σ) {x y h hu ln : Int} (x0 : 0 ≤ x) (x1 : x ≤ 9) (y0 : 0 ≤ y) (y1 : y ≤ 9) (h0 : 0 ≤ h) (h1 : h ≤ 7) : tb_Ci X 78 [tb_r 4, tb_i (y * 10 + x), tb_i h, tb_i hu, tb_i ln] A K = K (tb_bear (A.1 80) (σ 8) x y h hu ln) A := by
  have c := L.c116
  have v2 := L.v2
  have s9 := L.sc0.2.2.2.2.2.2.2.2.2
  refine tb_dei (q78 ⟨L.b, ?_⟩)
  rw [g76_5 L]
  have rest : (ln < A.1 80 2 → (tb_w (-A.1 80 2) < ln → tb_isB (A.2.2 4 1) ∧ tb_Ci X 76 [tb_r (A.2.2 4 1), tb_i 4] A (fun v A' => (if A.1 5 9 < v then 8 else h) = (if A.1 80 2 ≤ ln then (h + 2 + 7) % 8 else if ln ≤ -(A.1 80 2) then (h + 0 + 7) % 8 else if A.1 80 4 ≤ σ 8 then h else 8) ∧ A' = A)) ∧ (ln ≤ tb_w (-A.1 80 2) → tb_Ci X 86 [tb_i h, tb_i 0] A (fun v A' => v = (if A.1 80 2 ≤ ln then (h + 2 + 7) % 8 else if ln ≤ -(A.1 80 2) then (h + 0 + 7) % 8 else if A.1 80 4 ≤ σ 8 then h else 8) ∧ A' = A))) ∧ (A.1 80 2 ≤ ln → tb_Ci X 86 [tb_i h, tb_i 2] A (fun v A' => v = (if A.1 80 2 ≤ ln then (h + 2 + 7) % 8 else if ln ≤ -(A.1 80 2) then (h + 0 + 7) % 8 else if A.1 80 4 ≤ σ 8 then h else 8) ∧ A' = A)) := by
    rw [tb_w_id (x := -A.1 80 2) (by omega) (by omega)]
    refine ⟨fun a => ⟨fun b => ⟨L.b, ?_⟩, fun b => ?_⟩, fun a => ?_⟩
    · rw [g76_4 L, s9, if_neg (show ¬ A.1 80 2 ≤ ln by omega), if_neg (show ¬ ln ≤ -A.1 80 2 by omega)]
      refine ⟨?_, rfl⟩
      ((repeat' split) <;> omega)
    · rw [e86 h0 h1 (by decide) (by decide), if_neg (show ¬ A.1 80 2 ≤ ln by omega), if_pos b]
      exact ⟨rfl, rfl⟩
    · rw [e86 h0 h1 (by decide) (by decide), if_pos a]
      exact ⟨rfl, rfl⟩
  unfold tb_bear
  refine ⟨fun q => ⟨L.b, ?_⟩, fun q => ⟨L.b, ?_⟩⟩
  · rw [g76_2 L, if_neg (show ¬ (A.1 80 5 ≤ hu ∧ 0 < A.1 80 116) by omega)]
    exact rest
  · rw [g79 L x0 x1 y0 y1]
    by_cases e : A.1 80 116 = 0
    · rw [if_pos e, if_neg (show ¬ (A.1 80 5 ≤ hu ∧ 0 < A.1 80 116) by omega)]
      refine ⟨fun _ => ⟨L.b, ?_⟩, fun u => absurd rfl u⟩
      rw [g76_2 L]
      exact rest
    · have nb := tb_nwB (A.1 80) x y (A.1 80 116).toNat (by omega)
      have b' := L.w7 (w := tb_nw (A.1 80) x y (A.1 80 116).toNat) nb.1 (by omega)
      rw [if_neg e, if_pos (show A.1 80 5 ≤ hu ∧ 0 < A.1 80 116 by omega)]
      refine ⟨fun u => by omega, fun _ => ?_⟩
      rw [e84 x0 x1 y0 y1 b'.1.1 b'.1.2 b'.2.1 b'.2.2]
      exact ⟨rfl, rfl⟩
end TBGEE
