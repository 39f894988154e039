/-! THE RELATION between class and reference: a beast's lines, a state -/
section TBREL
/-- class base, place of the count, reference's base -/
def tb_tab : List (Int × Int × Int) := [(0, 110, 0), (1, 110, 1), (2, 110, 2), (3, 110, 3), (4, 110, 4), (5, 110, 5), (48, 111, 6), (49, 111, 7), (50, 111, 8), (96, 112, 9), (97, 112, 17), (98, 112, 25), (144, 113, 33), (145, 113, 39), (146, 113, 45), (147, 113, 51), (192, 114, 57), (193, 114, 61), (240, 115, 65), (241, 115, 69), (288, 116, 73), (289, 116, 77), (336, 117, 81), (337, 117, 85), (338, 117, 89), (339, 117, 93), (340, 117, 97), (384, 118, 101), (385, 118, 104), (386, 118, 107)]
/-- place of the count, base, least, greatest -/
def tb_bnd : List (Int × Int × Int × Int) := [(110, 0, 0, 9), (110, 1, 0, 9), (110, 2, 1, 99), (110, 3, 1, 30), (110, 4, 0, 99), (110, 5, 1, 30), (111, 6, 0, 9), (111, 7, 0, 9), (111, 8, 0, 7), (112, 9, 0, 9), (112, 17, 0, 9), (112, 25, 1, 99), (113, 39, 1, 30), (113, 45, 1, 60), (113, 51, 1, 99), (114, 61, 1, 30), (115, 69, 1, 9), (116, 73, 0, 9), (116, 77, 0, 9), (117, 81, 0, 9), (117, 85, 0, 9), (117, 89, 1, 99), (117, 93, 1, 99), (117, 97, 1, 99), (118, 104, 1, 99), (118, 107, 0, 1)]
def tb_scr : List (Int × Int) := [(113, 33), (114, 57), (115, 65), (118, 101)]
def tb_rb (c : Nat → Int → Int) (b : Nat) (r : Int → Int) : Prop := (∀ s, 0 ≤ s → s < 9 → c (b + 1) s = r (110 + s)) ∧ ∀ p ∈ tb_tab, ∀ l, 0 ≤ l → l < r p.2.1 → c (b + 2) (p.1 + 6 * l) = r (p.2.2 + l)
def tb_bb (r : Int → Int) : Prop := (0 ≤ r 110 ∧ r 110 ≤ 1) ∧ (0 ≤ r 111 ∧ r 111 ≤ 1) ∧ (0 ≤ r 112 ∧ r 112 ≤ 8) ∧ (0 ≤ r 113 ∧ r 113 ≤ 6) ∧ (0 ≤ r 114 ∧ r 114 ≤ 4) ∧ (0 ≤ r 115 ∧ r 115 ≤ 4) ∧ (0 ≤ r 116 ∧ r 116 ≤ 4) ∧ (0 ≤ r 117 ∧ r 117 ≤ 4) ∧ (0 ≤ r 118 ∧ r 118 ≤ 3) ∧ (∀ p ∈ tb_bnd, ∀ l, 0 ≤ l → l < r p.1 → p.2.2.1 ≤ r (p.2.1 + l) ∧ r (p.2.1 + l) ≤ p.2.2.2) ∧ ∀ p ∈ tb_scr, ∀ l, 0 ≤ l → l < r p.1 → 0 ≤ r (p.2 + l) ∧ r (p.2 + l) < r 112
def tc_rs (c : Nat → Int → Int) (q : Nat) (s : Int → Int) : Prop := (c q 0 = s 9 ∧ c q 1 = s 10 ∧ c q 2 = s 1 * 10 + s 0 ∧ c q 3 = s 2 ∧ c q 4 = s 3 ∧ c q 5 = s 4 ∧ c q 6 = s 5 ∧ c q 7 = s 6 ∧ c q 8 = s 7 ∧ c q 9 = s 8) ∧ ((0 ≤ c q 10 ∧ c q 10 < 64) ∧ ∀ h, 0 ≤ h → h < 6 → tb_and (tb_shr (c q 10) h) 1 = s (21 + h)) ∧ ((0 ≤ c q 11 ∧ c q 11 < 256) ∧ ∀ k, 0 ≤ k → k < 8 → tb_and (tb_shr (c q 11) k) 1 = s (35 + k)) ∧ (∀ h, 0 ≤ h → h < 6 → c (q + 1) h = s (15 + h)) ∧ (∀ f, 0 ≤ f → f < 4 → c (q + 2) f = s (27 + f)) ∧ (∀ f, 0 ≤ f → f < 4 → c (q + 3) f = s (31 + f)) ∧ (∀ k, 0 ≤ k → k < 8 → c (q + 4) k = s (43 + k)) ∧ ∀ t, 0 ≤ t → t ≤ s 9 → c (q + 5) t = s (51 + 2 * t + 1) * 10 + s (51 + 2 * t)
/-- how far apart two cells are -/
def tc_ab (x : Int) : Int := if 0 ≤ x then x else -x
def tb_mx2 (x y : Int) : Int := if x ≤ y then y else x
def tb_far (x y a b : Int) : Int := tb_mx2 (tc_ab (x - a)) (tc_ab (y - b))
def tb_nr (r s : Int → Int) (l t : Int) : Prop := tb_far (s (51 + 2 * t)) (s (51 + 2 * t + 1)) (r (81 + l)) (r (85 + l)) ≤ 2
def tb_bs (r s : Int → Int) : Prop := ((0 ≤ s 0 ∧ s 0 ≤ 9) ∧ (0 ≤ s 1 ∧ s 1 ≤ 9) ∧ (0 ≤ s 2 ∧ s 2 ≤ 7) ∧ (0 ≤ s 3 ∧ s 3 ≤ s 9) ∧ (-2147483648 ≤ s 4 ∧ s 4 < 2147483648) ∧ (-2147483648 ≤ s 5 ∧ s 5 < 2147483648) ∧ (0 ≤ s 6 ∧ s 6 ≤ 15) ∧ (0 ≤ s 7 ∧ s 7 ≤ 15) ∧ (-2147483648 ≤ s 8 ∧ s 8 < 2147483648) ∧ (0 ≤ s 9 ∧ s 9 ≤ 200) ∧ (0 ≤ s 10 ∧ s 10 ≤ 65536)) ∧ (∀ h, 0 ≤ h → h < 6 → (0 ≤ s (15 + h) ∧ s (15 + h) ≤ 2) ∧ (0 ≤ s (21 + h) ∧ s (21 + h) ≤ 1)) ∧ (∀ f, 0 ≤ f → f < 4 → (0 ≤ s (27 + f) ∧ s (27 + f) ≤ 2) ∧ (0 ≤ s (31 + f) ∧ s (31 + f) < r 112)) ∧ (∀ k, 0 ≤ k → k < 8 → (0 ≤ s (35 + k) ∧ s (35 + k) ≤ 1) ∧ (0 ≤ s (43 + k) ∧ s (43 + k) ≤ 9)) ∧ (∀ t, 0 ≤ t → t ≤ s 9 → (0 ≤ s (51 + 2 * t) ∧ s (51 + 2 * t) ≤ 9) ∧ (0 ≤ s (51 + 2 * t + 1) ∧ s (51 + 2 * t + 1) ≤ 9)) ∧ (s (51 + 2 * s 9) = s 0 ∧ s (51 + 2 * s 9 + 1) = s 1) ∧ (∀ f, 0 ≤ f → f < r 114 → s (27 + f) = 0 → s (35 + s (31 + f)) = 0) ∧ ∀ l, 0 ≤ l → l < r 117 → (0 ≤ s (11 + l) ∧ s (11 + l) ≤ s 9) ∧ (∀ t, s 9 - s (11 + l) < t → t ≤ s 9 → tb_nr r s l t) ∧ (s (11 + l) < s 9 → ¬ tb_nr r s l (s 9 - s (11 + l)))
def tb_bz (r s : Int → Int) : Prop := ((0 ≤ s 0 ∧ s 0 ≤ 9) ∧ (0 ≤ s 1 ∧ s 1 ≤ 9) ∧ (0 ≤ s 2 ∧ s 2 ≤ 7) ∧ (0 ≤ s 3 ∧ s 3 ≤ s 9) ∧ (-2147483648 ≤ s 4 ∧ s 4 < 2147483648) ∧ (-2147483648 ≤ s 5 ∧ s 5 < 2147483648) ∧ (0 ≤ s 6 ∧ s 6 ≤ 15) ∧ (0 ≤ s 7 ∧ s 7 ≤ 15) ∧ (-2147483648 ≤ s 8 ∧ s 8 < 2147483648) ∧ (0 ≤ s 9 ∧ s 9 ≤ 200) ∧ (0 ≤ s 10 ∧ s 10 ≤ 65536)) ∧ (∀ h, 0 ≤ h → h < 6 → (0 ≤ s (15 + h) ∧ s (15 + h) ≤ 2) ∧ (0 ≤ s (21 + h) ∧ s (21 + h) ≤ 1)) ∧ (∀ f, 0 ≤ f → f < 4 → (0 ≤ s (27 + f) ∧ s (27 + f) ≤ 2) ∧ (0 ≤ s (31 + f) ∧ s (31 + f) < r 112)) ∧ (∀ k, 0 ≤ k → k < 8 → (0 ≤ s (35 + k) ∧ s (35 + k) ≤ 1) ∧ (0 ≤ s (43 + k) ∧ s (43 + k) ≤ 9))
/-- what stands on the back, when a beast was told -/
def tb_L (A : tb_H) : Prop := (A.2.2 4 1 = 11 ∨ A.2.2 4 1 = 48) ∧ tb_rb A.1 (A.2.2 4 1) (A.1 80) ∧ tb_bb (A.1 80) ∧ (A.1 80 110 = 1 ∧ A.1 80 111 = 1 ∧ 1 ≤ A.1 80 112) ∧ tc_rs A.1 5 (A.1 82) ∧ tb_bs (A.1 80) (A.1 82)
def tb_Lo : List Nat := [4, 5, 6, 7, 8, 9, 10, 12, 13, 49, 50, 80, 82]
variable {A A1 : tb_H}
theorem tb_Lc (h : ∀ o, tb_Lo.contains o = true → A1.1 o = A.1 o) (h2 : A1.2.2 4 1 = A.2.2 4 1) (L : tb_L A) : tb_L A1 := by
  unfold tb_L at L ⊢
  rw [h2]
  have e80 : A1.1 80 = A.1 80 := h 80 rfl
  have e82 : A1.1 82 = A.1 82 := h 82 rfl
  have e5 : A1.1 5 = A.1 5 := h 5 rfl
  have e6 : A1.1 6 = A.1 6 := h 6 rfl
  have e7 : A1.1 7 = A.1 7 := h 7 rfl
  have e8 : A1.1 8 = A.1 8 := h 8 rfl
  have e9 : A1.1 9 = A.1 9 := h 9 rfl
  have e10 : A1.1 10 = A.1 10 := h 10 rfl
  have e12 : A1.1 12 = A.1 12 := h 12 rfl
  have e13 : A1.1 13 = A.1 13 := h 13 rfl
  have e49 : A1.1 49 = A.1 49 := h 49 rfl
  have e50 : A1.1 50 = A.1 50 := h 50 rfl
  rw [e80, e82]
  obtain ⟨hb, h3, h4, h5, h6, h7⟩ := L
  refine ⟨hb, ?_, h4, h5, ?_, h7⟩
  · unfold tb_rb at h3 ⊢
    rcases hb with hb | hb <;> rw [hb] at h3 ⊢
    · rw [show (11 + 1 : Nat) = 12 from rfl, show (11 + 2 : Nat) = 13 from rfl] at h3 ⊢
      rw [e12, e13]; exact h3
    · rw [show (48 + 1 : Nat) = 49 from rfl, show (48 + 2 : Nat) = 50 from rfl] at h3 ⊢
      rw [e49, e50]; exact h3
  · unfold tc_rs at h6 ⊢
    rw [show (5 + 1 : Nat) = 6 from rfl, show (5 + 2 : Nat) = 7 from rfl, show (5 + 3 : Nat) = 8 from rfl, show (5 + 4 : Nat) = 9 from rfl, show (5 + 5 : Nat) = 10 from rfl] at h6 ⊢
    rw [e5, e6, e7, e8, e9, e10]; exact h6
theorem tb_L.up (L : tb_L A) {o : Nat} {k x : Int} (ho : tb_Lo.contains o = false) : tb_L (tb_upI A o k x) := by
  refine tb_Lc (A := A) (fun o' h' => ?_) rfl L
  funext k'
  refine tb_uI_o ?_
  rintro rfl
  rw [ho] at h'; cases h'
theorem tb_L.upL (L : tb_L A) {o : Nat} {k x : Int} : tb_L (tb_upL A o k x) := tb_Lc (A := A) (fun _ _ => rfl) rfl L
theorem tb_L.upP (L : tb_L A) {o : Nat} {k : Int} {x : Nat} (ho : o ≠ 4) : tb_L (tb_upP A o k x) := tb_Lc (A := A) (fun _ _ => rfl) (if_neg (fun q => ho q.1.symm)) L
theorem tb_L.fr (L : tb_L A) {S : List Nat} {F : List (Nat × Int)} {P : List Nat} (hf : tb_fr S F P A A1) (c : tb_av S F P tb_Lo [] [4] = true) : tb_L A1 := tb_Lc (A := A) (fun o ho => hf.o c ho) (congrFun (hf.p c rfl) 1) L
theorem tb_L.b (L : tb_L A) : tb_isB (A.2.2 4 1) := by rcases L.1 with h | h <;> rw [h]; exact tb_isB11; exact tb_isB48
theorem tb_L.ct (L : tb_L A) {s : Int} (h0 : 0 ≤ s) (h1 : s < 9) : A.1 (A.2.2 4 1 + 1) s = A.1 80 (110 + s) := L.2.1.1 s h0 h1
theorem tb_L.va (L : tb_L A) {a b c : Int} (hp : (a, b, c) ∈ tb_tab) {l : Int} (h0 : 0 ≤ l) (h1 : l < A.1 80 b) : A.1 (A.2.2 4 1 + 2) (a + 6 * l) = A.1 80 (c + l) := L.2.1.2 _ hp l h0 h1
theorem tb_L.sc0 (L : tb_L A) : A.1 5 0 = A.1 82 9 ∧ A.1 5 1 = A.1 82 10 ∧ A.1 5 2 = A.1 82 1 * 10 + A.1 82 0 ∧ A.1 5 3 = A.1 82 2 ∧ A.1 5 4 = A.1 82 3 ∧ A.1 5 5 = A.1 82 4 ∧ A.1 5 6 = A.1 82 5 ∧ A.1 5 7 = A.1 82 6 ∧ A.1 5 8 = A.1 82 7 ∧ A.1 5 9 = A.1 82 8 := L.2.2.2.2.1.1
theorem tb_L.tie (L : tb_L A) {h : Int} (h0 : 0 ≤ h) (h1 : h < 6) : tb_and (tb_shr (A.1 5 10) h) 1 = A.1 82 (21 + h) := L.2.2.2.2.1.2.1.2 h h0 h1
theorem tb_L.gone (L : tb_L A) {h : Int} (h0 : 0 ≤ h) (h1 : h < 8) : tb_and (tb_shr (A.1 5 11) h) 1 = A.1 82 (35 + h) := L.2.2.2.2.1.2.2.1.2 h h0 h1
theorem tb_L.hf (L : tb_L A) {h : Int} (h0 : 0 ≤ h) (h1 : h < 6) : A.1 6 h = A.1 82 (15 + h) := L.2.2.2.2.1.2.2.2.1 h h0 h1
theorem tb_L.ff (L : tb_L A) {h : Int} (h0 : 0 ≤ h) (h1 : h < 4) : A.1 7 h = A.1 82 (27 + h) := L.2.2.2.2.1.2.2.2.2.1 h h0 h1
theorem tb_L.ho (L : tb_L A) {h : Int} (h0 : 0 ≤ h) (h1 : h < 4) : A.1 8 h = A.1 82 (31 + h) := L.2.2.2.2.1.2.2.2.2.2.1 h h0 h1
theorem tb_L.ba (L : tb_L A) {h : Int} (h0 : 0 ≤ h) (h1 : h < 8) : A.1 9 h = A.1 82 (43 + h) := L.2.2.2.2.1.2.2.2.2.2.2.1 h h0 h1
theorem tb_L.lg (L : tb_L A) {t : Int} (h0 : 0 ≤ t) (h1 : t ≤ A.1 82 9) : A.1 10 t = A.1 82 (51 + 2 * t + 1) * 10 + A.1 82 (51 + 2 * t) := L.2.2.2.2.1.2.2.2.2.2.2.2 t h0 h1
def tc_M (A : tb_H) : Prop := tb_bb (A.1 80) ∧ (A.1 80 110 = 1 ∧ A.1 80 111 = 1 ∧ 1 ≤ A.1 80 112) ∧ tb_bz (A.1 80) (A.1 82)
theorem tb_bs.z {r s : Int → Int} (h : tb_bs r s) : tb_bz r s := ⟨h.1, h.2.1, h.2.2.1, h.2.2.2.1⟩
theorem tb_L.M (L : tb_L A) : tc_M A := ⟨L.2.2.1, L.2.2.2.1, L.2.2.2.2.2.z⟩
theorem tc_M.c (M : tc_M A) (h0 : A1.1 80 = A.1 80) (h2 : A1.1 82 = A.1 82) : tc_M A1 := by
  unfold tc_M at M ⊢
  rw [h0, h2]; exact M
theorem tc_M.bd (L : tc_M A) {a b c d : Int} (hp : (a, b, c, d) ∈ tb_bnd) {l : Int} (h0 : 0 ≤ l) (h1 : l < A.1 80 a) : c ≤ A.1 80 (b + l) ∧ A.1 80 (b + l) ≤ d := L.1.2.2.2.2.2.2.2.2.2.1 _ hp l h0 h1
theorem tc_M.bd0 (L : tc_M A) {a b c d : Int} (hp : (a, b, c, d) ∈ tb_bnd) (h1 : 0 < A.1 80 a) : c ≤ A.1 80 b ∧ A.1 80 b ≤ d := by
  have := L.bd hp (l := 0) (by omega) h1
  rwa [Int.add_zero] at this
theorem tc_M.sc (L : tc_M A) {a b : Int} (hp : (a, b) ∈ tb_scr) {l : Int} (h0 : 0 ≤ l) (h1 : l < A.1 80 a) : 0 ≤ A.1 80 (b + l) ∧ A.1 80 (b + l) < A.1 80 112 := L.1.2.2.2.2.2.2.2.2.2.2 _ hp l h0 h1
theorem tc_M.c112 (L : tc_M A) : 1 ≤ A.1 80 112 ∧ A.1 80 112 ≤ 8 := ⟨L.2.1.2.2, L.1.2.2.1.2⟩
theorem tc_M.c113 (L : tc_M A) : 0 ≤ A.1 80 113 ∧ A.1 80 113 ≤ 6 := L.1.2.2.2.1
theorem tc_M.c114 (L : tc_M A) : 0 ≤ A.1 80 114 ∧ A.1 80 114 ≤ 4 := L.1.2.2.2.2.1
theorem tc_M.c115 (L : tc_M A) : 0 ≤ A.1 80 115 ∧ A.1 80 115 ≤ 4 := L.1.2.2.2.2.2.1
theorem tc_M.c116 (L : tc_M A) : 0 ≤ A.1 80 116 ∧ A.1 80 116 ≤ 4 := L.1.2.2.2.2.2.2.1
theorem tc_M.c117 (L : tc_M A) : 0 ≤ A.1 80 117 ∧ A.1 80 117 ≤ 4 := L.1.2.2.2.2.2.2.2.1
theorem tc_M.c118 (L : tc_M A) : 0 ≤ A.1 80 118 ∧ A.1 80 118 ≤ 3 := L.1.2.2.2.2.2.2.2.2.1
theorem tc_M.c110 (L : tc_M A) : A.1 80 110 = 1 := L.2.1.1
theorem tc_M.c111 (L : tc_M A) : A.1 80 111 = 1 := L.2.1.2.1
theorem tc_M.s0 (L : tc_M A) : (0 ≤ A.1 82 0 ∧ A.1 82 0 ≤ 9) ∧ (0 ≤ A.1 82 1 ∧ A.1 82 1 ≤ 9) ∧ (0 ≤ A.1 82 2 ∧ A.1 82 2 ≤ 7) ∧ (0 ≤ A.1 82 3 ∧ A.1 82 3 ≤ A.1 82 9) ∧ (-2147483648 ≤ A.1 82 4 ∧ A.1 82 4 < 2147483648) ∧ (-2147483648 ≤ A.1 82 5 ∧ A.1 82 5 < 2147483648) ∧ (0 ≤ A.1 82 6 ∧ A.1 82 6 ≤ 15) ∧ (0 ≤ A.1 82 7 ∧ A.1 82 7 ≤ 15) ∧ (-2147483648 ≤ A.1 82 8 ∧ A.1 82 8 < 2147483648) ∧ (0 ≤ A.1 82 9 ∧ A.1 82 9 ≤ 200) ∧ (0 ≤ A.1 82 10 ∧ A.1 82 10 ≤ 65536) := L.2.2.1
theorem tc_M.s15 (L : tc_M A) {h : Int} (h0 : 0 ≤ h) (h1 : h < 6) : (0 ≤ A.1 82 (15 + h) ∧ A.1 82 (15 + h) ≤ 2) ∧ (0 ≤ A.1 82 (21 + h) ∧ A.1 82 (21 + h) ≤ 1) := L.2.2.2.1 h h0 h1
theorem tc_M.s27 (L : tc_M A) {h : Int} (h0 : 0 ≤ h) (h1 : h < 4) : (0 ≤ A.1 82 (27 + h) ∧ A.1 82 (27 + h) ≤ 2) ∧ (0 ≤ A.1 82 (31 + h) ∧ A.1 82 (31 + h) < A.1 80 112) := L.2.2.2.2.1 h h0 h1
theorem tc_M.s35 (L : tc_M A) {h : Int} (h0 : 0 ≤ h) (h1 : h < 8) : (0 ≤ A.1 82 (35 + h) ∧ A.1 82 (35 + h) ≤ 1) ∧ (0 ≤ A.1 82 (43 + h) ∧ A.1 82 (43 + h) ≤ 9) := L.2.2.2.2.2 h h0 h1
theorem tb_L.s51 (L : tb_L A) {t : Int} (h0 : 0 ≤ t) (h1 : t ≤ A.1 82 9) : (0 ≤ A.1 82 (51 + 2 * t) ∧ A.1 82 (51 + 2 * t) ≤ 9) ∧ (0 ≤ A.1 82 (51 + 2 * t + 1) ∧ A.1 82 (51 + 2 * t + 1) ≤ 9) := L.2.2.2.2.2.2.2.2.2.1 t h0 h1
theorem tb_L.now (L : tb_L A) : A.1 82 (51 + 2 * A.1 82 9) = A.1 82 0 ∧ A.1 82 (51 + 2 * A.1 82 9 + 1) = A.1 82 1 := L.2.2.2.2.2.2.2.2.2.2.1
theorem tb_L.th (L : tb_L A) {f : Int} (h0 : 0 ≤ f) (h1 : f < A.1 80 114) (h2 : A.1 82 (27 + f) = 0) : A.1 82 (35 + A.1 82 (31 + f)) = 0 := L.2.2.2.2.2.2.2.2.2.2.2.1 f h0 h1 h2
def tb_L.bd (L : tb_L A) := @tc_M.bd A L.M
def tb_L.bd0 (L : tb_L A) := @tc_M.bd0 A L.M
def tb_L.sc (L : tb_L A) := @tc_M.sc A L.M
def tb_L.c112 (L : tb_L A) := @tc_M.c112 A L.M
def tb_L.c113 (L : tb_L A) := @tc_M.c113 A L.M
def tb_L.c114 (L : tb_L A) := @tc_M.c114 A L.M
def tb_L.c115 (L : tb_L A) := @tc_M.c115 A L.M
def tb_L.c116 (L : tb_L A) := @tc_M.c116 A L.M
def tb_L.c117 (L : tb_L A) := @tc_M.c117 A L.M
def tb_L.c118 (L : tb_L A) := @tc_M.c118 A L.M
def tb_L.c110 (L : tb_L A) := @tc_M.c110 A L.M
def tb_L.c111 (L : tb_L A) := @tc_M.c111 A L.M
def tb_L.s0 (L : tb_L A) := @tc_M.s0 A L.M
def tb_L.s15 (L : tb_L A) := @tc_M.s15 A L.M
def tb_L.s27 (L : tb_L A) := @tc_M.s27 A L.M
def tb_L.s35 (L : tb_L A) := @tc_M.s35 A L.M
end TBREL
