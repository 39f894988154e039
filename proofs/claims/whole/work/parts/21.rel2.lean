/-! THE WHOLE RELATION, and what a question leaves -/
section TBREL2
def tb_R0 (A : tb_H) : Prop := (A.1 0 9 = A.1 77 14 ∧ (A.1 77 14 = 0 ∨ A.1 77 14 = 1)) ∧ A.1 0 13 = A.1 77 11 ∧ A.1 0 11 = A.1 77 9 ∧ (A.1 77 11 = 4 → A.1 0 12 = A.1 77 10)
def tb_RT (A : tb_H) : Prop := A.1 1 2 = A.1 77 2 ∧ (0 ≤ A.1 77 2 ∧ A.1 77 2 ≤ 900) ∧ ∀ k, 0 ≤ k → k < A.1 77 2 → A.1 2 k = tb_b8 (A.1 78 k) ∧ 0 ≤ A.1 78 k ∧ A.1 78 k ≤ 255
def tb_RB (A : tb_H) : Prop := (A.2.2 4 1 = 11 ∧ A.2.2 0 8 = 48) ∨ (A.2.2 4 1 = 48 ∧ A.2.2 0 8 = 11)
def tb_RU (A : tb_H) : Prop := A.1 77 14 = 0 → (∀ s, 0 ≤ s → s < 9 → A.1 (A.2.2 4 1 + 1) s = 0) ∧ A.1 5 0 = 0 ∧ A.1 5 1 = 0 ∧ A.1 77 19 = 0 ∧ A.1 77 23 = 0 ∧ A.1 77 27 = 0
def tb_kp (A : tb_H) (i : Int) : Int → Int := fun k => A.1 83 (453 * i + k)
def tb_RI (A : tb_H) : Prop := A.1 0 10 = A.1 77 19 ∧ (0 ≤ A.1 77 19 ∧ A.1 77 19 ≤ 4) ∧ ∀ i, 0 ≤ i → i < A.1 77 19 → tc_rs A.1 (53 + 6 * i.toNat) (tb_kp A i) ∧ tb_bs (A.1 80) (tb_kp A i)
/-- the place in the class's ring of the reference's act j -/
def tb_rg (A : tb_H) (j : Int) : Int := (A.1 17 3 + j - A.1 77 23) % 30
def tc_ty (A : tb_H) (h j : Int) : Prop := A.1 84 j = 1 ∧ A.1 85 j = h
def tb_RA (A : tb_H) : Prop := A.1 17 4 = A.1 77 23 ∧ (0 ≤ A.1 77 23 ∧ A.1 77 23 ≤ 30) ∧ (0 ≤ A.1 17 3 ∧ A.1 17 3 < 30) ∧ ∀ j, 0 ≤ j → j < A.1 77 23 → A.1 18 (tb_rg A j) = A.1 84 j ∧
  ((A.1 84 j = 0 ∧ A.1 19 (tb_rg A j) = A.1 85 j ∧ A.1 20 (tb_rg A j) = A.1 86 j ∧ (0 ≤ A.1 85 j ∧ A.1 85 j < A.1 80 114) ∧ (0 ≤ A.1 86 j ∧ A.1 86 j < A.1 80 112) ∧ A.1 82 (35 + A.1 86 j) = 0) ∨
   (A.1 84 j = 1 ∧ A.1 19 (tb_rg A j) = A.1 85 j ∧ (0 ≤ A.1 85 j ∧ A.1 85 j < A.1 80 113) ∧ (A.1 86 j = 0 ∨ A.1 86 j = 1) ∧ (∀ j', j < j' → j' < A.1 77 23 → tc_ty A (A.1 85 j) j' → (∀ m, j < m → m < j' → ¬ tc_ty A (A.1 85 j) m) → A.1 86 j' = 1 - A.1 86 j) ∧ ((∀ m, j < m → m < A.1 77 23 → ¬ tc_ty A (A.1 85 j) m) → A.1 82 (21 + A.1 85 j) = 1 - A.1 86 j)) ∨
   (A.1 84 j = 2 ∧ A.1 19 (tb_rg A j) = A.1 86 j) ∨
   (A.1 84 j = 3 ∧ A.1 19 (tb_rg A j) = A.1 85 j ∧ A.1 20 (tb_rg A j) = A.1 86 j ∧ (0 ≤ A.1 85 j ∧ A.1 85 j < A.1 80 112) ∧ (0 ≤ A.1 86 j ∧ A.1 86 j ≤ 9)))
def tb_RG (A : tb_H) : Prop := A.1 42 2 = A.1 77 27 ∧ (0 ≤ A.1 77 27 ∧ A.1 77 27 ≤ 6) ∧ ∀ i, 0 ≤ i → i < A.1 77 27 → A.1 43 i = A.1 87 i ∧ (0 ≤ A.1 87 i ∧ A.1 87 i ≤ 20) ∧ A.1 44 i = A.1 89 i * 10 + A.1 88 i ∧ (0 ≤ A.1 88 i ∧ A.1 88 i ≤ 9) ∧ (0 ≤ A.1 89 i ∧ A.1 89 i ≤ 9)
def tb_RP (A : tb_H) : Prop := ((A.2.2 38 0 = 39 ∧ A.2.2 38 1 = 40) ∨ (A.2.2 38 0 = 40 ∧ A.2.2 38 1 = 39)) ∧ ((A.2.2 42 4 = 46 ∧ A.2.2 42 5 = 47) ∨ (A.2.2 42 4 = 47 ∧ A.2.2 42 5 = 46))
def tb_Rel (A : tb_H) : Prop := tb_R0 A ∧ tb_RT A ∧ tb_RB A ∧ (A.1 77 14 = 1 → tb_L A) ∧ tb_RU A ∧ tb_RI A ∧ tb_RA A ∧ tb_RG A ∧ tb_RP A
section TBRFR
variable {A A1 : tb_H} {S : List Nat} {F : List (Nat × Int)} {P : List Nat}
theorem tb_RT.fr (h : tb_RT A) (hf : tb_fr S F P A A1) (c : tb_av S F P [2, 78] [(1, 2), (77, 2)] [] = true) : tb_RT A1 := by
  unfold tb_RT at h ⊢
  rw [hf.o c (o := 2) rfl, hf.o c (o := 78) rfl, hf.f c (o := 1) (k := 2) rfl, hf.f c (o := 77) (k := 2) rfl]; exact h
theorem tb_RB.fr (h : tb_RB A) (hf : tb_fr S F P A A1) (c : tb_av S F P [] [] [0, 4] = true) : tb_RB A1 := by
  unfold tb_RB at h ⊢
  rw [hf.p c (o := 0) rfl, hf.p c (o := 4) rfl]; exact h
theorem tb_RU.fr (h : tb_RU A) (hB : tb_RB A) (hf : tb_fr S F P A A1) (c : tb_av S F P [12, 49] [(77, 14), (5, 0), (5, 1), (77, 19), (77, 23), (77, 27)] [4] = true) : tb_RU A1 := by
  unfold tb_RU at h ⊢
  rw [hf.p c (o := 4) rfl, hf.f c (o := 77) (k := 14) rfl, hf.f c (o := 5) (k := 0) rfl, hf.f c (o := 5) (k := 1) rfl, hf.f c (o := 77) (k := 19) rfl, hf.f c (o := 77) (k := 23) rfl, hf.f c (o := 77) (k := 27) rfl]
  intro t
  refine ⟨fun s a b => ?_, (h t).2⟩
  have e := (h t).1 s a b
  unfold tb_RB at hB
  rcases hB with ⟨hb, _⟩ | ⟨hb, _⟩ <;> rw [hb] at e ⊢
  · rw [show (11 + 1 : Nat) = 12 from rfl] at e ⊢
    rw [hf.o c (o := 12) rfl]; exact e
  · rw [show (48 + 1 : Nat) = 49 from rfl] at e ⊢
    rw [hf.o c (o := 49) rfl]; exact e
theorem tb_RU.t (t : A1.1 77 14 ≠ 0) : tb_RU A1 := fun h => absurd h t
def tb_Io : List Nat := [53, 54, 55, 56, 57, 58, 59, 60, 61, 62, 63, 64, 65, 66, 67, 68, 69, 70, 71, 72, 73, 74, 75, 76, 80, 83]
theorem tb_RI.fr (h : tb_RI A) (hf : tb_fr S F P A A1) (c : tb_av S F P tb_Io [(0, 10), (77, 19)] [] = true) : tb_RI A1 := by
  unfold tb_RI at h ⊢
  rw [hf.f c (o := 0) (k := 10) rfl, hf.f c (o := 77) (k := 19) rfl]
  refine ⟨h.1, h.2.1, fun i a b => ?_⟩
  have e := h.2.2 i a b
  unfold tb_kp at e ⊢
  rw [hf.o c (o := 80) rfl, hf.o c (o := 83) rfl]
  refine ⟨?_, e.2⟩
  have e1 := e.1
  have : i = 0 ∨ i = 1 ∨ i = 2 ∨ i = 3 := by omega
  unfold tc_rs at e1 ⊢
  rcases this with rfl | rfl | rfl | rfl
  · rw [show (53 + 6 * Int.toNat 0 : Nat) = 53 from rfl, show (53 + 1 : Nat) = 54 from rfl, show (53 + 2 : Nat) = 55 from rfl, show (53 + 3 : Nat) = 56 from rfl, show (53 + 4 : Nat) = 57 from rfl, show (53 + 5 : Nat) = 58 from rfl] at e1 ⊢
    rw [hf.o c (o := 53) rfl, hf.o c (o := 54) rfl, hf.o c (o := 55) rfl, hf.o c (o := 56) rfl, hf.o c (o := 57) rfl, hf.o c (o := 58) rfl]
    exact e1
  · rw [show (53 + 6 * Int.toNat 1 : Nat) = 59 from rfl, show (59 + 1 : Nat) = 60 from rfl, show (59 + 2 : Nat) = 61 from rfl, show (59 + 3 : Nat) = 62 from rfl, show (59 + 4 : Nat) = 63 from rfl, show (59 + 5 : Nat) = 64 from rfl] at e1 ⊢
    rw [hf.o c (o := 59) rfl, hf.o c (o := 60) rfl, hf.o c (o := 61) rfl, hf.o c (o := 62) rfl, hf.o c (o := 63) rfl, hf.o c (o := 64) rfl]
    exact e1
  · rw [show (53 + 6 * Int.toNat 2 : Nat) = 65 from rfl, show (65 + 1 : Nat) = 66 from rfl, show (65 + 2 : Nat) = 67 from rfl, show (65 + 3 : Nat) = 68 from rfl, show (65 + 4 : Nat) = 69 from rfl, show (65 + 5 : Nat) = 70 from rfl] at e1 ⊢
    rw [hf.o c (o := 65) rfl, hf.o c (o := 66) rfl, hf.o c (o := 67) rfl, hf.o c (o := 68) rfl, hf.o c (o := 69) rfl, hf.o c (o := 70) rfl]
    exact e1
  · rw [show (53 + 6 * Int.toNat 3 : Nat) = 71 from rfl, show (71 + 1 : Nat) = 72 from rfl, show (71 + 2 : Nat) = 73 from rfl, show (71 + 3 : Nat) = 74 from rfl, show (71 + 4 : Nat) = 75 from rfl, show (71 + 5 : Nat) = 76 from rfl] at e1 ⊢
    rw [hf.o c (o := 71) rfl, hf.o c (o := 72) rfl, hf.o c (o := 73) rfl, hf.o c (o := 74) rfl, hf.o c (o := 75) rfl, hf.o c (o := 76) rfl]
    exact e1
theorem tb_RA.fr (h : tb_RA A) (hf : tb_fr S F P A A1) (c : tb_av S F P [17, 18, 19, 20, 80, 82, 84, 85, 86] [(77, 23)] [] = true) : tb_RA A1 := by
  unfold tb_RA tb_rg tc_ty at h ⊢
  rw [hf.o c (o := 17) rfl, hf.o c (o := 18) rfl, hf.o c (o := 19) rfl, hf.o c (o := 20) rfl, hf.o c (o := 80) rfl, hf.o c (o := 82) rfl, hf.o c (o := 84) rfl, hf.o c (o := 85) rfl, hf.o c (o := 86) rfl, hf.f c (o := 77) (k := 23) rfl]
  exact h
theorem tb_RA.z (h0 : A1.1 77 23 = 0) (h1 : A1.1 17 4 = 0) (h2 : 0 ≤ A1.1 17 3 ∧ A1.1 17 3 < 30) : tb_RA A1 := by
  unfold tb_RA
  rw [h0, h1]
  exact ⟨rfl, by decide, h2, fun j a b => by omega⟩
theorem tb_RG.fr (h : tb_RG A) (hf : tb_fr S F P A A1) (c : tb_av S F P [43, 44, 87, 88, 89] [(42, 2), (77, 27)] [] = true) : tb_RG A1 := by
  unfold tb_RG at h ⊢
  rw [hf.o c (o := 43) rfl, hf.o c (o := 44) rfl, hf.o c (o := 87) rfl, hf.o c (o := 88) rfl, hf.o c (o := 89) rfl, hf.f c (o := 42) (k := 2) rfl, hf.f c (o := 77) (k := 27) rfl]
  exact h
theorem tb_R0.mk (h : tb_R0 A) (hf : tb_fr S F P A A1) (c : tb_av S F P [] [(0, 9), (0, 11), (77, 9), (77, 14)] [] = true) (ht : A1.1 0 13 = A1.1 77 11) (h4 : A1.1 77 11 ≠ 4) : tb_R0 A1 := by
  unfold tb_R0 at h ⊢
  rw [hf.f c (o := 0) (k := 9) rfl, hf.f c (o := 0) (k := 11) rfl, hf.f c (o := 77) (k := 9) rfl, hf.f c (o := 77) (k := 14) rfl]
  exact ⟨h.1, ht, h.2.2.1, fun q => absurd q h4⟩
end TBRFR
/-- what a question may change -/
def tb_S0 : List Nat := [3, 21, 22, 23, 24, 25, 26, 27, 28, 29, 30, 31, 32, 33, 34, 35, 36, 37, 39, 40, 41, 45, 46, 47, 79, 81, 90, 91, 92, 93, 94, 95, 96, 97, 98, 99, 100, 101]
def tb_F0 : List (Nat × Int) := [(0, 13), (77, 0), (77, 11), (77, 28), (77, 29), (77, 30)]
def tb_P0 : List Nat := [38, 42]
abbrev tb_fq (A A1 : tb_H) : Prop := tb_fr tb_S0 tb_F0 tb_P0 A A1
variable {A A1 : tb_H}
theorem tb_Rel.qy (h : tb_Rel A) (hf : tb_fq A A1) (ht : A1.1 0 13 = A1.1 77 11) (h4 : A1.1 77 11 ≠ 4) (hp : tb_RP A1) : tb_Rel A1 := by
  obtain ⟨h0, hT, hB, hL, hU, hI, hA, hG, _⟩ := h
  have f14 : A1.1 77 14 = A.1 77 14 := hf.1 77 14 rfl rfl
  refine ⟨h0.mk hf rfl ht h4, hT.fr hf rfl, hB.fr hf rfl, ?_, hU.fr hB hf rfl, hI.fr hf rfl, hA.fr hf rfl, hG.fr hf rfl, hp⟩
  rw [f14]
  exact fun h => (hL h).fr hf rfl
/-- what an act or a day may change -/
def tb_S1 : List Nat := [3, 5, 6, 7, 8, 9, 10, 17, 18, 19, 20, 21, 22, 23, 24, 25, 26, 27, 28, 29, 30, 31, 32, 33, 34, 35, 36, 37, 39, 40, 41, 45, 46, 47, 79, 81, 82, 84, 85, 86, 90, 91, 92, 93, 94, 95, 96, 97, 98, 99, 100, 101]
def tb_F1 : List (Nat × Int) := [(0, 13), (77, 0), (77, 11), (77, 23), (77, 28), (77, 29), (77, 30)]
abbrev tb_fa (A A1 : tb_H) : Prop := tb_fr tb_S1 tb_F1 tb_P0 A A1
theorem tb_Rel.ac (h : tb_Rel A) (hf : tb_fa A A1) (t : A.1 77 14 ≠ 0) (ht : A1.1 0 13 = A1.1 77 11) (h4 : A1.1 77 11 ≠ 4) (L : tb_L A1) (hA : tb_RA A1) (hp : tb_RP A1) : tb_Rel A1 := by
  obtain ⟨h0, hT, hB, hL, hU, hI, _, hG, _⟩ := h
  have f14 : A1.1 77 14 = A.1 77 14 := hf.1 77 14 rfl rfl
  exact ⟨h0.mk hf rfl ht h4, hT.fr hf rfl, hB.fr hf rfl, fun _ => L, tb_RU.t (by rw [f14]; exact t), hI.fr hf rfl, hA, hG.fr hf rfl, hp⟩
theorem tb_Rel.told (h : tb_Rel A) : A.1 0 9 = A.1 77 14 := h.1.1.1
theorem tb_Rel.t01 (h : tb_Rel A) : A.1 77 14 = 0 ∨ A.1 77 14 = 1 := h.1.1.2
theorem tb_Rel.L (h : tb_Rel A) (t : A.1 77 14 ≠ 0) : tb_L A := h.2.2.2.1 (by have := h.t01; omega)
theorem tb_Rel.P (h : tb_Rel A) : tb_RP A := h.2.2.2.2.2.2.2.2
theorem tb_uu {o : Nat} {k x y : Int} : tb_upI (tb_upI A o k x) o k y = tb_upI A o k y := by
  refine Prod.ext ?_ rfl
  funext o' k'
  show (if _ then _ else if _ then _ else _) = if _ then _ else _
  by_cases h : o' = o ∧ k' = k
  · rw [if_pos h, if_pos h]
  · rw [if_neg h, if_neg h, if_neg h]
theorem tb_RP.up (h : tb_RP A) {o : Nat} {k x : Int} : tb_RP (tb_upI A o k x) := h
/-- the usual end of a question: only the trouble is new -/
theorem tb_Rel.q3 (h : tb_Rel A) {t : Int} (h4 : t ≠ 4) : tb_Rel (tb_upI (tb_upI (tb_upI A 0 13 t) 77 0 0) 77 11 t) := h.qy (tb_fr.upI (tb_fr.upI (tb_fr.upI tb_fr.refl rfl) rfl) rfl) rfl h4 h.P
theorem tb_Rel.q0 (h : tb_Rel A) : tb_Rel (tb_upI A 77 0 0) := by
  have h4 := h.1.2.2.2
  by_cases h5 : A.1 77 11 = 4
  · obtain ⟨h0, hT, hB, hL, hU, hI, hA, hG, hP⟩ := h
    have hf : tb_fq A (tb_upI A 77 0 0) := tb_fr.upI tb_fr.refl rfl
    exact ⟨h0, hT, hB, fun t => (hL t).up rfl, hU.fr hB hf rfl, hI.fr hf rfl, hA, hG, hP⟩
  · exact h.qy (tb_fr.upI tb_fr.refl rfl) h.1.2.1 h5 h.P
theorem tb_Rel.q1 (h : tb_Rel A) : tb_Rel (tb_upI A 77 0 1) := by
  obtain ⟨h0, hT, hB, hL, hU, hI, hA, hG, hP⟩ := h
  have hf : tb_fq A (tb_upI A 77 0 1) := tb_fr.upI tb_fr.refl rfl
  exact ⟨h0, hT, hB, fun t => (hL t).up rfl, hU.fr hB hf rfl, hI.fr hf rfl, hA, hG, hP⟩
end TBREL2
