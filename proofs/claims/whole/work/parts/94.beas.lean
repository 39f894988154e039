/-! BEAST 1: what both hold when a fault was met -/
section TEBF
variable {X : tb_X} {A B A0 B0 D : tb_H} {K : Int → tb_H → Prop} {Kv : tb_H → Prop}
variable {b : Nat} {x : Int}
theorem te_rse {q : Nat} (h0 : D.1 q = A.1 q) (h1 : D.1 (q + 1) = A.1 (q + 1)) (h2 : D.1 (q + 2) = A.1 (q + 2)) (h3 : D.1 (q + 3) = A.1 (q + 3)) (h4 : D.1 (q + 4) = A.1 (q + 4)) (h5 : D.1 (q + 5) = A.1 (q + 5)) {s : Int → Int} (h : tc_rs A.1 q s) : tc_rs D.1 q s := by
  unfold tc_rs at h ⊢
  rw [h0, h1, h2, h3, h4, h5]
  exact h
theorem te_LF (L : tb_L A) (hp : D.2.2 4 1 = A.2.2 4 1) (e1 : D.1 (A.2.2 4 1 + 1) = A.1 (A.2.2 4 1 + 1)) (e2 : D.1 (A.2.2 4 1 + 2) = A.1 (A.2.2 4 1 + 2)) (e80 : D.1 80 = A.1 80) (e82 : D.1 82 = A.1 82) (e5 : D.1 5 = A.1 5) (e6 : D.1 6 = A.1 6) (e7 : D.1 7 = A.1 7) (e8 : D.1 8 = A.1 8) (e9 : D.1 9 = A.1 9) (e10 : D.1 10 = A.1 10) : tb_L D := by
  obtain ⟨hb, h3, h4, h5, h6, h7⟩ := L
  unfold tb_L
  rw [hp, e80, e82]
  refine ⟨hb, ?_, h4, h5, te_rse e5 e6 e7 e8 e9 e10 h6, h7⟩
  unfold tb_rb at h3 ⊢
  rw [e1, e2]
  exact h3
def te_BF : List (Nat × Int) := [(0, 11), (0, 12), (0, 13), (77, 0), (77, 2), (77, 3), (77, 4), (77, 5), (77, 6), (77, 7), (77, 8), (77, 9), (77, 10), (77, 11), (77, 13)]
theorem te_relF48 (h : tb_Rel A) (h4 : A.2.2 4 1 = 11) (f : tb_fr [1, 3, 48, 49, 50, 51, 52, 79, 81] te_BF [] A D) (h0 : D.1 0 13 = 4 ∧ D.1 77 11 = 4 ∧ D.1 0 11 = D.1 77 9 ∧ D.1 0 12 = D.1 77 10) (h1 : D.1 1 2 = 0 ∧ D.1 77 2 = 0) : tb_Rel D := by
  obtain ⟨hR, hT, hB, hL, hU, hI, hA, hG, hP⟩ := h
  have ob : ∀ o, ([1, 3, 48, 49, 50, 51, 52, 79, 81] : List Nat).contains o = false → te_BF.all (fun q => q.1 != o) = true → D.1 o = A.1 o := by
    intro o h1 h2
    funext k
    refine f.1 o k h1 ?_
    rw [← Bool.not_eq_true]
    intro hc
    have q := List.all_eq_true.mp h2 (o, k) (by simpa using hc)
    simp at q
  have f14 : D.1 77 14 = A.1 77 14 := f.1 77 14 rfl rfl
  have p4 : D.2.2 4 1 = A.2.2 4 1 := f.2.2 4 1 rfl
  refine ⟨⟨⟨?_, ?_⟩, ?_, h0.2.2.1, fun _ => h0.2.2.2⟩, ⟨?_, ?_, fun k k0 k1 => ?_⟩, hB.fr f rfl, fun t => ?_, fun t => ?_, hI.fr f rfl, hA.fr f rfl, hG.fr f rfl, ?_⟩
  · rw [f14, f.1 0 9 rfl rfl]; exact hR.1.1
  · rw [f14]; exact hR.1.2
  · rw [h0.1, h0.2.1]
  · rw [h1.1, h1.2]
  · rw [h1.2]; decide
  · rw [h1.2] at k1; omega
  · refine te_LF (hL (f14 ▸ t)) p4 ?_ ?_ (ob 80 rfl rfl) (ob 82 rfl rfl) (ob 5 rfl rfl) (ob 6 rfl rfl) (ob 7 rfl rfl) (ob 8 rfl rfl) (ob 9 rfl rfl) (ob 10 rfl rfl)
    · rw [h4]; exact ob 12 rfl rfl
    · rw [h4]; exact ob 13 rfl rfl
  · have u := hU (f14 ▸ t)
    refine ⟨fun s s0 s1 => ?_, ?_, ?_, ?_, ?_, ?_⟩
    · rw [p4, h4]
      have e : D.1 (11 + 1) = A.1 (11 + 1) := ob 12 rfl rfl
      rw [e]
      have v := u.1 s s0 s1
      rw [h4] at v
      exact v
    · rw [ob 5 rfl rfl]; exact u.2.1
    · rw [ob 5 rfl rfl]; exact u.2.2.1
    · rw [f.1 77 19 rfl rfl]; exact u.2.2.2.1
    · rw [f.1 77 23 rfl rfl]; exact u.2.2.2.2.1
    · rw [f.1 77 27 rfl rfl]; exact u.2.2.2.2.2
  · unfold tb_RP at hP ⊢
    rw [f.2.2 38 0 rfl, f.2.2 38 1 rfl, f.2.2 42 4 rfl, f.2.2 42 5 rfl]
    exact hP
theorem te_relF11 (h : tb_Rel A) (h4 : A.2.2 4 1 = 48) (f : tb_fr [1, 3, 11, 12, 13, 14, 15, 79, 81] te_BF [] A D) (h0 : D.1 0 13 = 4 ∧ D.1 77 11 = 4 ∧ D.1 0 11 = D.1 77 9 ∧ D.1 0 12 = D.1 77 10) (h1 : D.1 1 2 = 0 ∧ D.1 77 2 = 0) : tb_Rel D := by
  obtain ⟨hR, hT, hB, hL, hU, hI, hA, hG, hP⟩ := h
  have ob : ∀ o, ([1, 3, 11, 12, 13, 14, 15, 79, 81] : List Nat).contains o = false → te_BF.all (fun q => q.1 != o) = true → D.1 o = A.1 o := by
    intro o h1 h2
    funext k
    refine f.1 o k h1 ?_
    rw [← Bool.not_eq_true]
    intro hc
    have q := List.all_eq_true.mp h2 (o, k) (by simpa using hc)
    simp at q
  have f14 : D.1 77 14 = A.1 77 14 := f.1 77 14 rfl rfl
  have p4 : D.2.2 4 1 = A.2.2 4 1 := f.2.2 4 1 rfl
  refine ⟨⟨⟨?_, ?_⟩, ?_, h0.2.2.1, fun _ => h0.2.2.2⟩, ⟨?_, ?_, fun k k0 k1 => ?_⟩, hB.fr f rfl, fun t => ?_, fun t => ?_, hI.fr f rfl, hA.fr f rfl, hG.fr f rfl, ?_⟩
  · rw [f14, f.1 0 9 rfl rfl]; exact hR.1.1
  · rw [f14]; exact hR.1.2
  · rw [h0.1, h0.2.1]
  · rw [h1.1, h1.2]
  · rw [h1.2]; decide
  · rw [h1.2] at k1; omega
  · refine te_LF (hL (f14 ▸ t)) p4 ?_ ?_ (ob 80 rfl rfl) (ob 82 rfl rfl) (ob 5 rfl rfl) (ob 6 rfl rfl) (ob 7 rfl rfl) (ob 8 rfl rfl) (ob 9 rfl rfl) (ob 10 rfl rfl)
    · rw [h4]; exact ob 49 rfl rfl
    · rw [h4]; exact ob 50 rfl rfl
  · have u := hU (f14 ▸ t)
    refine ⟨fun s s0 s1 => ?_, ?_, ?_, ?_, ?_, ?_⟩
    · rw [p4, h4]
      have e : D.1 (48 + 1) = A.1 (48 + 1) := ob 49 rfl rfl
      rw [e]
      have v := u.1 s s0 s1
      rw [h4] at v
      exact v
    · rw [ob 5 rfl rfl]; exact u.2.1
    · rw [ob 5 rfl rfl]; exact u.2.2.1
    · rw [f.1 77 19 rfl rfl]; exact u.2.2.2.1
    · rw [f.1 77 23 rfl rfl]; exact u.2.2.2.2.1
    · rw [f.1 77 27 rfl rfl]; exact u.2.2.2.2.2
  · unfold tb_RP at hP ⊢
    rw [f.2.2 38 0 rfl, f.2.2 38 1 rfl, f.2.2 42 4 rfl, f.2.2 42 5 rfl]
    exact hP
theorem te_onlyc {v1 v2 : Int} {A1 A2 : tb_H} {w : Nat} {as : List tb_V} (h1 : ∀ K : Int → tb_H → Prop, K v1 A1 → tb_Ci X w as A K) (h2 : ∀ K : Int → tb_H → Prop, K v2 A2 → tb_Ci X w as A K) : v2 = v1 ∧ A2 = A1 := by
  have e1 : tb_Ci X w as A (fun v a => v = v1 ∧ a = A1) = ((v1 = v1) ∧ A1 = A1) := tb_dei (h1 _ ⟨rfl, rfl⟩)
  have e2 : tb_Ci X w as A (fun v a => v = v1 ∧ a = A1) = ((v2 = v1) ∧ A2 = A1) := tb_dei (h2 _ ⟨rfl, rfl⟩)
  rw [e1] at e2
  exact e2 ▸ ⟨rfl, rfl⟩
/-- beast: refused by its number -/
theorem te_c4n (h : tb_Rel A) (hx : ¬ (0 ≤ x ∧ x ≤ A.1 1 2)) : tb_Ci X 4 [tb_r 0, tb_i x] A (tb_A2 X 200 [tb_r 77, tb_i x]) := by
  refine q4 ?_
  rw [e3, e5t hx, if_neg (by decide)]
  refine r6n (by decide) ?_
  refine q200 ?_
  rw [e201g, e202f (by
    have e : (tb_g A 2).1 77 2 = A.1 77 2 := by rw [tb_uI_k (by decide), tb_uI_k (by decide), td_upo (by decide)]
    rw [e, ← h.2.1.1]
    exact hx)]
  exact ⟨fun q => absurd rfl q, fun _ => tb_no h (by decide)⟩
end TEBF
