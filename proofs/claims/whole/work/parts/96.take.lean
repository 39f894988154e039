/-! BEAST 3: the class takes the draft -/
section TETAKE
variable {X : tb_X} {A B A0 B0 H : tb_H} {K : Int → tb_H → Prop} {Kv : tb_H → Prop}
variable {b : Nat} {x : Int}
theorem te_51 (hs : tb_isS 5) (A : tb_H) : ∃ A', (∀ K : tb_H → Prop, K A' → tb_Cv X 51 [tb_r 5] A K) ∧ (∀ k : Int, 0 ≤ k → k < 12 → A'.1 5 k = 0) ∧ (∀ k : Int, 0 ≤ k → k < 6 → A'.1 6 k = 0) ∧ (∀ k : Int, 0 ≤ k → k < 4 → A'.1 7 k = 0) ∧ (∀ k : Int, 0 ≤ k → k < 4 → A'.1 8 k = 0) ∧ (∀ k : Int, 0 ≤ k → k < 8 → A'.1 9 k = 0) ∧ tb_fr [5, 6, 7, 8, 9] [] [] A A' := by
  obtain ⟨A1, r1, z1, g1⟩ := te9 (X := X) hs.2.1 (by decide) 0 (tb_upI (tb_upI (tb_upI (tb_upI (tb_upI (tb_upI (tb_upI (tb_upI (tb_upI (tb_upI (tb_upI (tb_upI A 5 0 0) 5 1 0) 5 2 0) 5 3 0) 5 4 0) 5 5 0) 5 6 0) 5 7 0) 5 8 0) 5 9 0) 5 10 0) 5 11 0)
  obtain ⟨A2, r2, z2, g2⟩ := te9 (X := X) hs.2.2.1 (by decide) 0 A1
  obtain ⟨A3, r3, z3, g3⟩ := te9 (X := X) hs.2.2.2.1 (by decide) 0 A2
  obtain ⟨A4, r4, z4, g4⟩ := te9 (X := X) hs.2.2.2.2.1 (by decide) 0 A3
  refine ⟨A4, fun K k => q51 hs (r1 _ (r2 _ (r3 _ (r4 _ k)))), fun k k0 k1 => ?_, fun k k0 k1 => ?_, fun k k0 k1 => ?_, fun k k0 k1 => ?_, fun k k0 k1 => z4 k k0 k1, ?_⟩
  · rw [g4.1 5 k rfl rfl, g3.1 5 k rfl rfl, g2.1 5 k rfl rfl, g1.1 5 k rfl rfl]
    have : k = 0 ∨ k = 1 ∨ k = 2 ∨ k = 3 ∨ k = 4 ∨ k = 5 ∨ k = 6 ∨ k = 7 ∨ k = 8 ∨ k = 9 ∨ k = 10 ∨ k = 11 := by omega
    rcases this with rfl | rfl | rfl | rfl | rfl | rfl | rfl | rfl | rfl | rfl | rfl | rfl <;> simp [tb_uI1]
  · rw [g4.1 6 k rfl rfl, g3.1 6 k rfl rfl, g2.1 6 k rfl rfl]
    exact z1 k k0 k1
  · rw [g4.1 7 k rfl rfl, g3.1 7 k rfl rfl]
    exact z2 k k0 k1
  · rw [g4.1 8 k rfl rfl]
    exact z3 k k0 k1
  · have a : tb_fr [5, 6, 7, 8, 9] [] [] A (tb_upI (tb_upI (tb_upI (tb_upI (tb_upI (tb_upI (tb_upI (tb_upI (tb_upI (tb_upI (tb_upI (tb_upI A 5 0 0) 5 1 0) 5 2 0) 5 3 0) 5 4 0) 5 5 0) 5 6 0) 5 7 0) 5 8 0) 5 9 0) 5 10 0) 5 11 0) := tb_fr.upI (tb_fr.upI (tb_fr.upI (tb_fr.upI (tb_fr.upI (tb_fr.upI (tb_fr.upI (tb_fr.upI (tb_fr.upI (tb_fr.upI (tb_fr.upI (tb_fr.upI tb_fr.refl rfl) rfl) rfl) rfl) rfl) rfl) rfl) rfl) rfl) rfl) rfl) rfl
    exact (((a.trans (g1.mono rfl rfl rfl)).trans (g2.mono rfl rfl rfl)).trans (g3.mono rfl rfl rfl)).trans (g4.mono rfl rfl rfl)
theorem te_50l (hbb : b = 48 ∨ b = 11) (hb : tb_isB b) {t : Nat} (ht : tb_isB t) {c : Int} (hc : H.1 (b + 1) 4 = c) (c4 : c ≤ 4) (z0 : H.1 5 0 = 0) : ∀ (k : Nat) (i : Int) (A : tb_H), i + k = c → 0 ≤ i → tb_fr [8] [] [] H A → (∀ f, 0 ≤ f → f < 4 → A.1 8 f = if f < i then H.1 (b + 2) (192 + 6 * f) else H.1 8 f) → ∃ A', (∀ K : tb_V → tb_H → Prop, K (tb_r t) (tb_upI A' 10 0 (H.1 5 2)) → tb_E X 50 57 [tb_r 4, tb_r b, tb_r t, tb_i i] [] A (tb_Rr 50 K)) ∧ tb_fr [8] [] [] H A' ∧ (∀ f, 0 ≤ f → f < 4 → A'.1 8 f = if f < c then H.1 (b + 2) (192 + 6 * f) else H.1 8 f) := by
  intro k
  induction k with
  | zero =>
    intro i A e i0 f h
    have b1 : A.1 (b + 1) 4 = c := by
      rw [← hc]
      rcases hbb with rfl | rfl
      · exact f.1 49 4 rfl rfl
      · exact f.1 12 4 rfl rfl
    have e : i = c := by omega
    refine ⟨A, fun K k => q50_57 hb ht ?_, f, by rw [← e]; exact h⟩
    rw [e28g hb (by decide) (by decide), b1]
    refine ⟨fun _ => q54 ⟨fun q => ?_, fun _ => ⟨fun q => ?_, fun _ => ?_⟩⟩, fun q => absurd q (by omega)⟩
    · rw [f.1 5 0 rfl rfl, z0] at q; exact absurd q (by decide)
    · rw [f.1 5 0 rfl rfl, z0] at q; exact absurd q (by decide)
    · rw [f.1 5 0 rfl rfl, f.1 5 2 rfl rfl, z0]
      exact k
  | succ k ih =>
    intro i A e i0 f h
    have b1 : A.1 (b + 1) 4 = c := by
      rw [← hc]
      rcases hbb with rfl | rfl
      · exact f.1 49 4 rfl rfl
      · exact f.1 12 4 rfl rfl
    have b2 : ∀ j, A.1 (b + 2) j = H.1 (b + 2) j := by
      intro j
      rcases hbb with rfl | rfl
      · exact f.1 50 j rfl rfl
      · exact f.1 13 j rfl rfl
    obtain ⟨A', h1, h2, h3⟩ := ih (i + 1) (tb_upI A 8 i (H.1 (b + 2) (192 + 6 * i))) (by omega) (by omega) (tb_fr.upI f rfl) (fun j j0 j1 => by
      rw [tb_uI1]
      by_cases q : j = i
      · rw [if_pos ⟨rfl, q⟩, if_pos (by omega), q]
      · rw [if_neg (fun z => q z.2), h j j0 j1]
        by_cases l : j < i
        · rw [if_pos l, if_pos (by omega)]
        · rw [if_neg l, if_neg (by omega)])
    refine ⟨A', fun K k => q50_57 hb ht ?_, h2, h3⟩
    rw [e28g hb (by decide) (by decide), b1]
    refine ⟨fun q => absurd q (by omega), fun _ => ?_⟩
    rw [te41r hb (by decide) (by decide) i0 (by omega) (by omega) (by decide) (by decide), b2, show (4 * 8 + i) * 6 + 0 = 192 + 6 * i by omega]
    refine q53 ⟨fun q => absurd q (by omega), fun _ => ⟨fun q => absurd q (by omega), fun _ => ?_⟩⟩
    rw [tb_w_id (x := i + 1) (by omega) (by omega)]
    exact h1 K k
theorem te_49 (hs : tb_isS 5) (hbb : b = 48 ∨ b = 11) (hb : tb_isB b) {t : Nat} (ht : tb_isB t) (h4 : H.2.2 4 1 = t) (h8 : H.2.2 0 8 = b) {c u v w : Int} (hc : H.1 (b + 1) 4 = c) (c0 : 0 ≤ c) (c4 : c ≤ 4) (hB : 0 < H.1 (b + 1) 1) (hu : H.1 (b + 2) 48 = u) (hv : H.1 (b + 2) 49 = v) (hw : H.1 (b + 2) 50 = w) (u9 : 0 ≤ u ∧ u ≤ 9) (v9 : 0 ≤ v ∧ v ≤ 9) :
    ∃ H', (∀ K : tb_H → Prop, K H' → tb_Cv X 49 [tb_r 0] H K) ∧ (H'.2.2 4 1 = b ∧ H'.2.2 0 8 = t) ∧ tb_fr [5, 6, 7, 8, 9, 10] [(0, 9), (0, 10), (17, 4), (42, 2)] [0, 4] H H' ∧ (H'.1 0 9 = 1 ∧ H'.1 0 10 = 0 ∧ H'.1 17 4 = 0 ∧ H'.1 42 2 = 0) ∧ (∀ k : Int, 0 ≤ k → k < 12 → H'.1 5 k = if k = 2 then v * 10 + u else if k = 3 then w else 0) ∧ (∀ k : Int, 0 ≤ k → k < 6 → H'.1 6 k = 0) ∧ (∀ k : Int, 0 ≤ k → k < 4 → H'.1 7 k = 0) ∧ (∀ f : Int, 0 ≤ f → f < 4 → H'.1 8 f = if f < c then H.1 (b + 2) (192 + 6 * f) else 0) ∧ (∀ k : Int, 0 ≤ k → k < 8 → H'.1 9 k = 0) ∧ H'.1 10 0 = v * 10 + u := by
  obtain ⟨A1, r1, z5, z6, z7, z8, z9, g1⟩ := te_51 (X := X) hs (tb_upP H 4 1 b)
  have o1 : ∀ o k, ([5, 6, 7, 8, 9] : List Nat).contains o = false → A1.1 o k = H.1 o k := fun o k ho => g1.1 o k ho rfl
  have b1 : ∀ k, A1.1 (b + 1) k = H.1 (b + 1) k := by
    intro k
    rcases hbb with rfl | rfl
    · exact o1 49 k rfl
    · exact o1 12 k rfl
  have b2 : ∀ k, A1.1 (b + 2) k = H.1 (b + 2) k := by
    intro k
    rcases hbb with rfl | rfl
    · exact o1 50 k rfl
    · exact o1 13 k rfl
  have n5 : b + 1 ≠ 5 ∧ b + 2 ≠ 5 := by omega
  have c1 : (tb_upI (tb_upI A1 5 2 (v * 10 + u)) 5 3 w).1 (b + 1) 4 = c := by rw [td_upo n5.1, td_upo n5.1, b1, hc]
  obtain ⟨A2, r2, g2, f8⟩ := te_50l (X := X) (H := tb_upI (tb_upI A1 5 2 (v * 10 + u)) 5 3 w) hbb hb ht c1 c4 (by rw [tb_uI_k (by decide), tb_uI_k (by decide)]; exact z5 0 (by decide) (by decide)) c.toNat 0 _ (by omega) (by decide) tb_fr.refl (fun f f0 f1 => by rw [if_neg (by omega)])
  have e52 : (tb_upI (tb_upI A1 5 2 (v * 10 + u)) 5 3 w).1 5 2 = v * 10 + u := by rw [tb_uI_k (by decide), tb_uI_s]
  rw [e52] at r2
  have z : ∀ o k, ([5, 8, 10] : List Nat).contains o = false → (o = 0 → k ≠ 9 ∧ k ≠ 10) → (o = 17 → k ≠ 4) → (o = 42 → k ≠ 2) → (tb_upI (tb_upI (tb_upI (tb_upI (tb_upP (tb_upI A2 10 0 (v * 10 + u)) 0 8 t) 0 9 1) 17 4 0) 42 2 0) 0 10 0).1 o k = A1.1 o k := by
    intro o k ho h0 h17 h42
    have n : o ≠ 5 ∧ o ≠ 8 ∧ o ≠ 10 := by
      refine ⟨?_, ?_, ?_⟩ <;> (rintro rfl; exact absurd ho (by decide))
    rw [tb_uI1, if_neg (fun q => (h0 q.1).2 q.2), tb_uI1, if_neg (fun q => h42 q.1 q.2), tb_uI1, if_neg (fun q => h17 q.1 q.2), tb_uI1, if_neg (fun q => (h0 q.1).1 q.2), tb_uP1, tb_uI1, if_neg (fun q => n.2.2 q.1)]
    have e : A2.1 o k = (tb_upI (tb_upI A1 5 2 (v * 10 + u)) 5 3 w).1 o k := g2.1 o k (by simp; exact n.2.1) rfl
    rw [e, td_upo n.1, td_upo n.1]
  refine ⟨tb_upI (tb_upI (tb_upI (tb_upI (tb_upP (tb_upI A2 10 0 (v * 10 + u)) 0 8 t) 0 9 1) 17 4 0) 42 2 0) 0 10 0, fun K k => q49 ⟨by rw [h8]; exact hb, ?_⟩, ⟨?_, ?_⟩, ?_, ⟨?_, ?_, ?_, ?_⟩, fun k k0 k1 => ?_, fun k k0 k1 => ?_, fun k k0 k1 => ?_, fun f f0 f1 => ?_, fun k k0 k1 => ?_, ?_⟩
  · rw [h8]
    refine q50 hb ⟨by rw [h4]; exact ht, r1 _ ?_⟩
    rw [te41r hb (by decide) (by decide) (by decide) (by rw [b1]; exact hB) (by decide) (by decide) (by decide), te41r hb (by decide) (by decide) (by decide) (by rw [b1]; exact hB) (by decide) (by decide) (by decide), b2, b2]
    have ea : H.1 (b + 2) ((1 * 8 + 0) * 6 + 0) = u := hu
    have eb : H.1 (b + 2) ((1 * 8 + 0) * 6 + 1) = v := hv
    rw [ea, eb]
    refine q52 ?_
    rw [tb_w_id (x := v * 10) (by omega) (by omega), tb_w_id (x := v * 10 + u) (by omega) (by omega), te41r hb (by decide) (by decide) (by decide) (by rw [td_upo n5.1, b1]; exact hB) (by decide) (by decide) (by decide), td_upo n5.2, b2]
    have ec : H.1 (b + 2) ((1 * 8 + 0) * 6 + 2) = w := hw
    rw [ec, h4]
    exact r2 _ ⟨t, rfl, ht, q55 (q56 k)⟩
  · have e : A2.2.2 4 1 = A1.2.2 4 1 := g2.2.2 4 1 rfl
    show A2.2.2 4 1 = b
    rw [e, g1.2.2 4 1 rfl]
    exact tb_uP_s
  · show (tb_upP (tb_upI A2 10 0 (v * 10 + u)) 0 8 t).2.2 0 8 = t
    exact tb_uP_s
  · have a : tb_fr [5, 6, 7, 8, 9, 10] [(0, 9), (0, 10), (17, 4), (42, 2)] [0, 4] H (tb_upP H 4 1 b) := tb_fr.upP tb_fr.refl rfl
    have a1 : tb_fr [5, 6, 7, 8, 9, 10] [(0, 9), (0, 10), (17, 4), (42, 2)] [0, 4] H A1 := a.trans (g1.mono rfl rfl rfl)
    have a2 : tb_fr [5, 6, 7, 8, 9, 10] [(0, 9), (0, 10), (17, 4), (42, 2)] [0, 4] H A2 := (tb_fr.upI (tb_fr.upI a1 rfl) rfl).trans (g2.mono rfl rfl rfl)
    exact tb_fr.upI (tb_fr.upI (tb_fr.upI (tb_fr.upI (tb_fr.upP (tb_fr.upI a2 rfl) rfl) rfl) rfl) rfl) rfl
  · rw [tb_uI_k (by decide), td_upo (by decide), td_upo (by decide), tb_uI_s]
  · rw [tb_uI_s]
  · rw [td_upo (by decide), td_upo (by decide), tb_uI_s]
  · rw [td_upo (by decide), tb_uI_s]
  · rw [td_upo (by decide), td_upo (by decide), td_upo (by decide), td_upo (by decide), tb_uP1, td_upo (by decide), g2.1 5 k rfl rfl, tb_uI1, tb_uI1]
    by_cases k3 : k = 3
    · rw [if_pos ⟨rfl, k3⟩, if_neg (by omega), if_pos k3]
    · rw [if_neg (fun q => k3 q.2)]
      by_cases k2 : k = 2
      · rw [if_pos ⟨rfl, k2⟩, if_pos k2]
      · rw [if_neg (fun q => k2 q.2), if_neg k2, if_neg k3]
        exact z5 k k0 k1
  · rw [z 6 k rfl (fun q => absurd q (by decide)) (fun q => absurd q (by decide)) (fun q => absurd q (by decide))]
    exact z6 k k0 k1
  · rw [z 7 k rfl (fun q => absurd q (by decide)) (fun q => absurd q (by decide)) (fun q => absurd q (by decide))]
    exact z7 k k0 k1
  · rw [td_upo (by decide), td_upo (by decide), td_upo (by decide), td_upo (by decide), tb_uP1, td_upo (by decide), f8 f f0 f1, td_upo n5.2, td_upo n5.2, b2, td_upo (by decide), td_upo (by decide), z8 f f0 f1]
  · rw [z 9 k rfl (fun q => absurd q (by decide)) (fun q => absurd q (by decide)) (fun q => absurd q (by decide))]
    exact z9 k k0 k1
  · rw [td_upo (by decide), td_upo (by decide), td_upo (by decide), td_upo (by decide), tb_uP1, tb_uI_s]
end TETAKE
