/-! READER 5: words, commas, cells -/
section TEPAR2
variable {X : tb_X} {A B A0 B0 : tb_H} {K : Int → tb_H → Prop} {Kv : tb_H → Prop}
variable {n : Int} {b : Nat} {a0 sort N cs m : Int} {vs rho : Int → Int}
theorem te_skE (hb : tb_isB b) {w kb nw : Nat} (hs : te_str w kb nw) {e : Int} (e1 : e ≤ nw) (h : ∀ j : tb_V, tb_E X 30 5 [tb_r 1, tb_r b, tb_r w, tb_i e, tb_i e, j] [] A (tb_Rv 30 Kv)) : ∀ (k : Nat) (i : Int), i + k = e → 0 ≤ i → ∀ j : tb_V, tb_E X 30 5 [tb_r 1, tb_r b, tb_r w, tb_i e, tb_i i, j] [] A (tb_Rv 30 Kv) := by
  intro k
  have n100 := hs.2.2.1
  induction k with
  | zero =>
    intro i ik i0 j
    have e2 : i = e := by omega
    rw [e2]; exact h j
  | succ k ih =>
    intro i ik i0 j
    refine q30_5 hb hs.1 hs.2.1 ?_
    rw [te19 hs]
    refine ⟨fun q => absurd q (by omega), fun _ => ⟨fun q => absurd q (by omega), fun _ => ?_⟩⟩
    rw [tb_w_id (x := i + 1) (by omega) (by omega)]
    exact ih (i + 1) (by omega) (by omega) j
/-- a fixed word -/
theorem te_pword (hb : tb_isB b) {w kb nw : Nat} (hs : te_str w kb nw) {i e : Int} (i0 : 0 ≤ i) (i1 : i < e) (e1 : e ≤ nw) (e8 : e - i ≤ 8) (hl : ∀ k, i ≤ k → k < e → 97 ≤ tb_cI kb k ∧ tb_cI kb k ≤ 122) (he : e < nw → ¬ (97 ≤ tb_cI kb e ∧ tb_cI kb e ≤ 122)) {w' kb' nw' : Nat} (hs' : te_ws w' kb' nw') (hcode : te_code (fun k => tb_cI kb (i + k)) (e - i).toNat = te_code (tb_cI kb') nw') (s0 : te_Sl n b a0 sort N cs m vs rho A0 B0 A B) :
    ∃ A' B', (∀ K, te_ci X b w e A' K → te_ci X b w i A K) ∧ (∀ K : tb_H → Prop, K B' → tb_Cv X 214 [tb_r 77, tb_r w'] B K) ∧ te_Sl n b a0 sort N cs m vs rho A0 B0 A' B' := by
  obtain ⟨fA, fB, s0⟩ := s0
  have b5 := te_b5 hb
  have n100 := hs.2.2.1
  rcases s0 with fl | ⟨f0, T, tk, row, nm, hr, ho, pg⟩
  · exact ⟨A, B, fun K k => ⟨fun q => k.1 q, fun q => absurd q fl.1⟩, fun K k => q214 hs'.1.1 hs'.1.2.1 ⟨fun q => absurd q fl.2.1, fun _ => k⟩, te_Sl.old fA fB fl⟩
  · have ci := hl i (Int.le_refl _) i1
    have ent : ∀ (K : tb_H → Prop), (if A.1 1 5 = 1 ∧ A.2.1 1 7 = te_code (tb_cI kb') nw' then (fun A953 => (A953.1 1 10 = 0 → tb_Cv X 10 [tb_r 1] A953 (fun A958 => ∀ j : tb_V, tb_E X 30 5 [tb_r 1, tb_r b, tb_r w, tb_i e, tb_i (i + 1), j] [] A958 (tb_Rv 30 K))) ∧ (A953.1 1 10 ≠ 0 → K A953)) A else (fun A953 => (A953.1 1 10 = 0 → tb_Cv X 10 [tb_r 1] A953 (fun A958 => ∀ j : tb_V, tb_E X 30 5 [tb_r 1, tb_r b, tb_r w, tb_i e, tb_i (i + 1), j] [] A958 (tb_Rv 30 K))) ∧ (A953.1 1 10 ≠ 0 → K A953)) (te_F1 A 1)) → te_ci X b w i A K := by
      intro K k
      refine ⟨fun q => absurd f0.1 q, fun _ j => ?_⟩
      refine q30_5 hb hs.1 hs.2.1 ?_
      rw [te19 hs]
      refine ⟨fun q => absurd q (by omega), fun _ => ⟨fun _ => ?_, fun q => absurd q (by omega)⟩⟩
      rw [te21 hs i0 (by omega), tb_w_id (x := i + 1) (by omega) (by omega)]
      refine ⟨fun _ => ⟨fun _ => ⟨fun _ => ⟨fun _ => ?_, fun q => absurd q (by omega)⟩, fun q => absurd q (by omega)⟩, fun q => absurd q (by omega)⟩, fun q => absurd q (by omega)⟩
      rw [e44 hs i0 (by omega) e1 hl he, e45 hs i0 (by omega) e1 e8 hl, hcode]
      by_cases c : A.1 1 5 = 1 ∧ A.2.1 1 7 = te_code (tb_cI kb') nw'
      · rw [if_pos c] at k ⊢
        exact ⟨fun q => (k.1 q).imp (fun A2 h2 => h2 _), k.2⟩
      · rw [if_neg c] at k ⊢
        rw [te26 f0.1]
        exact ⟨fun q => (k.1 q).imp (fun A2 h2 => h2 _), k.2⟩
    by_cases c : A.1 1 5 = 1 ∧ A.2.1 1 7 = te_code (tb_cI kb') nw'
    · have wh : (A.1 1 4 = B.1 77 5 ∧ 0 ≤ A.1 1 4 ∧ A.1 1 4 ≤ n) ∧ B.1 77 6 = 2 ∧ te_wd (B.1 79) (B.1 77 8) (A.2.1 1 7) := by
        rcases tk.2 with q | q | ⟨q, z | z | z⟩
        · omega
        · omega
        · exact ⟨q, z.2⟩
        · omega
        · omega
      have pg' : a0 ≤ A.1 1 4 := by
        rcases pg with q | q | q
        · omega
        · omega
        · exact q
      obtain ⟨A2, B2, c2, r2, s2, y1, y2⟩ := te_adv1 (X := X) hb fA fB T f0 wh.1 row nm hr ho pg' b5.1
      refine ⟨A2, B2, fun K k => ent K ?_, fun K k => q214 hs'.1.1 hs'.1.2.1 ⟨fun _ => ?_, fun q => absurd f0.2 q⟩, s2⟩
      · rw [if_pos c]
        exact ⟨fun _ => c2 _ (te_skE hb hs e1 (k.2 y1) (e - (i + 1)).toNat (i + 1) (by omega) (by omega)), fun q => absurd f0.1 q⟩
      · rw [te210 hs' f0.2 wh.2.1 wh.2.2, if_pos c.2]
        exact ⟨fun _ => ⟨fun q => absurd f0.2 q, fun _ => r2 _ k⟩, fun q => absurd q (by decide)⟩
    · have nz : (te_F1 A 1).1 1 10 ≠ 0 := by rw [tb_uI_k (by decide), tb_uI_s]; decide
      have nz2 : (te_F2 B 1 (B.1 77 4)).1 77 13 ≠ 0 := by rw [tb_uI_k (by decide), tb_uI_k (by decide), tb_uI_s]; decide
      refine ⟨te_F1 A 1, te_F2 B 1 (B.1 77 4), fun K k => ent K ?_, fun K k => q214 hs'.1.1 hs'.1.2.1 ⟨fun _ => ?_, fun q => absurd f0.2 q⟩, te_Sl.fail fA fB (by decide) tk.1⟩
      · rw [if_neg c]
        exact ⟨fun q => absurd q nz, fun _ => k.1 nz⟩
      · have v0 : tb_Ci X 210 [tb_r 77, tb_r w'] B = fun K => K 0 B := by
          funext K
          by_cases t : B.1 77 6 = 2
          · have wd : te_wd (B.1 79) (B.1 77 8) (A.2.1 1 7) ∧ A.1 1 5 = 1 := by
              rcases tk.2 with q | q | ⟨q, z | z | z⟩
              · omega
              · omega
              · exact ⟨z.2.2, z.1⟩
              · omega
              · omega
            rw [te210 hs' f0.2 t wd.1, if_neg (fun q => c ⟨wd.2, q⟩)]
          · exact te210f hs'.1 (Or.inr t)
        rw [v0]
        refine ⟨fun q => absurd rfl q, fun _ => ?_⟩
        rw [te211 f0.2]
        exact ⟨fun _ => k, fun q => absurd q nz2⟩
theorem te_Sl.up (s0 : te_Sl n b a0 sort N cs m vs rho A0 B0 A B) {p v : Int} (hp : p < 119) : te_Sl n b a0 sort N cs m vs (td_up rho p v) A0 B0 A (tb_upI B 81 p v) := by
  obtain ⟨fA, fB, s0⟩ := s0
  refine ⟨fA, tb_fr.upI fB rfl, ?_⟩
  rcases s0 with fl | ⟨f0, T, tk, row, nm, hr, ho, pg⟩
  · refine Or.inl ⟨fl.1, ?_, ?_, ?_⟩
    · rw [td_upo (by decide)]; exact fl.2.1
    · rw [td_upo (by decide)]; exact fl.2.2.1
    · rw [td_upo (by decide)]; exact fl.2.2.2
  · have e77 : (tb_upI B 81 p v).1 77 = B.1 77 := td_upo (by decide)
    have e78 : (tb_upI B 81 p v).1 78 = B.1 78 := td_upo (by decide)
    have e79 : (tb_upI B 81 p v).1 79 = B.1 79 := td_upo (by decide)
    have e81 : ∀ k, 119 ≤ k → (tb_upI B 81 p v).1 81 k = B.1 81 k := fun k hk => tb_uI_k (by omega)
    refine Or.inr ⟨⟨f0.1, by rw [e77]; exact f0.2⟩, ?_, ?_, row, ?_, fun k hk => ?_, ho, pg⟩
    · unfold te_tp at T ⊢
      rw [e77, e78]; exact T
    · unfold te_Tk at tk ⊢
      rw [e77, e79]; exact tk
    · refine ⟨⟨nm.1.1, by rw [e81 119 (by decide)]; exact nm.1.2⟩, nm.2.1, fun i i0 i1 => ?_⟩
      have w := nm.2.2 i i0 i1
      have ew : (fun k => (tb_upI B 81 p v).1 81 (186 + 8 * i + k)) = td_up (fun k => B.1 81 (186 + 8 * i + k)) (p - 186 - 8 * i) v := by
        funext k
        rw [tb_uI1]
        show _ = if k = p - 186 - 8 * i then v else _
        by_cases c : k = p - 186 - 8 * i
        · rw [if_pos c, if_pos ⟨rfl, by omega⟩]
        · rw [if_neg c, if_neg (fun q => c (by omega))]
      rw [e81 (164 + i) (by omega), e81 (120 + i) (by omega), e81 (142 + i) (by omega), ew]
      refine ⟨⟨w.1.1, fun k k0 k1 => ?_, ?_⟩, w.2⟩
      · show 97 ≤ (if k = p - 186 - 8 * i then v else _) ∧ (if k = p - 186 - 8 * i then v else _) ≤ 122
        rw [if_neg (by omega)]
        exact w.1.2.1 k k0 k1
      · rw [w.1.2.2]
        exact te_code_c _ (fun k k0 k1 => by
          show _ = if k = p - 186 - 8 * i then v else _
          rw [if_neg (by omega)])
    · rw [tb_uI1]
      show _ = if k = p then v else rho k
      by_cases c : k = p
      · rw [if_pos c, if_pos ⟨rfl, c⟩]
      · rw [if_neg c, if_neg (fun q => c q.2)]; exact hr k hk
/-- a comma -/
theorem te_pcom (hb : tb_isB b) {w kb nw : Nat} (hs : te_str w kb nw) {i : Int} (i0 : 0 ≤ i) (i1 : i < nw) (hc : tb_cI kb i = 44) (s0 : te_Sl n b a0 sort N cs m vs rho A0 B0 A B) :
    ∃ A' B', (∀ K, te_ci X b w (i + 1) A' K → te_ci X b w i A K) ∧ ((B.1 77 13 ≠ 0 ∧ B' = B) ∨ (B.1 77 13 = 0 ∧ B.1 77 6 = 44 ∧ ∀ K : tb_H → Prop, K B' → tb_Cv X 204 [tb_r 77] B K) ∨ (B.1 77 13 = 0 ∧ B.1 77 6 ≠ 44 ∧ B' = te_F2 B 1 (B.1 77 4))) ∧ te_Sl n b a0 sort N cs m vs rho A0 B0 A' B' := by
  obtain ⟨fA, fB, s0⟩ := s0
  have b5 := te_b5 hb
  have n100 := hs.2.2.1
  rcases s0 with fl | ⟨f0, T, tk, row, nm, hr, ho, pg⟩
  · exact ⟨A, B, fun K k => ⟨fun q => k.1 q, fun q => absurd q fl.1⟩, Or.inl ⟨fl.2.1, rfl⟩, te_Sl.old fA fB fl⟩
  · have ent : ∀ (K : tb_H → Prop), (if A.1 1 5 = 3 ∧ A.2.1 1 7 = 44 then (fun A953 => (A953.1 1 10 = 0 → tb_Cv X 10 [tb_r 1] A953 (fun A958 => ∀ j : tb_V, tb_E X 30 5 [tb_r 1, tb_r b, tb_r w, tb_i (i + 1), tb_i (i + 1), j] [] A958 (tb_Rv 30 K))) ∧ (A953.1 1 10 ≠ 0 → K A953)) A else (fun A953 => (A953.1 1 10 = 0 → tb_Cv X 10 [tb_r 1] A953 (fun A958 => ∀ j : tb_V, tb_E X 30 5 [tb_r 1, tb_r b, tb_r w, tb_i (i + 1), tb_i (i + 1), j] [] A958 (tb_Rv 30 K))) ∧ (A953.1 1 10 ≠ 0 → K A953)) (te_F1 A 1)) → te_ci X b w i A K := by
      intro K k
      refine ⟨fun q => absurd f0.1 q, fun _ j => ?_⟩
      refine q30_5 hb hs.1 hs.2.1 ?_
      rw [te19 hs]
      refine ⟨fun q => absurd q (by omega), fun _ => ⟨fun _ => ?_, fun q => absurd q (by omega)⟩⟩
      rw [te21 hs i0 (by omega), hc, tb_w_id (x := i + 1) (by omega) (by omega)]
      refine ⟨fun _ => ⟨fun _ => ⟨fun _ => ⟨fun q => absurd rfl q, fun _ => ?_⟩, fun q => absurd q (by decide)⟩, fun q => absurd q (by decide)⟩, fun q => absurd q (by decide)⟩
      have e43 : ∀ K : Int → tb_H → Prop, tb_Ci X 43 [tb_r 1, tb_i 44] A K = K (if A.1 1 5 = 3 ∧ A.2.1 1 7 = 44 then 1 else 0) A := by
        intro K
        refine tb_dei (q43 ?_)
        refine ⟨?_, rfl⟩
        by_cases q : A.1 1 5 = 3
        · rw [if_neg (fun z => z q)]
          by_cases z : A.2.1 1 7 = 44
          · rw [if_neg (fun y => y (te_lc.mpr z)), if_pos ⟨q, z⟩]
          · rw [if_pos (fun y => z (te_lc.mp y)), if_neg (fun y => z y.2)]
        · rw [if_pos q, if_neg (fun y => q y.1)]
      refine q42 ?_
      rw [e43]
      by_cases c : A.1 1 5 = 3 ∧ A.2.1 1 7 = 44
      · rw [if_pos c] at k ⊢
        exact ⟨fun _ => ⟨fun q => (k.1 q).imp (fun A2 h2 => h2 _), k.2⟩, fun q => absurd q (by decide)⟩
      · rw [if_neg c] at k ⊢
        refine ⟨fun q => absurd rfl q, fun _ => ?_⟩
        rw [te26 f0.1]
        exact ⟨fun q => (k.1 q).imp (fun A2 h2 => h2 _), k.2⟩
    by_cases c : A.1 1 5 = 3 ∧ A.2.1 1 7 = 44
    · have wh : (A.1 1 4 = B.1 77 5 ∧ 0 ≤ A.1 1 4 ∧ A.1 1 4 ≤ n) ∧ B.1 77 6 = 44 := by
        rcases tk.2 with q | q | ⟨q, z | z | z⟩
        · omega
        · omega
        · omega
        · omega
        · exact ⟨q, by omega⟩
      have pg' : a0 ≤ A.1 1 4 := by
        rcases pg with q | q | q
        · omega
        · omega
        · exact q
      obtain ⟨A2, B2, c2, r2, s2, y1, y2⟩ := te_adv1 (X := X) hb fA fB T f0 wh.1 row nm hr ho pg' b5.1
      refine ⟨A2, B2, fun K k => ent K ?_, Or.inr (Or.inl ⟨f0.2, wh.2, r2⟩), s2⟩
      rw [if_pos c]
      exact ⟨fun _ => c2 _ (k.2 y1), fun q => absurd f0.1 q⟩
    · have nz : (te_F1 A 1).1 1 10 ≠ 0 := by rw [tb_uI_k (by decide), tb_uI_s]; decide
      have n44 : B.1 77 6 ≠ 44 := by
        rcases tk.2 with q | q | ⟨q, z | z | z⟩
        · omega
        · omega
        · omega
        · omega
        · intro y
          exact c ⟨z.1, by omega⟩
      refine ⟨te_F1 A 1, te_F2 B 1 (B.1 77 4), fun K k => ent K ?_, Or.inr (Or.inr ⟨f0.2, n44, rfl⟩), te_Sl.fail fA fB (by decide) tk.1⟩
      rw [if_neg c]
      exact ⟨fun q => absurd q nz, fun _ => k.1 nz⟩
end TEPAR2
