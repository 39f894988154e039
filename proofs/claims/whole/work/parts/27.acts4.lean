/-! the calls: move, tie, scrape -/
section TBACTS4
variable {X : tb_X} {A D : tb_H} {K : Int → tb_H → Prop} {Kv : tb_H → Prop}
def tb_dM (A : tb_H) (f x : Int) : tb_H := tb_upI (tb_upI (tb_upI (tb_upI (tb_nh (tb_upI A 0 13 0) 0 f (A.1 82 (31 + f))) 8 f x) 77 0 0) 77 11 0) 82 (31 + f) x
theorem e118 (L : tb_L A) {f x : Int} (f0 : 0 ≤ f) (f1 : f < A.1 80 114) (x0 : 0 ≤ x) (x1 : x < A.1 80 112) : tb_Ci X 118 [tb_r 4, tb_i f, tb_i x] A K = K (if A.1 82 (27 + f) = 0 ∧ A.1 82 (35 + x) = 0 ∧ A.1 82 (31 + f) ≠ x ∧ tb_load (A.1 80) (A.1 82) (fun f => A.1 82 (31 + f)) x + A.1 80 (61 + f) ≤ A.1 80 (25 + x) then 1 else 0 : Int) A := by
  have c4 := L.c114
  have c2 := L.c112
  have ld := L.ldB (at' := fun f => A.1 82 (31 + f)) (x := x)
  have w := L.v61 f0 f1
  have v := L.v25 x0 x1
  refine tb_dei (q118 ?_)
  rw [e68 L f0 (by omega)]
  refine ⟨fun q => ⟨?_, rfl⟩, fun q => ?_⟩
  · by_cases c : A.1 82 (27 + f) = 0
    · rw [if_pos ⟨f1, c⟩] at q
      exact absurd q (by decide)
    · rw [if_neg (fun z => c z.1)]
  · have q0 : A.1 82 (27 + f) = 0 := by
      by_cases c : A.1 82 (27 + f) = 0
      · exact c
      · rw [if_neg (fun z => c z.2)] at q
        exact absurd rfl q
    rw [e96 L x0 (by omega)]
    refine ⟨fun q1 => ⟨?_, rfl⟩, fun q1 => ?_⟩
    · rw [if_neg (fun z => q1 z.2.1)]
    · rw [e70 L f0 (by omega)]
      refine ⟨fun q2 => ?_, fun q2 => ⟨?_, rfl⟩⟩
      · rw [e112 L, e77 L f0 (by omega), if_pos ⟨f1, q0⟩]
        refine ⟨L.b, ?_⟩
        rw [e41_22 L x0 x1, tb_w_id (by omega) (by omega)]
        refine ⟨?_, rfl⟩
        by_cases c : tb_load (A.1 80) (A.1 82) (fun f => A.1 82 (31 + f)) x + A.1 80 (61 + f) ≤ A.1 80 (25 + x)
        · rw [if_neg (by omega), if_pos ⟨q0, q1, q2, c⟩]
        · rw [if_pos (by omega), if_neg (fun z => c z.2.2.2)]
      · rw [if_neg (fun z => z.2.2.1 q2)]
theorem c117 (h : tb_Rel A) {f x : Int} : tb_Ci X 117 [tb_r 0, tb_i f, tb_i x] A (tb_A2 X 272 [tb_r 77, tb_i f, tb_i x]) := by
  refine q117 ?_
  by_cases hf : A.1 77 14 ≠ 0 ∧ 0 ≤ f ∧ f < A.1 80 114
  · have t0 := hf.1
    have L := h.L t0
    have s := L.sc0
    have z := L.s0
    have hA := h.2.2.2.2.2.2.1
    have c4 := L.c114
    have c2 := L.c112
    rw [e109y_4 h hf]
    refine ⟨fun q => absurd rfl q, fun _ => ?_⟩
    by_cases hx : A.1 77 14 ≠ 0 ∧ 0 ≤ x ∧ x < A.1 80 112
    · rw [e109y_2 h hx, if_pos rfl, e118 L hf.2.1 hf.2.2 hx.2.1 hx.2.2]
      refine ⟨fun _ => ?_, fun q => absurd rfl q⟩
      have hb := L.s27 hf.2.1 (show f < 4 by omega)
      have hg := L.s35 hx.2.1 (show x < 8 by omega)
      have ld := L.ldB (at' := fun f => A.1 82 (31 + f)) (x := x)
      have w := L.v61 hf.2.1 hf.2.2
      have v := L.v25 hx.2.1 hx.2.2
      by_cases hc : A.1 82 (27 + f) = 0 ∧ A.1 82 (35 + x) = 0 ∧ A.1 82 (31 + f) ≠ x ∧ tb_load (A.1 80) (A.1 82) (fun f => A.1 82 (31 + f)) x + A.1 80 (61 + f) ≤ A.1 80 (25 + x)
      · rw [if_pos hc, if_pos (by decide)]
        refine r6z ?_
        rw [e70 (tb_Lu L) hf.2.1 (by omega), tb_u82, e119 (A := tb_upI A 0 13 0) hA.2.2.1 (by rw [show (tb_upI A 0 13 0).1 17 4 = A.1 17 4 from rfl, hA.1]; exact hA.2.1), e53 hf.2.1 (by omega)]
        have hC : ∃ C, C = tb_upI (tb_nh (tb_upI A 0 13 0) 0 f (A.1 82 (31 + f))) 8 f x := ⟨_, rfl⟩
        obtain ⟨C, hC⟩ := hC
        have h82 : C.1 82 = A.1 82 := by
          subst hC
          funext j
          simp [tb_nh, tb_uI1]
        have h80 : C.1 80 = A.1 80 := by
          subst hC
          funext j
          simp [tb_nh, tb_uI1]
        have h14 : C.1 77 14 = A.1 77 14 := by
          subst hC
          simp [tb_nh, tb_uI1]
        have M : tc_M (tb_upI (tb_upI C 77 0 0) 77 11 0) := L.M.c (by rw [← h80]; rfl) (by rw [← h82]; rfl)
        have g82 : (tb_upI (tb_upI C 77 0 0) 77 11 0).1 82 = A.1 82 := h82
        have g80 : (tb_upI (tb_upI C 77 0 0) 77 11 0).1 80 = A.1 80 := h80
        rw [← hC]
        refine q272 ?_
        rw [e201, tb_w_id (x := 27 + f) (by omega) (by omega), tb_w_id (x := 35 + x) (by omega) (by omega), tb_w_id (x := 31 + f) (by omega) (by omega), tb_w_id (x := 61 + f) (by omega) (by omega), tb_w_id (x := 25 + x) (by omega) (by omega)]
        have ey : ∀ K, tb_Ci X 264 [tb_r 77, tb_i f] (tb_upI (tb_upI C 77 0 0) 77 11 0) K = K 1 (tb_upI (tb_upI C 77 0 0) 77 11 0) := by
          intro K
          refine tb_dei (q264 ⟨fun q => absurd (h14.symm.trans q) t0, fun _ => ?_⟩)
          rw [g80, tb_w_id (by omega) (by omega), e202t (by omega), if_neg (by decide)]
          exact ⟨rfl, rfl⟩
        have ez : ∀ K, tb_Ci X 266 [tb_r 77, tb_i x] (tb_upI (tb_upI C 77 0 0) 77 11 0) K = K 1 (tb_upI (tb_upI C 77 0 0) 77 11 0) := by
          intro K
          refine tb_dei (q266 ⟨fun q => absurd (h14.symm.trans q) t0, fun _ => ?_⟩)
          rw [g80, tb_w_id (by omega) (by omega), e202t (by omega), if_neg (by decide)]
          exact ⟨rfl, rfl⟩
        rw [ey]
        refine ⟨fun q => absurd q (by decide), fun _ => ?_⟩
        rw [ez]
        refine ⟨fun _ => ?_, fun q => absurd q (by decide)⟩
        rw [g82]
        refine ⟨by omega, fun q => absurd hc.1 q, fun _ => ⟨by omega, fun q => absurd hc.2.1 q, fun _ => ⟨by omega, fun q => absurd q hc.2.2.1, fun _ => ?_⟩⟩⟩
        rw [e267 M, g80, g82, tb_w_id (by omega) (by omega), if_neg (by omega)]
        refine ⟨by omega, by omega, fun _ => ⟨by omega, by omega, ?_⟩, fun q => absurd q (by decide)⟩
        subst hC
        show tb_Ci X 273 [tb_r 77, tb_i 0, tb_i f, tb_i (A.1 82 (31 + f))] (tb_dM A f x) _
        have hff : tb_fa A (tb_dM A f x) := by
          unfold tb_dM tb_nh
          refine tb_fr.upI ?_ rfl
          refine tb_fr.upI ?_ rfl
          refine tb_fr.upI ?_ rfl
          refine tb_fr.upI ?_ rfl
          repeat refine tb_fr.upI ?_ rfl
          exact tb_fr.refl
        have e82 : ∀ k, k ≠ 31 + f → (tb_dM A f x).1 82 k = A.1 82 k := fun k hk => by simp [tb_dM, tb_nh, tb_uI1, hk]
        have e82' : (tb_dM A f x).1 82 (31 + f) = x := by simp [tb_dM, tb_uI1]
        refine h.push (th' := f) (old := A.1 82 (31 + f)) t0 hff rfl rfl rfl rfl rfl (fun q hq => ?_) ?_ rfl rfl rfl rfl ?_ (fun j a b => e82 _ (by omega)) (fun j a b _ => e82 _ (by have := L.c113; omega)) (Or.inl ⟨rfl, rfl, rfl, hf.2, hb.2, L.th hf.2.1 hf.2.2 hc.1⟩)
        · simp [tb_dM, tb_nh, tb_uI1, hq]
        · simp [tb_dM, tb_nh, tb_uI1]
        · refine L.act hff (fun k _ _ _ _ k31 _ => e82 k (by omega)) (fun k _ _ _ _ => rfl) rfl rfl rfl ⟨?_, ?_⟩ ⟨?_, ?_⟩ ⟨?_, ?_⟩ ⟨L.tf, fun j a b => ?_⟩ (fun j a b => ?_) (fun j a b => ?_) (fun j a b c => ?_)
          · rw [e82 _ (by omega)]; exact s.2.2.2.2.2.1
          · rw [e82 _ (by omega)]; exact z.2.2.2.2.1
          · rw [e82 _ (by omega)]; exact s.2.2.2.2.2.2.2.2.2
          · rw [e82 _ (by omega)]; exact z.2.2.2.2.2.2.2.2.1
          · rw [e82 _ (by omega)]; exact s.2.1
          · rw [e82 _ (by omega)]; exact z.2.2.2.2.2.2.2.2.2.2
          · rw [e82 _ (by omega)]; exact ⟨L.tie a b, (L.s15 a b).2⟩
          · by_cases e : j = f
            · subst e
              rw [e82']
              exact ⟨by simp [tb_dM, tb_uI1], hx.2⟩
            · rw [e82 _ (by omega)]
              refine ⟨?_, (L.s27 a b).2⟩
              rw [← L.ho a b]
              simp [tb_dM, tb_nh, tb_uI1, e]
          · rw [e82 _ (by omega)]; exact ⟨L.ba a b, (L.s35 a b).2⟩
          · by_cases e : j = f
            · subst e
              rw [e82']
              exact hc.2.1
            · rw [e82 _ (by omega)]
              exact L.th a b c
      · rw [if_neg hc, if_neg (by decide)]
        refine r6n (by decide) ?_
        refine q272 ?_
        rw [e201g, e264y h hf, tb_w_id (x := 27 + f) (by omega) (by omega), tb_w_id (x := 35 + x) (by omega) (by omega), tb_w_id (x := 31 + f) (by omega) (by omega), tb_w_id (x := 61 + f) (by omega) (by omega), tb_w_id (x := 25 + x) (by omega) (by omega)]
        refine ⟨fun q => absurd q (by decide), fun _ => ?_⟩
        rw [e266y h hx]
        refine ⟨fun _ => ?_, fun q => absurd q (by decide)⟩
        rw [tb_g82]
        refine ⟨by omega, fun q => tb_nt h (by decide), fun q0 => ⟨by omega, fun q => tb_nt h (by decide), fun q1 => ⟨by omega, fun q => tb_nt h (by decide), fun q2 => ?_⟩⟩⟩
        rw [e267 (tb_gL L).M, tb_g80, tb_g82, tb_w_id (by omega) (by omega), if_pos (by
          by_cases c : A.1 80 (25 + x) < tb_load (A.1 80) (A.1 82) (fun f => A.1 82 (31 + f)) x + A.1 80 (61 + f)
          · exact c
          · exact absurd ⟨q0, q1, q2, by omega⟩ hc)]
        exact ⟨by omega, by omega, fun q => absurd rfl q, fun _ => tb_nt h (by decide)⟩
    · rw [e109n_2 h hx]
      refine ⟨fun q => absurd q (by decide), fun _ => r6n (by decide) ?_⟩
      refine q272 ?_
      rw [e201g, e264y h hf]
      refine ⟨fun q => absurd q (by decide), fun _ => ?_⟩
      rw [e266n h hx]
      exact ⟨fun q => absurd rfl q, fun _ => tb_nt h (by decide)⟩
  · rw [e109n_4 h hf]
    refine ⟨fun _ => r6n (by decide) ?_, fun q => absurd q (by decide)⟩
    refine q272 ?_
    rw [e201g, e264n h hf]
    exact ⟨fun _ => tb_nt h (by decide), fun q => absurd rfl q⟩
def tb_dT (A : tb_H) (x y : Int) : tb_H := tb_upI (tb_upI (tb_upI (tb_upI (tb_nh (tb_upI A 0 13 0) 1 x 0) 5 10 (tb_xor (A.1 5 10) (tb_shl 1 x))) 77 0 0) 77 11 0) 82 (21 + x) y
theorem c120 (h : tb_Rel A) {x y : Int} (hy : y = 0 ∨ y = 1) : tb_Ci X 120 [tb_r 0, tb_i x, tb_i y] A (tb_A2 X 274 [tb_r 77, tb_i x, tb_i y]) := by
  refine q120 ?_
  have ey : (if y = 0 then 0 else 1 : Int) = y := by split <;> omega
  by_cases hx : A.1 77 14 ≠ 0 ∧ 0 ≤ x ∧ x < A.1 80 113
  · have t0 := hx.1
    have L := h.L t0
    have s := L.sc0
    have z := L.s0
    have hA := h.2.2.2.2.2.2.1
    have c3 := L.c113
    have hb := L.s15 hx.2.1 (show x < 6 by omega)
    rw [e109y_3 h hx]
    refine ⟨fun q => absurd rfl q, fun _ => ?_⟩
    rw [e65 L hx.2.1 (by omega)]
    refine ⟨fun q => ⟨fun _ => r6n (by decide) ?_, fun q' => absurd rfl q'⟩, fun q => ?_⟩
    · refine q274 ?_
      rw [e201g, e262y h hx, tb_w_id (x := 15 + x) (by omega) (by omega)]
      refine ⟨fun _ => ⟨by omega, fun _ => tb_nt h (by decide), fun q' => absurd (by rw [tb_g82] at q'; exact q') q⟩, fun q' => absurd q' (by decide)⟩
    · rw [e101 L hx.2.1 (by omega), if_pos rfl]
      by_cases hc : A.1 82 (21 + x) = y
      · rw [if_neg (show ¬ (A.1 82 (21 + x) ≠ y) from fun q' => q' hc), if_neg (by decide)]
        refine r6n (by decide) ?_
        refine q274 ?_
        rw [e201g, e262y h hx, tb_w_id (x := 15 + x) (by omega) (by omega), tb_w_id (x := 21 + x) (by omega) (by omega), tb_g82, ey]
        exact ⟨fun _ => ⟨by omega, fun q' => absurd q q', fun _ => ⟨by omega, fun q' => absurd hc q', fun _ => tb_nt h (by decide)⟩⟩, fun q' => absurd q' (by decide)⟩
      · rw [if_pos hc, if_pos rfl]
        refine r6z ?_
        rw [e119 (A := tb_upI A 0 13 0) hA.2.2.1 (by rw [show (tb_upI A 0 13 0).1 17 4 = A.1 17 4 from rfl, hA.1]; exact hA.2.1), e121]
        have hC : ∃ C, C = tb_upI (tb_nh (tb_upI A 0 13 0) 1 x 0) 5 10 (tb_xor (A.1 5 10) (tb_shl 1 x)) := ⟨_, rfl⟩
        obtain ⟨C, hC⟩ := hC
        have h82 : C.1 82 = A.1 82 := by
          subst hC
          funext j
          simp [tb_nh, tb_uI1]
        have h80 : C.1 80 = A.1 80 := by
          subst hC
          funext j
          simp [tb_nh, tb_uI1]
        have h14 : C.1 77 14 = A.1 77 14 := by
          subst hC
          simp [tb_nh, tb_uI1]
        have g82 : (tb_upI (tb_upI C 77 0 0) 77 11 0).1 82 = A.1 82 := h82
        have g80 : (tb_upI (tb_upI C 77 0 0) 77 11 0).1 80 = A.1 80 := h80
        show tb_A2 X 274 [tb_r 77, tb_i x, tb_i y] 1 (tb_upI (tb_nh (tb_upI A 0 13 0) 1 x 0) 5 10 (tb_xor (A.1 5 10) (tb_shl 1 x)))
        rw [← hC]
        refine q274 ?_
        rw [e201, tb_w_id (x := 15 + x) (by omega) (by omega), tb_w_id (x := 21 + x) (by omega) (by omega), ey, tb_w_id (x := 1 - y) (by omega) (by omega)]
        have ez : ∀ K, tb_Ci X 262 [tb_r 77, tb_i x] (tb_upI (tb_upI C 77 0 0) 77 11 0) K = K 1 (tb_upI (tb_upI C 77 0 0) 77 11 0) := by
          intro K
          refine tb_dei (q262 ⟨fun q => absurd (h14.symm.trans q) t0, fun _ => ?_⟩)
          rw [g80, tb_w_id (by omega) (by omega), e202t (by omega), if_neg (by decide)]
          exact ⟨rfl, rfl⟩
        rw [ez, g82]
        refine ⟨fun _ => ⟨by omega, fun q' => absurd q q', fun _ => ⟨by omega, fun _ => ⟨by omega, ?_⟩, fun q' => absurd q' hc⟩⟩, fun q' => absurd q' (by decide)⟩
        subst hC
        show tb_Ci X 273 [tb_r 77, tb_i 1, tb_i x, tb_i (1 - y)] (tb_dT A x y) _
        have hff : tb_fa A (tb_dT A x y) := by
          unfold tb_dT tb_nh
          refine tb_fr.upI ?_ rfl
          repeat refine tb_fr.upI ?_ rfl
          exact tb_fr.refl
        have e82 : ∀ k, k ≠ 21 + x → (tb_dT A x y).1 82 k = A.1 82 k := fun k hk => by simp [tb_dT, tb_nh, tb_uI1, hk]
        have e82' : (tb_dT A x y).1 82 (21 + x) = y := by simp [tb_dT, tb_uI1]
        have tg := tb_tgl L.tf.1 L.tf.2 hx.2.1 (show x < 6 by omega)
        refine h.push (th' := x) (old := 0) t0 hff rfl rfl rfl rfl rfl (fun q hq => ?_) ?_ rfl rfl rfl rfl ?_ (fun j a b => e82 _ (by omega)) (fun j a b q' => e82 _ (fun e => q' ⟨rfl, by omega⟩)) (Or.inr (Or.inl ⟨rfl, rfl, hx.2, by omega, by omega, by rw [e82']; omega⟩))
        · simp [tb_dT, tb_nh, tb_uI1, hq]
        · simp [tb_dT, tb_nh, tb_uI1]
        · refine L.act hff (fun k _ _ _ k21 _ _ => e82 k (by omega)) (fun k _ _ _ k10 => by simp [tb_dT, tb_nh, tb_uI1, k10]) rfl rfl rfl ⟨?_, ?_⟩ ⟨?_, ?_⟩ ⟨?_, ?_⟩ ⟨tg.1, fun j a b => ?_⟩ (fun j a b => ?_) (fun j a b => ?_) (fun j a b c => ?_)
          · rw [e82 _ (by omega)]; exact s.2.2.2.2.2.1
          · rw [e82 _ (by omega)]; exact z.2.2.2.2.1
          · rw [e82 _ (by omega)]; exact s.2.2.2.2.2.2.2.2.2
          · rw [e82 _ (by omega)]; exact z.2.2.2.2.2.2.2.2.1
          · rw [e82 _ (by omega)]; exact s.2.1
          · rw [e82 _ (by omega)]; exact z.2.2.2.2.2.2.2.2.2.2
          · show tb_and (tb_shr (tb_xor (A.1 5 10) (tb_shl 1 x)) j) 1 = _ ∧ _
            rw [tg.2 j a b]
            by_cases e : j = x
            · subst e
              rw [if_pos rfl, e82', L.tie a b]
              omega
            · rw [if_neg e, e82 _ (by omega)]
              exact ⟨L.tie a b, (L.s15 a b).2⟩
          · rw [e82 _ (by omega)]; exact ⟨L.ho a b, (L.s27 a b).2⟩
          · rw [e82 _ (by omega)]; exact ⟨L.ba a b, (L.s35 a b).2⟩
          · have b4 := L.c114
            rw [e82 _ (by omega)]; exact L.th a b c
  · rw [e109n_3 h hx]
    refine ⟨fun _ => ⟨fun q => absurd q (by decide), fun _ => r6n (by decide) ?_⟩, fun q => absurd q (by decide)⟩
    refine q274 ?_
    rw [e201g, e262n h hx]
    exact ⟨fun q => absurd rfl q, fun _ => tb_nt h (by decide)⟩
def tb_dS (A : tb_H) (x : Int) : tb_H := tb_upI (tb_upI (tb_upI (tb_upI (tb_upI (tb_upI (tb_nh (tb_upI A 0 13 0) 3 x (A.1 82 (43 + x))) 9 x 0) 5 9 (tb_w (A.1 5 9 + 1))) 77 0 0) 77 11 0) 82 (43 + x) 0) 82 8 (tb_w (A.1 82 8 + 1))
theorem c123 (h : tb_Rel A) {x : Int} : tb_Ci X 123 [tb_r 0, tb_i x] A (tb_A2 X 276 [tb_r 77, tb_i x]) := by
  refine q123 ?_
  by_cases hx : A.1 77 14 ≠ 0 ∧ 0 ≤ x ∧ x < A.1 80 112
  · have t0 := hx.1
    have L := h.L t0
    have s := L.sc0
    have z := L.s0
    have hA := h.2.2.2.2.2.2.1
    have c2 := L.c112
    have hb := L.s35 hx.2.1 (show x < 8 by omega)
    rw [e109y_2 h hx]
    refine ⟨fun q => absurd rfl q, fun _ => ?_⟩
    rw [e96 L hx.2.1 (by omega)]
    refine ⟨fun q => ⟨fun _ => r6n (by decide) ?_, fun q' => absurd rfl q'⟩, fun q => ?_⟩
    · refine q276 ?_
      rw [e201g, e266y h hx, tb_w_id (x := 35 + x) (by omega) (by omega)]
      exact ⟨fun _ => ⟨by omega, fun _ => tb_nt h (by decide), fun q' => by rw [tb_g82] at q'; omega⟩, fun q' => absurd q' (by decide)⟩
    · rw [e97 L hx.2.1 (by omega), if_pos rfl]
      by_cases hc : A.1 82 (43 + x) = 0
      · rw [if_neg (show ¬ (A.1 82 (43 + x) ≠ 0) from fun q' => q' hc), if_neg (by decide)]
        refine r6n (by decide) ?_
        refine q276 ?_
        rw [e201g, e266y h hx, tb_w_id (x := 35 + x) (by omega) (by omega), tb_w_id (x := 43 + x) (by omega) (by omega), tb_g82]
        exact ⟨fun _ => ⟨by omega, fun q' => by omega, fun _ => ⟨by omega, fun q' => absurd hc q', fun _ => tb_nt h (by decide)⟩⟩, fun q' => absurd q' (by decide)⟩
      · rw [if_pos hc, if_pos rfl]
        refine r6z ?_
        rw [e97 (tb_Lu L) hx.2.1 (by omega), tb_u82, e119 (A := tb_upI A 0 13 0) hA.2.2.1 (by rw [show (tb_upI A 0 13 0).1 17 4 = A.1 17 4 from rfl, hA.1]; exact hA.2.1), e99 hx.2.1 (by omega)]
        show tb_A2 X 276 [tb_r 77, tb_i x] 1 (tb_upI (tb_upI (tb_nh (tb_upI A 0 13 0) 3 x (A.1 82 (43 + x))) 9 x 0) 5 9 (tb_w (A.1 5 9 + 1)))
        have hC : ∃ C, C = tb_upI (tb_upI (tb_nh (tb_upI A 0 13 0) 3 x (A.1 82 (43 + x))) 9 x 0) 5 9 (tb_w (A.1 5 9 + 1)) := ⟨_, rfl⟩
        obtain ⟨C, hC⟩ := hC
        have h82 : C.1 82 = A.1 82 := by
          subst hC
          funext j
          simp [tb_nh, tb_uI1]
        have h80 : C.1 80 = A.1 80 := by
          subst hC
          funext j
          simp [tb_nh, tb_uI1]
        have h14 : C.1 77 14 = A.1 77 14 := by
          subst hC
          simp [tb_nh, tb_uI1]
        have g82 : (tb_upI (tb_upI C 77 0 0) 77 11 0).1 82 = A.1 82 := h82
        have g80 : (tb_upI (tb_upI C 77 0 0) 77 11 0).1 80 = A.1 80 := h80
        rw [← hC]
        refine q276 ?_
        rw [e201, tb_w_id (x := 35 + x) (by omega) (by omega), tb_w_id (x := 43 + x) (by omega) (by omega)]
        have ez : ∀ K, tb_Ci X 266 [tb_r 77, tb_i x] (tb_upI (tb_upI C 77 0 0) 77 11 0) K = K 1 (tb_upI (tb_upI C 77 0 0) 77 11 0) := by
          intro K
          refine tb_dei (q266 ⟨fun q => absurd (h14.symm.trans q) t0, fun _ => ?_⟩)
          rw [g80, tb_w_id (by omega) (by omega), e202t (by omega), if_neg (by decide)]
          exact ⟨rfl, rfl⟩
        rw [ez, g82]
        refine ⟨fun _ => ⟨by omega, fun q' => by omega, fun _ => ⟨by omega, fun _ => ⟨by omega, by omega, ?_⟩, fun q' => absurd q' hc⟩⟩, fun q' => absurd q' (by decide)⟩
        have ne : ¬ (8 : Int) = 43 + x := by omega
        rw [show (tb_upI (tb_upI (tb_upI C 77 0 0) 77 11 0) 82 (43 + x) 0).1 82 8 = A.1 82 8 by rw [← h82]; simp [tb_uI1, ne]]
        subst hC
        show tb_Ci X 273 [tb_r 77, tb_i 3, tb_i x, tb_i (A.1 82 (43 + x))] (tb_dS A x) _
        have hff : tb_fa A (tb_dS A x) := by
          unfold tb_dS tb_nh
          refine tb_fr.upI ?_ rfl
          refine tb_fr.upI ?_ rfl
          repeat refine tb_fr.upI ?_ rfl
          exact tb_fr.refl
        have e82 : ∀ k, k ≠ 8 → k ≠ 43 + x → (tb_dS A x).1 82 k = A.1 82 k := fun k hk hl => by simp [tb_dS, tb_nh, tb_uI1, hk, hl]
        have e82' : (tb_dS A x).1 82 (43 + x) = 0 := by
          have : ¬ (43 + x = 8) := by omega
          simp [tb_dS, tb_uI1, this]
        refine h.push (th' := x) (old := A.1 82 (43 + x)) t0 hff rfl rfl rfl rfl rfl (fun q hq => ?_) ?_ rfl rfl rfl rfl ?_ (fun j a b => e82 _ (by omega) (by omega)) (fun j a b q' => e82 _ (by omega) (by have := L.c113; omega)) (Or.inr (Or.inr (Or.inr ⟨rfl, rfl, rfl, hx.2, hb.2⟩)))
        · simp [tb_dS, tb_nh, tb_uI1, hq]
        · simp [tb_dS, tb_nh, tb_uI1]
        · refine L.act hff (fun k _ k8 _ _ _ k43 => e82 k k8 (by omega)) (fun k _ _ k9 _ => by simp [tb_dS, tb_nh, tb_uI1, k9]) rfl rfl rfl ⟨?_, ?_⟩ ⟨?_, tb_i32 _⟩ ⟨?_, ?_⟩ ⟨L.tf, fun j a b => ?_⟩ (fun j a b => ?_) (fun j a b => ?_) (fun j a b c => ?_)
          · rw [e82 _ (by omega) (by omega)]; exact s.2.2.2.2.2.1
          · rw [e82 _ (by omega) (by omega)]; exact z.2.2.2.2.1
          · show tb_w (A.1 5 9 + 1) = tb_w (A.1 82 8 + 1)
            rw [s.2.2.2.2.2.2.2.2.2]
          · rw [e82 _ (by omega) (by omega)]; exact s.2.1
          · rw [e82 _ (by omega) (by omega)]; exact z.2.2.2.2.2.2.2.2.2.2
          · rw [e82 _ (by omega) (by omega)]; exact ⟨L.tie a b, (L.s15 a b).2⟩
          · rw [e82 _ (by omega) (by omega)]; exact ⟨L.ho a b, (L.s27 a b).2⟩
          · by_cases e : j = x
            · subst e
              rw [e82']
              exact ⟨by simp [tb_dS, tb_uI1], by omega⟩
            · rw [e82 _ (by omega) (by omega)]
              refine ⟨?_, (L.s35 a b).2⟩
              rw [← L.ba a b]
              simp [tb_dS, tb_nh, tb_uI1, e]
          · have b4 := L.c114
            rw [e82 _ (by omega) (by omega)]; exact L.th a b c
  · rw [e109n_2 h hx]
    refine ⟨fun _ => ⟨fun q => absurd q (by decide), fun _ => r6n (by decide) ?_⟩, fun q => absurd q (by decide)⟩
    refine q276 ?_
    rw [e201g, e266n h hx]
    exact ⟨fun q => absurd rfl q, fun _ => tb_nt h (by decide)⟩
end TBACTS4
