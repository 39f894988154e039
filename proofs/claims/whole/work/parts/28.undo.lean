/-! undo -/
section TBUNDO
variable {X : tb_X} {A D : tb_H} {K : Int → tb_H → Prop} {Kv : tb_H → Prop}
theorem tb_Rel.pop (h : tb_Rel A) (t : A.1 77 14 ≠ 0) (hn : 0 < A.1 77 23) (hf : tb_fa A D) (d0 : D.1 0 13 = 0) (d11 : D.1 77 11 = 0) (n1 : D.1 77 23 = A.1 77 23 - 1) (n2 : D.1 17 4 = A.1 77 23 - 1) (tp : D.1 17 3 = (A.1 17 3 + 29) % 30)
    (o84 : D.1 84 = A.1 84) (o85 : D.1 85 = A.1 85) (o86 : D.1 86 = A.1 86) (o18 : D.1 18 = A.1 18) (o19 : D.1 19 = A.1 19) (o20 : D.1 20 = A.1 20) (pm : D.2.2 = A.2.2)
    (L' : tb_L D) (eg : ∀ k, 0 ≤ k → k < 8 → D.1 82 (35 + k) = A.1 82 (35 + k))
    (et : ∀ k, 0 ≤ k → k < A.1 80 113 → ¬ tc_ty A k (A.1 77 23 - 1) → D.1 82 (21 + k) = A.1 82 (21 + k)) (eu : A.1 84 (A.1 77 23 - 1) = 1 → D.1 82 (21 + A.1 85 (A.1 77 23 - 1)) = A.1 86 (A.1 77 23 - 1)) : tb_Rel D := by
  have hA := h.2.2.2.2.2.2.1
  have c := (h.L t).c112
  have e80 : D.1 80 = A.1 80 := by
    funext j
    exact hf.1 80 j rfl rfl
  refine h.ac hf t (by rw [d0, d11]) (by rw [d11]; decide) L' (hA.pop (n := A.1 77 23 - 1) rfl (by omega) n1 n2 tp o84 o85 o86 o18 o19 o20 e80 eg c.2 et eu) ?_
  unfold tb_RP
  rw [pm]
  exact h.P
/-- the heap behind the class's undo and the reference's good() and count, ahead of the act itself -/
def tb_dU (A : tb_H) : tb_H := tb_upI (tb_upI (tb_upI A 0 13 0) 17 3 ((A.1 17 3 + 29) % 30)) 17 4 (A.1 77 23 - 1)
def tb_dV (B : tb_H) (n : Int) : tb_H := tb_upI (tb_upI (tb_upI B 77 0 0) 77 11 0) 77 23 n
theorem c124 (h : tb_Rel A) : tb_Ci X 124 [tb_r 0] A (tb_A2 X 277 [tb_r 77]) := by
  have hA := h.2.2.2.2.2.2.1
  refine q124 ?_
  rw [e125, hA.1]
  by_cases hn : A.1 77 23 = 0
  · rw [if_neg (fun q => q hn)]
    refine r6n (by decide) ?_
    refine q277 ?_
    rw [e201g]
    exact ⟨fun q => absurd (show (tb_g A 6).1 77 23 = 0 from hn) q, fun _ => tb_nt h (by decide)⟩
  · have t0 : A.1 77 14 ≠ 0 := fun t => hn (h.2.2.2.2.1 t).2.2.2.2.1
    have L := h.L t0
    have s := L.sc0
    have z := L.s0
    have c2 := L.c112
    have c3 := L.c113
    have c4 := L.c114
    have hn' : 0 < A.1 77 23 := by have := hA.2.1; omega
    have g := hA.2.2.2 (A.1 77 23 - 1) (by omega) (by omega)
    have rg : tb_rg A (A.1 77 23 - 1) = (A.1 17 3 + 29) % 30 := by
      unfold tb_rg
      have := hA.2.2.1
      omega
    rw [rg] at g
    have hl : (if A.1 17 3 ≤ 0 then 29 else tb_w (A.1 17 3 - 1)) = (A.1 17 3 + 29) % 30 := by
      have := hA.2.2.1
      rw [tb_w_id (by omega) (by omega)]
      split <;> omega
    have hlb : 0 ≤ (A.1 17 3 + 29) % 30 ∧ (A.1 17 3 + 29) % 30 < 30 := by omega
    have hw : tb_w (A.1 77 23 - 1) = A.1 77 23 - 1 := by
      have := hA.2.1
      exact tb_w_id (by omega) (by omega)
    rw [if_pos hn]
    refine r6z ?_
    refine q126 ⟨fun q => absurd q (by show ¬ (A.1 17 4 ≤ 0); rw [hA.1]; omega), fun _ => ⟨fun _ => ?_, fun q => absurd q (by show ¬ (30 ≤ (if A.1 17 3 ≤ 0 then 29 else tb_w (A.1 17 3 - 1))); rw [hl]; omega)⟩⟩
    have k17 : (tb_upI A 0 13 0).1 17 3 = A.1 17 3 := rfl
    have k174 : (tb_upI A 0 13 0).1 17 4 = A.1 77 23 := hA.1
    have k18 : (tb_upI A 0 13 0).1 18 = A.1 18 := by funext j; simp [tb_uI1]
    have k19 : (tb_upI A 0 13 0).1 19 = A.1 19 := by funext j; simp [tb_uI1]
    have k20 : (tb_upI A 0 13 0).1 20 = A.1 20 := by funext j; simp [tb_uI1]
    rw [k17, k174, k18, k19, k20, hl, hw, g.1]
    show _ ∧ _ ∧ (_ → _ ∧ tb_Cv X 53 _ (tb_dU A) _) ∧ (_ → tb_Cv X 121 _ (tb_dU A) _) ∧ (_ → tb_A2 X 277 [tb_r 77] 1 (tb_upI (tb_upI (tb_dU A) 5 5 _) 5 9 _)) ∧ (_ → _ ∧ tb_Cv X 99 _ (tb_dU A) _)
    have G : ∀ B : tb_H, B.1 77 23 = A.1 77 23 → B.1 84 = A.1 84 → B.1 85 = A.1 85 → B.1 86 = A.1 86 → B.1 82 = A.1 82 →
        ((A.1 84 (A.1 77 23 - 1) = 0 → (0 ≤ A.1 85 (A.1 77 23 - 1) ∧ A.1 85 (A.1 77 23 - 1) < 4) ∧ tb_Rel (tb_upI (tb_dV B (A.1 77 23 - 1)) 82 (31 + A.1 85 (A.1 77 23 - 1)) (A.1 86 (A.1 77 23 - 1)))) ∧
         (A.1 84 (A.1 77 23 - 1) = 1 → (0 ≤ A.1 85 (A.1 77 23 - 1) ∧ A.1 85 (A.1 77 23 - 1) < 6) ∧ tb_Rel (tb_upI (tb_dV B (A.1 77 23 - 1)) 82 (21 + A.1 85 (A.1 77 23 - 1)) (A.1 86 (A.1 77 23 - 1)))) ∧
         (A.1 84 (A.1 77 23 - 1) = 2 → tb_Rel (tb_upI (tb_upI (tb_dV B (A.1 77 23 - 1)) 82 4 (tb_w (A.1 82 4 + A.1 86 (A.1 77 23 - 1)))) 82 8 (tb_w (A.1 82 8 - A.1 86 (A.1 77 23 - 1))))) ∧
         (A.1 84 (A.1 77 23 - 1) = 3 → (0 ≤ A.1 85 (A.1 77 23 - 1) ∧ A.1 85 (A.1 77 23 - 1) < 8) ∧ tb_Rel (tb_upI (tb_upI (tb_dV B (A.1 77 23 - 1)) 82 (43 + A.1 85 (A.1 77 23 - 1)) (A.1 86 (A.1 77 23 - 1))) 82 8 (tb_w (A.1 82 8 - 1))))) →
        tb_A2 X 277 [tb_r 77] 1 B := by
      intro B b23 b84 b85 b86 b82 q
      refine q277 ?_
      rw [e201]
      have e23 : (tb_upI (tb_upI B 77 0 0) 77 11 0).1 77 23 = A.1 77 23 := b23
      have e84 : (tb_upI (tb_upI B 77 0 0) 77 11 0).1 84 = A.1 84 := b84
      have e85 : (tb_upI (tb_upI B 77 0 0) 77 11 0).1 85 = A.1 85 := b85
      have e86 : (tb_upI (tb_upI B 77 0 0) 77 11 0).1 86 = A.1 86 := b86
      rw [e23, hw, e84, e85, e86]
      have nb := hA.2.1
      refine ⟨fun _ => ⟨by omega, by omega, by omega, ?_, ?_, ?_, ?_⟩, fun q' => absurd q' hn⟩
      · intro k
        have r := q.1 k
        rw [tb_w_id (x := 31 + A.1 85 (A.1 77 23 - 1)) (by omega) (by omega)]
        exact ⟨by omega, rfl, r.2⟩
      · intro k
        have r := q.2.1 k
        rw [tb_w_id (x := 21 + A.1 85 (A.1 77 23 - 1)) (by omega) (by omega)]
        exact ⟨by omega, rfl, r.2⟩
      · intro k
        have r := q.2.2.1 k
        have e4 : (tb_upI (tb_upI B 77 0 0) 77 11 0).1 82 4 = A.1 82 4 := congrFun b82 4
        have e8 : (tb_upI (tb_upI B 77 0 0) 77 11 0).1 82 8 = A.1 82 8 := congrFun b82 8
        rw [e4, e8]
        exact ⟨rfl, r⟩
      · intro k
        have k3 : A.1 84 (A.1 77 23 - 1) = 3 := by
          rcases g.2 with y | y | y | y <;> omega
        have r := q.2.2.2 k3
        rw [tb_w_id (x := 43 + A.1 85 (A.1 77 23 - 1)) (by omega) (by omega)]
        have e8 : (tb_upI (tb_upI (tb_upI (tb_upI B 77 0 0) 77 11 0) 77 23 (A.1 77 23 - 1)) 82 (43 + A.1 85 (A.1 77 23 - 1)) (A.1 86 (A.1 77 23 - 1))).1 82 8 = A.1 82 8 := by
          have : ¬ (8 = 43 + A.1 85 (A.1 77 23 - 1)) := by omega
          rw [← congrFun b82 8]
          simp [tb_uI1, this]
        rw [e8]
        exact ⟨by omega, rfl, r.2⟩
    have fU : tb_fa A (tb_dU A) := by
      unfold tb_dU
      repeat refine tb_fr.upI ?_ rfl
      exact tb_fr.refl
    refine ⟨hlb, hlb, ?_, ?_, ?_, ?_⟩
    · intro k
      have y : A.1 19 ((A.1 17 3 + 29) % 30) = A.1 85 (A.1 77 23 - 1) ∧ A.1 20 ((A.1 17 3 + 29) % 30) = A.1 86 (A.1 77 23 - 1) ∧ (0 ≤ A.1 85 (A.1 77 23 - 1) ∧ A.1 85 (A.1 77 23 - 1) < A.1 80 114) ∧ (0 ≤ A.1 86 (A.1 77 23 - 1) ∧ A.1 86 (A.1 77 23 - 1) < A.1 80 112) ∧ A.1 82 (35 + A.1 86 (A.1 77 23 - 1)) = 0 := by
        rcases g.2 with y | y | y | y
        · exact y.2
        · omega
        · omega
        · omega
      rw [y.1, y.2.1]
      refine ⟨hlb, ?_⟩
      rw [e53 y.2.2.1.1 (by omega)]
      refine G _ rfl rfl rfl rfl rfl ⟨fun _ => ⟨by omega, ?_⟩, fun q => by omega, fun q => by omega, fun q => by omega⟩
      have hf : tb_fa A (tb_upI (tb_dV (tb_upI (tb_dU A) 8 (A.1 85 (A.1 77 23 - 1)) (A.1 86 (A.1 77 23 - 1))) (A.1 77 23 - 1)) 82 (31 + A.1 85 (A.1 77 23 - 1)) (A.1 86 (A.1 77 23 - 1))) := by
        unfold tb_dV
        refine tb_fr.upI ?_ rfl
        refine tb_fr.upI ?_ rfl
        refine tb_fr.upI ?_ rfl
        refine tb_fr.upI ?_ rfl
        refine tb_fr.upI ?_ rfl
        exact fU
      have e82 : ∀ k, k ≠ 31 + A.1 85 (A.1 77 23 - 1) → (tb_upI (tb_dV (tb_upI (tb_dU A) 8 (A.1 85 (A.1 77 23 - 1)) (A.1 86 (A.1 77 23 - 1))) (A.1 77 23 - 1)) 82 (31 + A.1 85 (A.1 77 23 - 1)) (A.1 86 (A.1 77 23 - 1))).1 82 k = A.1 82 k := fun k hk => by simp [tb_dU, tb_dV, tb_uI1, hk]
      have e82' : (tb_upI (tb_dV (tb_upI (tb_dU A) 8 (A.1 85 (A.1 77 23 - 1)) (A.1 86 (A.1 77 23 - 1))) (A.1 77 23 - 1)) 82 (31 + A.1 85 (A.1 77 23 - 1)) (A.1 86 (A.1 77 23 - 1))).1 82 (31 + A.1 85 (A.1 77 23 - 1)) = A.1 86 (A.1 77 23 - 1) := by simp [tb_uI1]
      refine h.pop t0 hn' hf rfl rfl rfl rfl rfl rfl rfl rfl rfl rfl rfl rfl ?_ (fun j a b => e82 _ (by omega)) (fun j a b _ => e82 _ (by omega)) (fun q => by omega)
      refine L.act hf (fun k _ _ _ _ k31 _ => e82 k (by omega)) (fun k _ _ _ _ => rfl) rfl rfl rfl ⟨?_, ?_⟩ ⟨?_, ?_⟩ ⟨?_, ?_⟩ ⟨L.tf, fun j a b => ?_⟩ (fun j a b => ?_) (fun j a b => ?_) (fun j a b c => ?_)
      · rw [e82 _ (by omega)]; exact s.2.2.2.2.2.1
      · rw [e82 _ (by omega)]; exact z.2.2.2.2.1
      · rw [e82 _ (by omega)]; exact s.2.2.2.2.2.2.2.2.2
      · rw [e82 _ (by omega)]; exact z.2.2.2.2.2.2.2.2.1
      · rw [e82 _ (by omega)]; exact s.2.1
      · rw [e82 _ (by omega)]; exact z.2.2.2.2.2.2.2.2.2.2
      · rw [e82 _ (by omega)]; exact ⟨L.tie a b, (L.s15 a b).2⟩
      · by_cases e : j = A.1 85 (A.1 77 23 - 1)
        · rw [e, e82']
          exact ⟨by simp [tb_dV, tb_uI1], y.2.2.2.1⟩
        · rw [e82 _ (by omega)]
          refine ⟨?_, (L.s27 a b).2⟩
          rw [← L.ho a b]
          simp [tb_dU, tb_dV, tb_uI1, e]
      · rw [e82 _ (by omega)]; exact ⟨L.ba a b, (L.s35 a b).2⟩
      · by_cases e : j = A.1 85 (A.1 77 23 - 1)
        · rw [e, e82']
          exact y.2.2.2.2
        · rw [e82 _ (by omega)]
          exact L.th a b c
    · intro k
      have y : A.1 19 ((A.1 17 3 + 29) % 30) = A.1 85 (A.1 77 23 - 1) ∧ (0 ≤ A.1 85 (A.1 77 23 - 1) ∧ A.1 85 (A.1 77 23 - 1) < A.1 80 113) ∧ (A.1 86 (A.1 77 23 - 1) = 0 ∨ A.1 86 (A.1 77 23 - 1) = 1) ∧ A.1 82 (21 + A.1 85 (A.1 77 23 - 1)) = 1 - A.1 86 (A.1 77 23 - 1) := by
        rcases g.2 with y | y | y | y
        · omega
        · exact ⟨y.2.1, y.2.2.1, y.2.2.2.1, y.2.2.2.2.2 (fun m m0 m1 => by omega)⟩
        · omega
        · omega
      rw [y.1, e121]
      have tg := tb_tgl L.tf.1 L.tf.2 y.2.1.1 (show A.1 85 (A.1 77 23 - 1) < 6 by omega)
      refine G _ rfl rfl rfl rfl rfl ⟨fun q => by omega, fun _ => ⟨by omega, ?_⟩, fun q => by omega, fun q => by omega⟩
      show tb_Rel (tb_upI (tb_dV (tb_upI (tb_dU A) 5 10 (tb_xor (A.1 5 10) (tb_shl 1 (A.1 85 (A.1 77 23 - 1))))) (A.1 77 23 - 1)) 82 (21 + A.1 85 (A.1 77 23 - 1)) (A.1 86 (A.1 77 23 - 1)))
      have hf : tb_fa A (tb_upI (tb_dV (tb_upI (tb_dU A) 5 10 (tb_xor (A.1 5 10) (tb_shl 1 (A.1 85 (A.1 77 23 - 1))))) (A.1 77 23 - 1)) 82 (21 + A.1 85 (A.1 77 23 - 1)) (A.1 86 (A.1 77 23 - 1))) := by
        unfold tb_dV
        refine tb_fr.upI ?_ rfl
        refine tb_fr.upI ?_ rfl
        refine tb_fr.upI ?_ rfl
        refine tb_fr.upI ?_ rfl
        refine tb_fr.upI ?_ rfl
        exact fU
      have e82 : ∀ k, k ≠ 21 + A.1 85 (A.1 77 23 - 1) → (tb_upI (tb_dV (tb_upI (tb_dU A) 5 10 (tb_xor (A.1 5 10) (tb_shl 1 (A.1 85 (A.1 77 23 - 1))))) (A.1 77 23 - 1)) 82 (21 + A.1 85 (A.1 77 23 - 1)) (A.1 86 (A.1 77 23 - 1))).1 82 k = A.1 82 k := fun k hk => by simp [tb_dU, tb_dV, tb_uI1, hk]
      have e82' : (tb_upI (tb_dV (tb_upI (tb_dU A) 5 10 (tb_xor (A.1 5 10) (tb_shl 1 (A.1 85 (A.1 77 23 - 1))))) (A.1 77 23 - 1)) 82 (21 + A.1 85 (A.1 77 23 - 1)) (A.1 86 (A.1 77 23 - 1))).1 82 (21 + A.1 85 (A.1 77 23 - 1)) = A.1 86 (A.1 77 23 - 1) := by simp [tb_uI1]
      refine h.pop t0 hn' hf rfl rfl rfl rfl rfl rfl rfl rfl rfl rfl rfl rfl ?_ (fun j a b => e82 _ (by omega)) (fun j a b q => e82 _ (fun e => q ⟨k, by omega⟩)) (fun q => e82')
      refine L.act hf (fun k _ _ _ k21 _ _ => e82 k (by omega)) (fun k _ _ _ k10 => by simp [tb_dU, tb_dV, tb_uI1, k10]) rfl rfl rfl ⟨?_, ?_⟩ ⟨?_, ?_⟩ ⟨?_, ?_⟩ ⟨tg.1, fun j a b => ?_⟩ (fun j a b => ?_) (fun j a b => ?_) (fun j a b c => ?_)
      · rw [e82 _ (by omega)]; exact s.2.2.2.2.2.1
      · rw [e82 _ (by omega)]; exact z.2.2.2.2.1
      · rw [e82 _ (by omega)]; exact s.2.2.2.2.2.2.2.2.2
      · rw [e82 _ (by omega)]; exact z.2.2.2.2.2.2.2.2.1
      · rw [e82 _ (by omega)]; exact s.2.1
      · rw [e82 _ (by omega)]; exact z.2.2.2.2.2.2.2.2.2.2
      · show tb_and (tb_shr (tb_xor (A.1 5 10) (tb_shl 1 (A.1 85 (A.1 77 23 - 1)))) j) 1 = _ ∧ _
        rw [tg.2 j a b]
        by_cases e : j = A.1 85 (A.1 77 23 - 1)
        · rw [if_pos e, e, e82', L.tie y.2.1.1 (by omega)]
          omega
        · rw [if_neg e, e82 _ (by omega)]
          exact ⟨L.tie a b, (L.s15 a b).2⟩
      · rw [e82 _ (by omega)]; exact ⟨L.ho a b, (L.s27 a b).2⟩
      · rw [e82 _ (by omega)]; exact ⟨L.ba a b, (L.s35 a b).2⟩
      · rw [e82 _ (by omega)]; exact L.th a b c
    · intro k
      have y : A.1 19 ((A.1 17 3 + 29) % 30) = A.1 86 (A.1 77 23 - 1) := by
        rcases g.2 with y | y | y | y
        · omega
        · omega
        · exact y.2
        · omega
      rw [y]
      refine G _ rfl rfl rfl rfl rfl ⟨fun q => by omega, fun q => by omega, fun _ => ?_, fun q => by omega⟩
      show tb_Rel (tb_upI (tb_upI (tb_dV (tb_upI (tb_upI (tb_dU A) 5 5 (tb_w (A.1 5 5 + A.1 86 (A.1 77 23 - 1)))) 5 9 (tb_w (A.1 5 9 - A.1 86 (A.1 77 23 - 1)))) (A.1 77 23 - 1)) 82 4 (tb_w (A.1 82 4 + A.1 86 (A.1 77 23 - 1)))) 82 8 (tb_w (A.1 82 8 - A.1 86 (A.1 77 23 - 1))))
      have hf : tb_fa A (tb_upI (tb_upI (tb_dV (tb_upI (tb_upI (tb_dU A) 5 5 (tb_w (A.1 5 5 + A.1 86 (A.1 77 23 - 1)))) 5 9 (tb_w (A.1 5 9 - A.1 86 (A.1 77 23 - 1)))) (A.1 77 23 - 1)) 82 4 (tb_w (A.1 82 4 + A.1 86 (A.1 77 23 - 1)))) 82 8 (tb_w (A.1 82 8 - A.1 86 (A.1 77 23 - 1)))) := by
        unfold tb_dV
        refine tb_fr.upI ?_ rfl
        refine tb_fr.upI ?_ rfl
        refine tb_fr.upI ?_ rfl
        refine tb_fr.upI ?_ rfl
        refine tb_fr.upI ?_ rfl
        refine tb_fr.upI ?_ rfl
        refine tb_fr.upI ?_ rfl
        exact fU
      have e82 : ∀ k, k ≠ 4 → k ≠ 8 → (tb_upI (tb_upI (tb_dV (tb_upI (tb_upI (tb_dU A) 5 5 (tb_w (A.1 5 5 + A.1 86 (A.1 77 23 - 1)))) 5 9 (tb_w (A.1 5 9 - A.1 86 (A.1 77 23 - 1)))) (A.1 77 23 - 1)) 82 4 (tb_w (A.1 82 4 + A.1 86 (A.1 77 23 - 1)))) 82 8 (tb_w (A.1 82 8 - A.1 86 (A.1 77 23 - 1)))).1 82 k = A.1 82 k := fun k hk hl => by simp [tb_dU, tb_dV, tb_uI1, hk, hl]
      refine h.pop t0 hn' hf rfl rfl rfl rfl rfl rfl rfl rfl rfl rfl rfl rfl ?_ (fun j a b => e82 _ (by omega) (by omega)) (fun j a b _ => e82 _ (by omega) (by omega)) (fun q => by omega)
      refine L.act hf (fun k k4 k8 _ _ _ _ => e82 k k4 k8) (fun k _ k5 k9 _ => by simp [tb_dU, tb_dV, tb_uI1, k5, k9]) rfl rfl rfl ⟨?_, tb_i32 _⟩ ⟨?_, tb_i32 _⟩ ⟨?_, ?_⟩ ⟨L.tf, fun j a b => ?_⟩ (fun j a b => ?_) (fun j a b => ?_) (fun j a b c => ?_)
      · show tb_w (A.1 5 5 + A.1 86 (A.1 77 23 - 1)) = tb_w (A.1 82 4 + A.1 86 (A.1 77 23 - 1))
        rw [s.2.2.2.2.2.1]
      · show tb_w (A.1 5 9 - A.1 86 (A.1 77 23 - 1)) = tb_w (A.1 82 8 - A.1 86 (A.1 77 23 - 1))
        rw [s.2.2.2.2.2.2.2.2.2]
      · rw [e82 _ (by omega) (by omega)]; exact s.2.1
      · rw [e82 _ (by omega) (by omega)]; exact z.2.2.2.2.2.2.2.2.2.2
      · rw [e82 _ (by omega) (by omega)]; exact ⟨L.tie a b, (L.s15 a b).2⟩
      · rw [e82 _ (by omega) (by omega)]; exact ⟨L.ho a b, (L.s27 a b).2⟩
      · rw [e82 _ (by omega) (by omega)]; exact ⟨L.ba a b, (L.s35 a b).2⟩
      · rw [e82 _ (by omega) (by omega)]; exact L.th a b c
    · intro k
      have y : A.1 84 (A.1 77 23 - 1) = 3 ∧ A.1 19 ((A.1 17 3 + 29) % 30) = A.1 85 (A.1 77 23 - 1) ∧ A.1 20 ((A.1 17 3 + 29) % 30) = A.1 86 (A.1 77 23 - 1) ∧ (0 ≤ A.1 85 (A.1 77 23 - 1) ∧ A.1 85 (A.1 77 23 - 1) < A.1 80 112) ∧ (0 ≤ A.1 86 (A.1 77 23 - 1) ∧ A.1 86 (A.1 77 23 - 1) ≤ 9) := by
        rcases g.2 with y | y | y | y
        · omega
        · omega
        · omega
        · exact y
      rw [y.2.1, y.2.2.1]
      refine ⟨hlb, ?_⟩
      rw [e99 y.2.2.2.1.1 (by omega)]
      refine G _ rfl rfl rfl rfl rfl ⟨fun q => by omega, fun q => by omega, fun q => by omega, fun _ => ⟨by omega, ?_⟩⟩
      show tb_Rel (tb_upI (tb_upI (tb_dV (tb_upI (tb_upI (tb_dU A) 9 (A.1 85 (A.1 77 23 - 1)) (A.1 86 (A.1 77 23 - 1))) 5 9 (tb_w (A.1 5 9 - 1))) (A.1 77 23 - 1)) 82 (43 + A.1 85 (A.1 77 23 - 1)) (A.1 86 (A.1 77 23 - 1))) 82 8 (tb_w (A.1 82 8 - 1)))
      have hf : tb_fa A (tb_upI (tb_upI (tb_dV (tb_upI (tb_upI (tb_dU A) 9 (A.1 85 (A.1 77 23 - 1)) (A.1 86 (A.1 77 23 - 1))) 5 9 (tb_w (A.1 5 9 - 1))) (A.1 77 23 - 1)) 82 (43 + A.1 85 (A.1 77 23 - 1)) (A.1 86 (A.1 77 23 - 1))) 82 8 (tb_w (A.1 82 8 - 1))) := by
        unfold tb_dV
        refine tb_fr.upI ?_ rfl
        refine tb_fr.upI ?_ rfl
        refine tb_fr.upI ?_ rfl
        refine tb_fr.upI ?_ rfl
        refine tb_fr.upI ?_ rfl
        refine tb_fr.upI ?_ rfl
        refine tb_fr.upI ?_ rfl
        exact fU
      have e82 : ∀ k, k ≠ 8 → k ≠ 43 + A.1 85 (A.1 77 23 - 1) → (tb_upI (tb_upI (tb_dV (tb_upI (tb_upI (tb_dU A) 9 (A.1 85 (A.1 77 23 - 1)) (A.1 86 (A.1 77 23 - 1))) 5 9 (tb_w (A.1 5 9 - 1))) (A.1 77 23 - 1)) 82 (43 + A.1 85 (A.1 77 23 - 1)) (A.1 86 (A.1 77 23 - 1))) 82 8 (tb_w (A.1 82 8 - 1))).1 82 k = A.1 82 k := fun k hk hl => by simp [tb_dU, tb_dV, tb_uI1, hk, hl]
      have e82' : (tb_upI (tb_upI (tb_dV (tb_upI (tb_upI (tb_dU A) 9 (A.1 85 (A.1 77 23 - 1)) (A.1 86 (A.1 77 23 - 1))) 5 9 (tb_w (A.1 5 9 - 1))) (A.1 77 23 - 1)) 82 (43 + A.1 85 (A.1 77 23 - 1)) (A.1 86 (A.1 77 23 - 1))) 82 8 (tb_w (A.1 82 8 - 1))).1 82 (43 + A.1 85 (A.1 77 23 - 1)) = A.1 86 (A.1 77 23 - 1) := by
        have : ¬ (43 + A.1 85 (A.1 77 23 - 1) = 8) := by omega
        simp [tb_uI1, this]
      refine h.pop t0 hn' hf rfl rfl rfl rfl rfl rfl rfl rfl rfl rfl rfl rfl ?_ (fun j a b => e82 _ (by omega) (by omega)) (fun j a b _ => e82 _ (by omega) (by omega)) (fun q => by omega)
      refine L.act hf (fun k _ k8 _ _ _ k43 => e82 k k8 (by omega)) (fun k _ _ k9 _ => by simp [tb_dU, tb_dV, tb_uI1, k9]) rfl rfl rfl ⟨?_, ?_⟩ ⟨?_, tb_i32 _⟩ ⟨?_, ?_⟩ ⟨L.tf, fun j a b => ?_⟩ (fun j a b => ?_) (fun j a b => ?_) (fun j a b c => ?_)
      · rw [e82 _ (by omega) (by omega)]; exact s.2.2.2.2.2.1
      · rw [e82 _ (by omega) (by omega)]; exact z.2.2.2.2.1
      · show tb_w (A.1 5 9 - 1) = tb_w (A.1 82 8 - 1)
        rw [s.2.2.2.2.2.2.2.2.2]
      · rw [e82 _ (by omega) (by omega)]; exact s.2.1
      · rw [e82 _ (by omega) (by omega)]; exact z.2.2.2.2.2.2.2.2.2.2
      · rw [e82 _ (by omega) (by omega)]; exact ⟨L.tie a b, (L.s15 a b).2⟩
      · rw [e82 _ (by omega) (by omega)]; exact ⟨L.ho a b, (L.s27 a b).2⟩
      · by_cases e : j = A.1 85 (A.1 77 23 - 1)
        · rw [e, e82']
          exact ⟨by simp [tb_dV, tb_uI1], y.2.2.2.2⟩
        · rw [e82 _ (by omega) (by omega)]
          refine ⟨?_, (L.s35 a b).2⟩
          rw [← L.ba a b]
          simp [tb_dU, tb_dV, tb_uI1, e]
      · rw [e82 _ (by omega) (by omega)]; exact L.th a b c
end TBUNDO
