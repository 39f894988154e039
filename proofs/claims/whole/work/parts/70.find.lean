/-! STEER 3: the class's way -/
section TEFIND
variable {X : tb_X} {A B C : tb_H} {K : Int → tb_H → Prop} {Kv : tb_H → Prop}
def te_ac (P t : Int) : Int := td_sp (P / 8) ((P % 8 + t + 7) % 8)
theorem te_spB {c g : Int} (c0 : 0 ≤ c) (c1 : c < 100) (g0 : 0 ≤ g) (g1 : g < 8) : 0 ≤ td_sp c g ∧ td_sp c g < 800 := by
  have b := tb_wB (x := c % 10) (y := c / 10) (h := g) (by omega) (by omega) (by omega) (by omega) g0 (by omega)
  unfold td_sp
  omega
theorem te_acB {P t : Int} (p0 : 0 ≤ P) (p1 : P < 800) : 0 ≤ te_ac P t ∧ te_ac P t < 800 := te_spB (by omega) (by omega) (by omega) (by omega)
theorem te88 {c g : Int} (c0 : 0 ≤ c) (c1 : c < 100) (g0 : 0 ≤ g) (g1 : g < 8) : tb_Ci X 88 [tb_i (c * 8 + g)] A K = K (td_sp c g) A := by
  have e := e88 (X := X) (A := A) (K := K) (x := c % 10) (y := c / 10) (h := g) (by omega) (by omega) (by omega) (by omega) g0 (by omega)
  rw [show (c / 10 * 10 + c % 10) * 8 + g = c * 8 + g by omega] at e
  exact e
theorem e145 {x : Int} (h0 : 0 ≤ x) (h1 : x < 800) : tb_Ci X 145 [tb_r 32, tb_i x] A K = K (A.1 35 x) A := tb_dei (q145 (by rw [if_neg (by omega), if_pos h1]; exact ⟨rfl, rfl⟩))
theorem e147 {x : Int} (h0 : 0 ≤ x) (h1 : x < 40) : tb_Ci X 147 [tb_r 32, tb_i x] A K = K (A.1 37 x) A := tb_dei (q147 (by rw [if_neg (by omega), if_pos h1]; exact ⟨rfl, rfl⟩))
/-- a row filled -/
theorem te_fillI {q n : Nat} (hq : tb_kd q = (1, n, [0])) (hn : (n : Int) ≤ 100000) {v : Int} (k : ∀ B, tb_fr [q] [] [] A B → (∀ j : Int, 0 ≤ j → j < n → B.1 q j = v) → Kv B) : tb_Cv X 9 [tb_r q, tb_i v] A Kv := by
  refine q9 hq ?_
  have key := tb_lp (n := (n : Int)) (E := fun i => ∀ B, tb_fr [q] [] [] A B → (∀ j, 0 ≤ j → j < i → B.1 q j = v) → tb_E X 9 5 [tb_r q, tb_i v, tb_i i, tb_i (n : Int)] [] B (tb_Rv 9 Kv)) (by omega) ?_ ?_
  · exact key A tb_fr.refl (fun j j0 j1 => absurd j1 (by omega))
  · intro B f h
    exact q9_5 hq ⟨fun _ => k B f h, fun q => absurd q (by omega)⟩
  · intro i i0 i1 ih B f h
    refine q9_5 hq ⟨fun q => absurd q (by omega), fun _ => ⟨⟨i0, i1⟩, ?_⟩⟩
    rw [tb_w_id (x := i + 1) (by omega) (by omega)]
    refine ih _ (tb_fr.upI f (by simp)) (fun j j0 j1 => ?_)
    by_cases e : j = i
    · rw [e, tb_uI_s]
    · rw [tb_uI_k e]; exact h j j0 (by omega)
def te_S7 : List Nat := [33, 34, 35, 36, 37]
def te_F7 : List (Nat × Int) := [(32, 5)]
theorem sp144 {al : Int → Prop} {s0 i0 n g : Int} {G : Int → Int} (Q : te_Q 40 al te_ac s0 i0 0 n (B.1 36) (B.1 35) (B.1 33) (B.1 34) G) (g0 : 0 ≤ g) (g1 : g < n) (k : ∀ C, tb_fr [37] [] [] B C → (∀ i, 0 ≤ i → i < B.1 35 (B.1 36 g) → C.1 37 i = te_tn (B.1 35 (B.1 36 g)).toNat (G g) i) → K (B.1 35 (B.1 36 g)) C) : tb_Ci X 144 [tb_r 32, tb_i (B.1 36 g)] B K := by
  obtain ⟨h1, h2, h3, h4, h5, h6, h7, h8, h9⟩ := Q
  have gg := h3 g g0 g1
  refine q144 ?_
  rw [e145 gg.1.1 gg.1.2, tb_w_id (x := B.1 35 (B.1 36 g) - 1) (by omega) (by omega)]
  have key := tb_ld (n := B.1 35 (B.1 36 g)) (E := fun i => ∀ (C : tb_H) (j : Int), tb_fr [37] [] [] B C → (0 ≤ j ∧ j < n) → B.1 35 (B.1 36 j) = i + 1 → (∀ k, 0 ≤ k → k ≤ i → te_tn (B.1 35 (B.1 36 g)).toNat (G g) k = te_tn (i + 1).toNat (G j) k) → (∀ k, i < k → k < B.1 35 (B.1 36 g) → C.1 37 k = te_tn (B.1 35 (B.1 36 g)).toNat (G g) k) → tb_E X 144 13 [tb_r 32, tb_i (B.1 36 g), tb_i (B.1 35 (B.1 36 g)), tb_i (B.1 36 j), tb_i i] [] C (tb_Ri 144 K)) gg.2.1.1 ?_ ?_
  · refine key B g tb_fr.refl ⟨g0, g1⟩ (by omega) (fun k _ _ => by rw [show B.1 35 (B.1 36 g) - 1 + 1 = B.1 35 (B.1 36 g) by omega]) (fun k a b => absurd b (by omega))
  · intro C j f _ _ _ hk
    exact q144_13 ⟨fun _ => k C f (fun i i0 i1 => hk i (by omega) i1), fun q => absurd q (by decide)⟩
  · intro i i0 i1 ih C j f j01 dj hw hk
    have jj := h3 j j01.1 j01.2
    have j1 : 1 ≤ j := by
      by_cases e : j = 0
      · have o := jj.2.2.1
        rw [dj, e, h2.2, show (i + 1).toNat = i.toNat + 1 by omega] at o
        have := te_ok_1 o.1
        omega
      · omega
    obtain ⟨p, pj, a1, a2, a3, a4⟩ := h6 j j1 j01.2
    refine q144_13 ⟨fun q => absurd q (by omega), fun _ => ⟨fun q => absurd q (by omega), fun _ => ⟨fun q => absurd q (by omega), fun _ => ⟨fun _ => ?_, fun q => absurd q (by omega)⟩⟩⟩⟩
    rw [f.1 33 _ rfl rfl, f.1 34 _ rfl rfl, a1, a2, tb_w_id (x := i + -1) (by omega) (by omega), show i + -1 = i - 1 by omega]
    have e1 : (i + 1).toNat = i.toNat + 1 := by omega
    refine ih _ p (tb_fr.upI f rfl) ⟨pj.1, by omega⟩ (by omega) (fun k k0 k1 => ?_) (fun k k0 k1 => ?_)
    · rw [hw k k0 (by omega), e1, show i - 1 + 1 = i by omega, a3]
      show (if k = i.toNat then G j % 3 else te_tn i.toNat (G j / 3) k) = _
      rw [if_neg (by omega)]
    · by_cases e : k = i
      · rw [e, tb_uI_s, hw i i0 (Int.le_refl _), e1]
        show _ = (if i = i.toNat then G j % 3 else te_tn i.toNat (G j / 3) i)
        rw [if_pos (by omega)]
      · rw [tb_uI_k e]
        exact hk k (by omega) k1
theorem sp142 (L : tb_L A) {hm goal : Int} (k : ∀ B n m, tb_fr te_S7 te_F7 [] A B → te_ST (fun t => tb_bt hm t = 1) te_ac ((A.1 82 1 * 10 + A.1 82 0) * 8 + A.1 82 2) (fun p => p / 8 = goal) n m → (∀ i, 0 ≤ i → i < n → B.1 37 i = te_tn n.toNat m i) → K n B) : tb_Ci X 142 [tb_r 32, tb_r 4, tb_i hm, tb_i goal] A K := by
  have M := L.M
  have s := M.s0
  have z0 := L.sc0
  refine q142 (te_fillI kd_35 (by decide) (fun B0 f0 h0 => ?_))
  have st : 0 ≤ (A.1 82 1 * 10 + A.1 82 0) * 8 + A.1 82 2 ∧ (A.1 82 1 * 10 + A.1 82 0) * 8 + A.1 82 2 < 800 := by omega
  rw [f0.1 5 2 rfl rfl, f0.1 5 3 rfl rfl, z0.2.2.1, z0.2.2.2.1, e87 (by omega) (by omega), show A.1 82 2 % 8 = A.1 82 2 by omega]
  refine q143 ⟨fun q => absurd q (by omega), fun _ => ⟨fun q => absurd q (by omega), fun _ => ⟨fun q => absurd ?_ q, fun _ => ⟨fun _ => ⟨by rw [tb_uI_s]; decide, ?_⟩, fun q => absurd q (by rw [tb_uI_s]; decide)⟩⟩⟩⟩
  · rw [td_upo (by decide)]
    exact h0 _ st.1 st.2
  rw [tb_uI_s, show tb_w (0 + 1) = 1 from rfl]
  have outer : ∀ (m : Nat) (i : Int), 801 ≤ i + m → ∀ (B : tb_H) (n : Int) (G : Int → Int) (j5 j6 j7 : tb_V), tb_fr te_S7 te_F7 [] A B → B.1 32 5 = n → te_Q 40 (fun t => tb_bt hm t = 1) te_ac ((A.1 82 1 * 10 + A.1 82 0) * 8 + A.1 82 2) i 0 n (B.1 36) (B.1 35) (B.1 33) (B.1 34) G → (∀ j, 0 ≤ j → j < i → ¬ B.1 36 j / 8 = goal) → tb_E X 142 40 [tb_r 32, tb_r 4, tb_i hm, tb_i goal, tb_i i, j5, j6, j7] [] B (tb_Ri 142 K) := by
    intro m
    induction m with
    | zero =>
      intro i im B n G j5 j6 j7 fB hn Q ng
      have := Q.1
      omega
    | succ m ih =>
      intro i im B n G j5 j6 j7 fB hn Q ng
      have q1 := Q.1
      by_cases c : n ≤ i
      · exact q142_40 ⟨fun _ => k B (-2) 0 fB (Q.none (Gl := fun p => p / 8 = goal) c ng 0) (fun i i0 i1 => absurd i1 (by omega)), fun q => absurd q (by omega)⟩
      · have ii := Q.2.2.1 i q1.2.1 (by omega)
        refine q142_40 ⟨fun q => absurd q (by omega), fun _ => ⟨fun q => absurd q (by omega), fun _ => ⟨⟨by omega, by omega⟩, ?_⟩⟩⟩
        rw [e90 ii.1.1 (by omega)]
        refine ⟨fun ne => ?_, fun e => ?_⟩
        · rw [e145 ii.1.1 ii.1.2]
          have ng' : ∀ j, 0 ≤ j → j < i + 1 → ¬ B.1 36 j / 8 = goal := by
            intro j j0 j1
            by_cases e : j = i
            · rw [e]; exact ne
            · exact ng j j0 (by omega)
          refine ⟨fun d4 => ?_, fun d4 => ?_⟩
          · have inner := tb_lp (n := 3) (E := fun t => ∀ (C : tb_H) (n : Int) (G : Int → Int) (j7 : tb_V), tb_fr te_S7 te_F7 [] A C → C.1 32 5 = n → te_Q 40 (fun t => tb_bt hm t = 1) te_ac ((A.1 82 1 * 10 + A.1 82 0) * 8 + A.1 82 2) i t n (C.1 36) (C.1 35) (C.1 33) (C.1 34) G → i < n → C.1 36 i = B.1 36 i → C.1 35 (B.1 36 i) < 40 → (∀ j, 0 ≤ j → j < i + 1 → ¬ C.1 36 j / 8 = goal) → tb_E X 142 101 [tb_r 32, tb_r 4, tb_i hm, tb_i goal, tb_i i, tb_i (B.1 36 i), tb_i t, j7] [] C (tb_Ri 142 K)) (by decide) ?_ ?_
            · exact inner B n G _ fB hn Q (by omega) rfl d4 ng'
            · intro C n G j7 fC hn Q c ei _ ng
              refine q142_101 ⟨fun _ => ?_, fun q => absurd q (by decide)⟩
              rw [tb_w_id (x := i + 1) (by omega) (by omega)]
              exact ih (i + 1) (by omega) C n G _ _ _ fC hn (Q.next c (by decide) (Or.inl rfl)) ng
            · intro t t0 t1 iht C n G j7 fC hn Q c ei di ng
              refine q142_101 ⟨fun q => absurd q (by omega), fun _ => ⟨fun a => ?_, fun a => ?_⟩⟩
              · have al : tb_bt hm t = 1 := by
                  rcases tb_bt01 hm t with z | z
                  · exact absurd z a
                  · exact z
                rw [e89, e86 (by omega) (by omega) t0 (by omega), e90 ii.1.1 (by omega), e87 (by omega) (by omega), show ((B.1 36 i % 8 + t + 7) % 8) % 8 = (B.1 36 i % 8 + t + 7) % 8 by omega, te88 (by omega) (by omega) (by omega) (by omega), e145 ii.1.1 ii.1.2]
                rw [tb_w_id (x := t + 1) (by omega) (by omega)]
                have pb := te_acB (t := t) ii.1.1 ii.1.2
                have pe : te_ac (C.1 36 i) t = td_sp (B.1 36 i / 8) ((B.1 36 i % 8 + t + 7) % 8) := by rw [ei]; rfl
                have cc := Q.2.2.1 i q1.2.1 c
                rw [ei] at cc
                rw [tb_w_id (x := C.1 35 (B.1 36 i) + 1) (by omega) (by omega)]
                have pb' : 0 ≤ td_sp (B.1 36 i / 8) ((B.1 36 i % 8 + t + 7) % 8) ∧ td_sp (B.1 36 i / 8) ((B.1 36 i % 8 + t + 7) % 8) < 800 := pb
                refine q143 ⟨fun q => absurd q (by omega), fun _ => ⟨fun q => absurd q (by omega), fun _ => ⟨fun v => ?_, fun v => ?_⟩⟩⟩
                · exact iht C n G _ fC hn (Q.seen c (by rw [pe]; exact pb'.1) (by rw [pe]; exact pb'.2) (by rw [pe]; exact v)) c ei di ng
                · have pu := Q.push c t0 (by omega) al (by rw [ei]; exact di) pe.symm pb'.1 pb'.2 v
                  rw [hn]
                  refine ⟨fun _ => ⟨⟨by omega, pu.1⟩, ?_⟩, fun q => absurd q (by omega)⟩
                  rw [tb_w_id (x := n + 1) (by omega) (by omega)]
                  have neP : B.1 36 i ≠ td_sp (B.1 36 i / 8) ((B.1 36 i % 8 + t + 7) % 8) := by
                    intro e
                    rw [← e] at v
                    omega
                  refine iht _ (n + 1) (td_up G n (3 * G i + t)) _ (tb_fr.upI (tb_fr.upI (tb_fr.upI (tb_fr.upI (tb_fr.upI fC rfl) rfl) rfl) rfl) rfl) tb_uI_s ?_ (by omega) ?_ ?_ ?_
                  · rw [td_upo (show 36 ≠ 32 by decide), td_upi, td_upo (show 36 ≠ 34 by decide), td_upo (show 36 ≠ 33 by decide), td_upo (show 36 ≠ 35 by decide), td_upo (show 35 ≠ 32 by decide), td_upo (show 35 ≠ 36 by decide), td_upo (show 35 ≠ 34 by decide), td_upo (show 35 ≠ 33 by decide), td_upi, td_upo (show 33 ≠ 32 by decide), td_upo (show 33 ≠ 36 by decide), td_upo (show 33 ≠ 34 by decide), td_upi, td_upo (show 33 ≠ 35 by decide), td_upo (show 34 ≠ 32 by decide), td_upo (show 34 ≠ 36 by decide), td_upi, td_upo (show 34 ≠ 33 by decide), td_upo (show 34 ≠ 35 by decide)]
                    have pu2 := pu.2
                    rw [ei] at pu2
                    exact pu2
                  · rw [td_upo (by decide), tb_uI_k (by omega), td_upo (by decide), td_upo (by decide), td_upo (by decide)]; exact ei
                  · rw [td_upo (by decide), td_upo (by decide), td_upo (by decide), td_upo (by decide), tb_uI_k neP]; exact di
                  · intro j j0 j1
                    rw [td_upo (by decide), tb_uI_k (by omega), td_upo (by decide), td_upo (by decide), td_upo (by decide)]
                    exact ng j j0 j1
              · rw [tb_w_id (x := t + 1) (by omega) (by omega)]
                refine iht C n G _ fC hn (Q.skip (fun q => ?_)) c ei di ng
                have a' : tb_bt hm t = 0 := a
                rw [q] at a'
                exact absurd a' (by decide)
          · rw [tb_w_id (x := i + 1) (by omega) (by omega)]
            exact ih (i + 1) (by omega) B n G _ _ _ fB hn (Q.next (by omega) (by decide) (Or.inr (by omega))) ng'
        · have hit := Q.hit (Gl := fun p => p / 8 = goal) (by omega) ng e
          refine sp144 Q q1.2.1 (by omega) (fun C fC hC => k C _ (G i) (fB.trans (fC.mono rfl rfl rfl)) hit hC)
  refine outer 801 0 (by decide) _ 1 (fun _ => 1) _ _ _ (tb_fr.upI (tb_fr.upI (tb_fr.upI (tb_fr.upI (tb_fr.upI (tb_fr.upI (f0.mono rfl rfl rfl) rfl) rfl) rfl) rfl) rfl) rfl) tb_uI_s ?_ (fun j j0 j1 => absurd j1 (by omega))
  refine te_Q.z (by decide) st.1 st.2 ?_ (fun s s0 s1 ne => ?_) ?_
  · rw [td_upo (by decide), td_upo (by decide), td_upo (by decide), td_upo (by decide), tb_uI_s]
  · rw [td_upo (by decide), td_upo (by decide), td_upo (by decide), td_upo (by decide), tb_uI_k ne, td_upo (by decide)]
    exact h0 s s0 s1
  · rw [td_upo (by decide), tb_uI_s]
end TEFIND
