/-! READER 15: the lines, to the last -/
section TEREAD
variable {X : tb_X} {A B A0 B0 : tb_H} {K : Int → tb_H → Prop} {Kv : tb_H → Prop}
variable {n : Int} {b : Nat} {N x1 : Int}
def te_ta (X : tb_X) (x1 : Int) (A : tb_H) (K : Int → tb_H → Prop) : Prop := ((A.1 77 13) ≠ 0 → ((A.1 77 13) = 0 → tb_E X 200 189 [tb_r 77, tb_i x1, tb_i 0] [] A (tb_Ri 200 K)) ∧ ((A.1 77 13) ≠ 0 → tb_Ci X 203 [tb_r 77, tb_i 4] A (fun v10200 A10199 => K v10200 A10199))) ∧ ((A.1 77 13) = 0 → ((A.1 81 110) = 0 → tb_Cv X 211 [tb_r 77, tb_i 6, tb_i (A.1 77 4)] A (fun A10207 => ((A10207.1 77 13) = 0 → tb_E X 200 189 [tb_r 77, tb_i x1, tb_i 0] [] A10207 (tb_Ri 200 K)) ∧ ((A10207.1 77 13) ≠ 0 → tb_Ci X 203 [tb_r 77, tb_i 4] A10207 (fun v10213 A10212 => K v10213 A10212)))) ∧ ((A.1 81 110) ≠ 0 → ((A.1 81 111) = 0 → tb_Cv X 211 [tb_r 77, tb_i 6, tb_i (A.1 77 4)] A (fun A10221 => ((A10221.1 77 13) = 0 → tb_E X 200 189 [tb_r 77, tb_i x1, tb_i 0] [] A10221 (tb_Ri 200 K)) ∧ ((A10221.1 77 13) ≠ 0 → tb_Ci X 203 [tb_r 77, tb_i 4] A10221 (fun v10227 A10226 => K v10227 A10226)))) ∧ ((A.1 81 111) ≠ 0 → ((A.1 81 112) ≠ 0 → ((A.1 77 13) = 0 → tb_E X 200 189 [tb_r 77, tb_i x1, tb_i 0] [] A (tb_Ri 200 K)) ∧ ((A.1 77 13) ≠ 0 → tb_Ci X 203 [tb_r 77, tb_i 4] A (fun v10241 A10240 => K v10241 A10240))) ∧ ((A.1 81 112) = 0 → tb_Cv X 211 [tb_r 77, tb_i 6, tb_i (A.1 77 4)] A (fun A10243 => ((A10243.1 77 13) = 0 → tb_E X 200 189 [tb_r 77, tb_i x1, tb_i 0] [] A10243 (tb_Ri 200 K)) ∧ ((A10243.1 77 13) ≠ 0 → tb_Ci X 203 [tb_r 77, tb_i 4] A10243 (fun v10249 A10248 => K v10249 A10248)))))))
/-- how the reference goes on -/
def te_go (X : tb_X) (x1 : Int) (A : tb_H) (K : Int → tb_H → Prop) : Prop := (A.1 77 13 ≠ 0 → tb_Ci X 203 [tb_r 77, tb_i 4] A K) ∧ (A.1 77 13 = 0 → tb_E X 200 189 [tb_r 77, tb_i x1, tb_i 0] [] A (tb_Ri 200 K))
theorem te_F2f {x y : Int} : (te_F2 B x y).1 77 13 ≠ 0 := by
  rw [tb_uI_k (by decide), tb_uI_k (by decide), tb_uI_s]
  decide
theorem te_taF (f : B.1 77 13 ≠ 0) (h : te_go X x1 B K) : te_ta X x1 B K := ⟨fun _ => ⟨fun q => absurd q f, fun _ => h.1 f⟩, fun q => absurd q f⟩
theorem te_taL (f : B.1 77 13 = 0) (l : B.1 81 110 = 0 ∨ B.1 81 111 = 0 ∨ B.1 81 112 = 0) (h : te_go X x1 (te_F2 B 6 (B.1 77 4)) K) : te_ta X x1 B K := by
  have g := h.1 te_F2f
  refine ⟨fun q => absurd f q, fun _ => ⟨fun _ => ?_, fun n0 => ⟨fun _ => ?_, fun n1 => ⟨fun n2 => ?_, fun _ => ?_⟩⟩⟩⟩
  · rw [te211 f]
    exact ⟨fun q => absurd q te_F2f, fun _ => g⟩
  · rw [te211 f]
    exact ⟨fun q => absurd q te_F2f, fun _ => g⟩
  · rcases l with l | l | l
    · exact absurd l n0
    · exact absurd l n1
    · exact absurd l n2
  · rw [te211 f]
    exact ⟨fun q => absurd q te_F2f, fun _ => g⟩
theorem te_taO (f : B.1 77 13 = 0) (l0 : B.1 81 110 ≠ 0) (l1 : B.1 81 111 ≠ 0) (l2 : B.1 81 112 ≠ 0) (h : te_go X x1 B K) : te_ta X x1 B K := ⟨fun q => absurd f q, fun _ => ⟨fun q => absurd q l0, fun _ => ⟨fun q => absurd q l1, fun _ => ⟨fun _ => ⟨fun _ => h.2 f, fun q => absurd f q⟩, fun q => absurd q l2⟩⟩⟩⟩
theorem te_q77 {x2 : Int} (h1 : B.1 77 13 ≠ 0 → te_ta X x1 B K) (h2 : B.1 77 13 = 0 → B.1 77 6 = 0 → te_ta X x1 B K) (h3 : B.1 77 13 = 0 → B.1 77 6 ≠ 0 → B.1 77 6 ≠ 59 → te_ta X x1 (te_F2 B 1 (B.1 77 4)) K) (h4 : B.1 77 13 = 0 → B.1 77 6 = 59 → tb_Cv X 204 [tb_r 77] B (fun B1 => tb_Cv X 208 [tb_r 77] B1 (fun B2 => tb_E X 200 77 [tb_r 77, tb_i x1, tb_i x2] [] B2 (tb_Ri 200 K)))) : tb_E X 200 77 [tb_r 77, tb_i x1, tb_i x2] [] B (tb_Ri 200 K) := by
  refine q200_77 ⟨fun f => ⟨fun _ => h1 f, fun q => absurd q f⟩, fun f => ⟨fun s => ⟨fun q => absurd f q, fun _ => ⟨fun z => h2 f z, fun z => ?_⟩⟩, fun s => h4 f s⟩⟩
  rw [te211 f]
  exact h3 f z s
def te_e47 (X : tb_X) (b : Nat) (A : tb_H) (K : Int → tb_H → Prop) : Prop := tb_Ci X 47 [tb_r b] A (fun v A' => (v = 0 → K (A'.1 1 10) A') ∧ (v ≠ 0 → tb_Cv X 26 [tb_r 1, tb_i 6] A' (fun A'' => K (A''.1 1 10) A'')))
theorem te47 (hb : tb_isB b) : tb_Ci X 47 [tb_r b] A K = K (if A.1 (b + 1) 0 = 0 then 1 else if A.1 (b + 1) 1 = 0 then 1 else if A.1 (b + 1) 2 ≠ 0 then 0 else 1) A := by
  refine tb_dei (q47 hb ?_)
  rw [e28g hb (by decide) (by decide)]
  refine ⟨fun q => ?_, fun q => ?_⟩
  · rw [if_pos q]
    exact ⟨rfl, rfl⟩
  · rw [if_neg q, e28g hb (by decide) (by decide)]
    refine ⟨fun q => ?_, fun q => ?_⟩
    · rw [if_pos q]
      exact ⟨rfl, rfl⟩
    · rw [if_neg q, e28g hb (by decide) (by decide)]
      exact ⟨rfl, rfl⟩
theorem te47F (hb : tb_isB b) (f : A.1 1 10 ≠ 0) (k : K (A.1 1 10) A) : te_e47 X b A K := by
  unfold te_e47
  rw [te47 hb, te26x f]
  exact ⟨fun _ => k, fun _ => k⟩
theorem te47L (hb : tb_isB b) (f : A.1 1 10 = 0) (l : A.1 (b + 1) 0 = 0 ∨ A.1 (b + 1) 1 = 0 ∨ A.1 (b + 1) 2 = 0) (k : K ((te_F1 A 6).1 1 10) (te_F1 A 6)) : te_e47 X b A K := by
  unfold te_e47
  rw [te47 hb, te26 f]
  have e : (if A.1 (b + 1) 0 = 0 then (1 : Int) else if A.1 (b + 1) 1 = 0 then 1 else if A.1 (b + 1) 2 ≠ 0 then 0 else 1) = 1 := by
    (repeat' split) <;> first | rfl | (exfalso; rcases l with l | l | l <;> contradiction)
  rw [e]
  exact ⟨fun q => absurd q (by decide), fun _ => k⟩
theorem te47O (hb : tb_isB b) (l0 : A.1 (b + 1) 0 ≠ 0) (l1 : A.1 (b + 1) 1 ≠ 0) (l2 : A.1 (b + 1) 2 ≠ 0) (k : K (A.1 1 10) A) : te_e47 X b A K := by
  unfold te_e47
  rw [te47 hb, if_neg l0, if_neg l1, if_pos l2]
  exact ⟨fun _ => k, fun q => absurd rfl q⟩
theorem te_lineN (L0 : te_L0 n b N A B) (hb : tb_isB b) (k1 : A.1 1 5 ≠ 1) : ∃ A' B', (∀ K : tb_H → Prop, K A' → tb_Cv X 17 [tb_r 1, tb_r b] A K) ∧ (∀ K : tb_H → Prop, K B' → tb_Cv X 208 [tb_r 77] B K) ∧ te_fc b A A' ∧ te_fm B B' ∧ te_Fl A' B' := by
  have f0 := L0.1
  have tk := L0.2.2.1
  have e := te_FlN (b := b) f0 tk.1
  have nt : B.1 77 6 ≠ 2 := by
    rcases tk.2 with t | t | ⟨_, t | t | t⟩
    · rw [t.2]; decide
    · rw [t.2]; decide
    · exact absurd t.1 k1
    · rw [t.2.1]; decide
    · intro q
      rcases t.2.2 with h | h <;> omega
  exact ⟨_, _, fun K k => te17n hb f0.1 (by rw [if_neg k1]) k, fun K k => q208 (te209t te_w127 nt ⟨fun _ => te209t te_w141 nt ⟨fun _ => te209t te_w147 nt ⟨fun _ => te209t te_w149 nt ⟨fun _ => te209t te_w151 nt ⟨fun _ => te209t te_w153 nt ⟨fun _ => te209t te_w155 nt ⟨fun _ => te209t te_w157 nt ⟨fun _ => te209t te_w159 nt ⟨fun _ => te209t te_w161 nt ⟨fun _ => by rw [te211 f0.2]; exact k, fun q => absurd rfl q⟩, fun q => absurd rfl q⟩, fun q => absurd rfl q⟩, fun q => absurd rfl q⟩, fun q => absurd rfl q⟩, fun q => absurd rfl q⟩, fun q => absurd rfl q⟩, fun q => absurd rfl q⟩, fun q => absurd rfl q⟩, fun q => absurd rfl q⟩), e.1, e.2.1, e.2.2⟩
theorem te_FlN6 (f0 : A.1 1 10 = 0 ∧ B.1 77 13 = 0) (h6 : A.1 1 6 = B.1 77 4) : te_fc b A (te_F1 A 6) ∧ te_fm B (te_F2 B 6 (B.1 77 4)) ∧ te_Fl (te_F1 A 6) (te_F2 B 6 (B.1 77 4)) := ⟨te_fc.upI (te_fc.upI te_fc.refl rfl) rfl, tb_fr.upI (tb_fr.upI (tb_fr.upI tb_fr.refl rfl) rfl) rfl, te_Fl.mk (by decide) h6⟩
/-- all is told -/
def te_Al (n : Int) (b : Nat) (A B : tb_H) : Prop := (∃ N, te_L0 n b N A B) ∧ B.1 81 110 ≠ 0 ∧ B.1 81 111 ≠ 0 ∧ B.1 81 112 ≠ 0
/-- at the end of all lines -/
theorem te_ends (hb : tb_isB b) (L0 : te_L0 n b N A B) : ∃ A' B', (∀ K, K (A'.1 1 10) A' → te_e47 X b A K) ∧ (∀ K, te_go X x1 B' K → te_ta X x1 B K) ∧ te_fc b A A' ∧ te_fm B B' ∧ (te_Fl A' B' ∨ te_Al n b A' B') := by
  have f0 := L0.1
  have rb := L0.2.2.2.2.2.1.1
  have r0 : A.1 (b + 1) 0 = B.1 81 110 := rb 0 (by decide) (by decide)
  have r1 : A.1 (b + 1) 1 = B.1 81 111 := rb 1 (by decide) (by decide)
  have r2 : A.1 (b + 1) 2 = B.1 81 112 := rb 2 (by decide) (by decide)
  by_cases l : B.1 81 110 = 0 ∨ B.1 81 111 = 0 ∨ B.1 81 112 = 0
  · have e := te_FlN6 (b := b) f0 L0.2.2.1.1
    exact ⟨_, _, fun K k => te47L hb f0.1 (by rw [r0, r1, r2]; exact l) k, fun K k => te_taL f0.2 l k, e.1, e.2.1, Or.inl e.2.2⟩
  · have l0 : B.1 81 110 ≠ 0 := fun q => l (Or.inl q)
    have l1 : B.1 81 111 ≠ 0 := fun q => l (Or.inr (Or.inl q))
    have l2 : B.1 81 112 ≠ 0 := fun q => l (Or.inr (Or.inr q))
    exact ⟨A, B, fun K k => te47O hb (by rw [r0]; exact l0) (by rw [r1]; exact l1) (by rw [r2]; exact l2) k, fun K k => te_taO f0.2 l0 l1 l2 k, te_fc.refl, tb_fr.refl, Or.inr ⟨⟨N, L0⟩, l0, l1, l2⟩⟩
theorem te_L0.fr {A' B' : tb_H} (hb : tb_isB b) (h : te_L0 n b N A B) (f : te_f1 A A') (g : te_f7 B B') (tk : te_Tk n A' B') : te_L0 n b N A' B' := by
  have b5 := te_b5 hb
  obtain ⟨f0, T, _, nm, hN, rb, bb⟩ := h
  have e81 : B'.1 81 = B.1 81 := funext fun k => g.1 81 k rfl rfl
  have oA : ∀ o, o ≠ 1 → A'.1 o = A.1 o := fun o ho => funext fun k => f.1 o k ho
  have oL : A'.2.1 (b + 3) = A.2.1 (b + 3) := funext fun k => f.2.2.1 (b + 3) k (by omega)
  refine ⟨⟨by rw [f.2.1 10 (by decide) (by decide) (by decide)]; exact f0.1, by rw [g.1 77 13 rfl rfl]; exact f0.2⟩, T.fr f g, tk, ?_, by rw [e81]; exact hN, ?_, by rw [e81]; exact bb⟩
  · unfold te_Nm at nm ⊢
    rw [e81, oA b (by omega), oA (b + 4) (by omega), oL]
    exact nm
  · unfold tb_rb at rb ⊢
    rw [e81, oA (b + 1) (by omega), oA (b + 2) (by omega)]
    exact rb
/-- the loops of both, from a line's first token on -/
def te_LP (X : tb_X) (n : Int) (b : Nat) (x0 x1 x2 x3 : Int) (A B : tb_H) : Prop := ∃ A' B', (∀ K, K (A'.1 1 10) A' → tb_E X 7 42 [tb_r 1, tb_i x0, tb_r b, tb_i x3] [] A (tb_Ri 7 K)) ∧ (∀ K, te_go X x1 B' K → tb_Cv X 208 [tb_r 77] B (fun B2 => tb_E X 200 77 [tb_r 77, tb_i x1, tb_i x2] [] B2 (tb_Ri 200 K))) ∧ te_fc b A A' ∧ te_fm B B' ∧ (te_Fl A' B' ∨ te_Al n b A' B')
theorem te_lpF (hb : tb_isB b) {x0 x2 x3 : Int} {A' B' : tb_H} (a3 : ¬ A.1 1 3 < x3) (h17 : ∀ K : tb_H → Prop, K A' → tb_Cv X 17 [tb_r 1, tb_r b] A K) (h208 : ∀ K : tb_H → Prop, K B' → tb_Cv X 208 [tb_r 77] B K) (q1 : te_fc b A A') (q2 : te_fm B B') (q3 : te_Fl A' B') : te_LP X n b x0 x1 x2 x3 A B := ⟨A', B', fun _ k => q7_42 hb ⟨fun z => absurd z a3, fun _ => h17 _ ⟨fun _ => te47F hb q3.1 k, fun z => absurd z q3.1⟩⟩, fun _ k => h208 _ (te_q77 (fun f => te_taF f k) (fun f => absurd f q3.2.1) (fun f => absurd f q3.2.1) (fun f => absurd f q3.2.1)), q1, q2, Or.inl q3⟩
theorem te_loop (hb : tb_isB b) {x0 x2 : Int} (k : Nat) : ∀ (x3 : Int) (A B : tb_H) (N : Int), x3 + k = n → 0 ≤ x3 → te_L0 n b N A B → (A.1 1 5 = 4 ∨ A.1 1 5 = 0 ∨ x3 < A.1 1 4) → te_LP X n b x0 x1 x2 x3 A B := by
  induction k with
  | zero =>
    intro x3 A B N e x30 L0 pg
    have T := L0.2.1
    by_cases k1 : A.1 1 5 = 1
    · exfalso
      rcases L0.2.2.1.2 with t | t | ⟨t, _⟩ <;> omega
    · obtain ⟨A', B', h1, h2, h3, h4, h5⟩ := te_lineN (X := X) L0 hb k1
      exact te_lpF hb (by rw [T.1.1]; omega) h1 h2 h3 h4 h5
  | succ k ih =>
    intro x3 A B N e x30 L0 pg
    have T := L0.2.1
    have a3 : ¬ A.1 1 3 < x3 := by rw [T.1.1]; omega
    by_cases k1 : A.1 1 5 = 1
    · obtain ⟨A1, B1, c1, r1, p1, m1, fl | ⟨⟨N1, L1⟩, pg1⟩⟩ := te_line (X := X) hb L0
      · exact te_lpF hb a3 c1 r1 p1 m1 fl
      · have T1 := L1.2.1
        have f1 := L1.1
        have tk1 := L1.2.2.1
        have w1 : tb_w (x3 + 1) = x3 + 1 := by
          have := T.2.1
          exact tb_w_id (by omega) (by omega)
        by_cases k4 : A1.1 1 5 = 4
        · obtain ⟨A2, B2, c2, r2, p2, m2, fin⟩ := te_ends (X := X) (x1 := x1) hb L1
          have b6 : B1.1 77 6 = 0 := by
            rcases tk1.2 with t | t | ⟨_, t | t | t⟩
            · exact t.2
            all_goals (exfalso; have := t.1; omega)
          refine ⟨A2, B2, fun K k => q7_42 hb ⟨fun z => absurd z a3, fun _ => c1 _ ⟨fun z => absurd f1.1 z, fun _ => ⟨fun z => absurd k4 z, fun _ => c2 K k⟩⟩⟩, fun K k => r1 _ (te_q77 (fun f => absurd f1.2 f) (fun _ _ => r2 K k) (fun _ z => absurd b6 z) (fun _ z => absurd z (by omega))), p1.trans p2, m1.trans m2, fin⟩
        · by_cases sg : A1.1 1 5 = 3 ∧ A1.2.1 1 7 = 59
          · have t3 : (A1.1 1 4 = B1.1 77 5 ∧ 0 ≤ A1.1 1 4 ∧ A1.1 1 4 ≤ n) ∧ B1.1 77 6 = 59 := by
              rcases tk1.2 with t | t | ⟨h4, t | t | t⟩
              · exfalso; have := t.1; omega
              · exfalso; have := t.1; omega
              · exfalso; have := t.1; omega
              · exfalso; have := t.1; omega
              · exact ⟨h4, by rw [← t.2.1]; exact sg.2⟩
            obtain ⟨A2, B2, c2, r2, g1, g7, tk2, pg2⟩ := te_next (X := X) T1 t3.1.1 t3.1.2.1 t3.1.2.2
            obtain ⟨A3, B3, c3, r3, p3, m3, fin⟩ := ih (x3 + 1) A2 B2 N1 (by omega) (by omega) (L1.fr hb g1 g7 tk2) (by
              rcases pg2 with z | z | z
              · exact Or.inl z
              · exact Or.inr (Or.inl z)
              · refine Or.inr (Or.inr ?_)
                rcases pg with y | y | y
                · omega
                · omega
                · rcases pg1 with x | x | x <;> omega)
            refine ⟨A3, B3, fun K k => q7_42 hb ⟨fun z => absurd z a3, fun _ => c1 _ ⟨fun z => absurd f1.1 z, fun _ => ⟨fun _ => q43 ?_, fun z => absurd z k4⟩⟩⟩, fun K k => r1 _ (te_q77 (fun f => absurd f1.2 f) (fun _ z => absurd z (by omega)) (fun _ _ z => absurd t3.2 z) (fun _ _ => r2 _ (r3 K k))), p1.trans (g1.c.trans p3), m1.trans ((te_fm7 g7).trans m3), fin⟩
            have l0 : tb_lcmp (A1.2.1 1 7) 59 = 0 := by rw [te_lc]; exact sg.2
            rw [if_neg (fun q => q sg.1), if_neg (fun q => q l0), w1]
            exact ⟨fun z => absurd z (by decide), fun _ => c2 _ (c3 K k)⟩
          · have nb : te_Nm b N1 (B1.1 81 112) A1 B1 := L1.2.2.2.1
            have b5 := te_b5 hb
            have z8 := te_bbc L1.2.2.2.2.2.2 (z := 8) (by decide) (by decide)
            rw [te_r8, ← L1.2.2.2.2.2.1.1 8 (by decide) (by decide)] at z8
            obtain ⟨d, hd⟩ := Int.eq_ofNat_of_zero_le z8.1
            have Fm := te_Fl.mk (A := A1) (B := B1) (x := 1) (by decide) tk1.1
            have oo : ∀ o, o ≠ 1 → (te_F1 A1 1).1 o = A1.1 o := fun o ho => by rw [td_upo ho, td_upo ho]
            have o1 : ∀ k, k ≠ 10 → k ≠ 11 → (te_F1 A1 1).1 1 k = A1.1 1 k := fun k h10 h11 => by rw [tb_uI_k h11, tb_uI_k h10]
            obtain ⟨A2, c2, q2⟩ := te17x (X := X) (n := n) (A := te_F1 A1 1) (B := B1) (N := N1) (c := d) hb Fm.1 (by rw [oo b (by omega)]; exact nb.1.1) nb.2.1 (by rw [oo (b + 1) (by omega)]; exact hd) (by omega) (by
              unfold te_tp at T1 ⊢
              rw [o1 3 (by decide) (by decide), oo 2 (by decide)]
              exact T1) (fun kk => by
              rw [o1 5 (by decide) (by decide)] at kk
              rw [o1 4 (by decide) (by decide)]
              rcases tk1.2 with t | t | ⟨h4, _⟩
              · exfalso; have := t.1; omega
              · exfalso; have := t.1; omega
              · exact h4)
            have n0 : B1.1 77 6 ≠ 0 ∧ B1.1 77 6 ≠ 59 := by
              rcases tk1.2 with t | t | ⟨h4, t | t | t⟩
              · exact absurd t.1 k4
              · omega
              · omega
              · omega
              · refine ⟨by rcases t.2.2 with h | h <;> omega, fun q => sg ⟨t.1, by rw [t.2.1]; exact q⟩⟩
            refine ⟨A2, te_F2 B1 1 (B1.1 77 4), fun K k => q7_42 hb ⟨fun z => absurd z a3, fun _ => c1 _ ⟨fun z => absurd f1.1 z, fun _ => ⟨fun _ => q43 ?_, fun z => absurd z k4⟩⟩⟩, fun K k => r1 _ (te_q77 (fun f => absurd f1.2 f) (fun _ z => absurd z n0.1) (fun _ _ _ => te_taF te_F2f k) (fun _ z => absurd z n0.2)), p1.trans ((te_fc.upI (te_fc.upI te_fc.refl rfl) rfl).trans q2.1), m1.trans (tb_fr.upI (tb_fr.upI (tb_fr.upI tb_fr.refl rfl) rfl) rfl), Or.inl ⟨by rw [q2.2.1]; exact Fm.1, Fm.2.1, by rw [q2.2.1]; exact Fm.2.2.1, by rw [q2.2.2]; exact Fm.2.2.2⟩⟩
            have ev : (if A1.1 1 5 ≠ 3 then (0 : Int) else if tb_lcmp (A1.2.1 1 7) 59 ≠ 0 then 0 else 1) = 0 := by
              by_cases s3 : A1.1 1 5 = 3
              · have ne : tb_lcmp (A1.2.1 1 7) 59 ≠ 0 := fun q => sg ⟨s3, by rw [te_lc] at q; exact q⟩
                rw [if_neg (fun q => q s3), if_pos ne]
              · rw [if_pos s3]
            rw [ev, te26 f1.1, w1]
            refine ⟨fun _ => q7_42 hb ⟨fun z => absurd z ?_, fun _ => c2 _ ⟨fun _ => te47F hb (by rw [q2.2.1]; exact Fm.1) k, fun z => absurd (q2.2.1 ▸ z) Fm.1⟩⟩, fun z => absurd rfl z⟩
            rw [o1 3 (by decide) (by decide), T1.1.1]
            omega
    · obtain ⟨A', B', h1, h2, h3, h4, h5⟩ := te_lineN (X := X) L0 hb k1
      exact te_lpF hb a3 h1 h2 h3 h4 h5
end TEREAD
