/-! READER 4: the parts of a line -/
section TEPART
variable {X : tb_X} {A B A0 B0 : tb_H} {K : Int → tb_H → Prop} {Kv : tb_H → Prop}
def te_Sb (b : Nat) : List Nat := [1, 3, b, b + 1, b + 2, b + 3, b + 4]
theorem te_Sbb {b : Nat} : (te_Sb b).contains b = true ∧ (te_Sb b).contains (b + 1) = true ∧ (te_Sb b).contains (b + 2) = true ∧ (te_Sb b).contains (b + 3) = true ∧ (te_Sb b).contains (b + 4) = true := by
  unfold te_Sb
  simp
def te_fc (b : Nat) (A A' : tb_H) : Prop := tb_fr (te_Sb b) [] [] A A' ∧ A'.1 1 2 = A.1 1 2
theorem te_fc.refl {b : Nat} : te_fc b A A := ⟨tb_fr.refl, rfl⟩
theorem te_fc.trans {b : Nat} {A1 A2 : tb_H} (h : te_fc b A A1) (g : te_fc b A1 A2) : te_fc b A A2 := ⟨h.1.trans g.1, g.2.trans h.2⟩
theorem te_fc.upI {b : Nat} {A1 : tb_H} {o : Nat} {k x : Int} (h : te_fc b A A1) (ho : ((te_Sb b).contains o || ([] : List (Nat × Int)).contains (o, k)) = true) (h2 : ¬ (o = 1 ∧ k = 2) := by first | decide | omega) : te_fc b A (tb_upI A1 o k x) := ⟨tb_fr.upI h.1 ho, by rw [tb_uI1, if_neg (fun q => h2 ⟨q.1.symm, q.2.symm⟩)]; exact h.2⟩
theorem te_fc.upL {b : Nat} {A1 : tb_H} {o : Nat} {k x : Int} (h : te_fc b A A1) (ho : (te_Sb b).contains o = true) : te_fc b A (tb_upL A1 o k x) := ⟨tb_fr.upL h.1 ho, h.2⟩
abbrev te_fm (B B' : tb_H) : Prop := tb_fr [79, 81] [(77, 4), (77, 5), (77, 6), (77, 7), (77, 8), (77, 9), (77, 10), (77, 13)] [] B B'
theorem te_f1.c {b : Nat} {A' : tb_H} (h : te_f1 A A') : te_fc b A A' := by
  have n1 : ∀ o, (te_Sb b).contains o = false → o ≠ 1 := by
    rintro o ho rfl
    have : (te_Sb b).contains 1 = true := rfl
    rw [this] at ho
    cases ho
  exact ⟨⟨fun o k ho _ => h.1 o k (n1 o ho), fun o k ho => h.2.2.1 o k (n1 o ho), fun o k _ => by rw [h.2.2.2]⟩, h.2.1 2 (by decide) (by decide) (by decide)⟩
/-- a fault was met: the same -/
def te_Fl (A B : tb_H) : Prop := A.1 1 10 ≠ 0 ∧ B.1 77 13 ≠ 0 ∧ A.1 1 10 = B.1 77 9 ∧ A.1 1 11 = B.1 77 10
/-- the names that were told, N of them; scutes' numbers below cs -/
def te_Nm (b : Nat) (N cs : Int) (A B : tb_H) : Prop := (A.1 b 4 = N ∧ B.1 81 119 = N) ∧ (0 ≤ N ∧ N ≤ 22) ∧ ∀ i, 0 ≤ i → i < N → te_wd (fun k => B.1 81 (186 + 8 * i + k)) (B.1 81 (164 + i)) (A.2.1 (b + 3) i) ∧ A.1 (b + 4) i = (if B.1 81 (120 + i) = 0 then B.1 81 (142 + i) else -1) ∧ (B.1 81 (120 + i) = 0 → 0 ≤ B.1 81 (142 + i) ∧ B.1 81 (142 + i) < cs)
/-- in a line: m of its wholes are read, vs; rho is what the reference holds below 119 -/
def te_LN (n : Int) (b : Nat) (a0 sort N cs m : Int) (vs rho : Int → Int) (A0 A B : tb_H) : Prop := (A.1 1 10 = 0 ∧ B.1 77 13 = 0) ∧ te_tp n A B ∧ te_Tk n A B ∧ (A.1 1 8 = sort ∧ A.1 1 9 = m ∧ ∀ k, 0 ≤ k → k < m → A.1 3 k = vs k) ∧ te_Nm b N cs A B ∧ (∀ k, k < 119 → B.1 81 k = rho k) ∧ (A.1 (b + 1) = A0.1 (b + 1) ∧ A.1 (b + 2) = A0.1 (b + 2)) ∧ (A.1 1 5 = 4 ∨ A.1 1 5 = 0 ∨ a0 ≤ A.1 1 4)
def te_Sl (n : Int) (b : Nat) (a0 sort N cs m : Int) (vs rho : Int → Int) (A0 B0 A B : tb_H) : Prop := te_fc b A0 A ∧ te_fm B0 B ∧ (te_Fl A B ∨ te_LN n b a0 sort N cs m vs rho A0 A B)
/-- the class at place i of a form, if no fault was met -/
def te_ci (X : tb_X) (b w : Nat) (i : Int) (A : tb_H) (K : tb_H → Prop) : Prop := (A.1 1 10 ≠ 0 → K A) ∧ (A.1 1 10 = 0 → ∀ j : tb_V, tb_E X 30 5 [tb_r 1, tb_r b, tb_r w, tb_i i, tb_i i, j] [] A (tb_Rv 30 K))
theorem te26 (h : A.1 1 10 = 0) {x : Int} : tb_Cv X 26 [tb_r 1, tb_i x] A Kv = Kv (tb_upI (tb_upI A 1 10 x) 1 11 (A.1 1 6)) := tb_dev (q26 ⟨fun _ => rfl, fun q => absurd h q⟩)
theorem te211 (h : A.1 77 13 = 0) {x y : Int} : tb_Cv X 211 [tb_r 77, tb_i x, tb_i y] A Kv = Kv (tb_upI (tb_upI (tb_upI A 77 13 1) 77 9 x) 77 10 y) := tb_dev (q211 ⟨fun _ => rfl, fun q => absurd h q⟩)
theorem te211f (h : A.1 77 13 ≠ 0) {x y : Int} : tb_Cv X 211 [tb_r 77, tb_i x, tb_i y] A Kv = Kv A := tb_dev (q211 ⟨fun q => absurd q h, fun _ => rfl⟩)
abbrev te_F1 (A : tb_H) (x : Int) : tb_H := tb_upI (tb_upI A 1 10 x) 1 11 (A.1 1 6)
abbrev te_F2 (B : tb_H) (x y : Int) : tb_H := tb_upI (tb_upI (tb_upI B 77 13 1) 77 9 x) 77 10 y
theorem te_Fl.mk {x : Int} (hx : x ≠ 0) (h6 : A.1 1 6 = B.1 77 4) : te_Fl (te_F1 A x) (te_F2 B x (B.1 77 4)) := by
  refine ⟨?_, ?_, ?_, ?_⟩
  · rw [tb_uI_k (by decide), tb_uI_s]; exact hx
  · rw [tb_uI_k (by decide), tb_uI_k (by decide), tb_uI_s]; decide
  · rw [tb_uI_k (by decide), tb_uI_s, tb_uI_k (by decide), tb_uI_s]
  · rw [tb_uI_s, tb_uI_s, h6]
variable {n : Int} {b : Nat} {a0 sort N cs m : Int} {vs rho : Int → Int}
theorem te_Sl.fail (fA : te_fc b A0 A) (fB : te_fm B0 B) {x : Int} (hx : x ≠ 0) (h6 : A.1 1 6 = B.1 77 4) {m' : Int} {vs' rho' : Int → Int} : te_Sl n b a0 sort N cs m' vs' rho' A0 B0 (te_F1 A x) (te_F2 B x (B.1 77 4)) := ⟨te_fc.upI (te_fc.upI fA rfl) rfl, tb_fr.upI (tb_fr.upI (tb_fr.upI fB rfl) rfl) rfl, Or.inl (te_Fl.mk hx h6)⟩
theorem te_Sl.old (fA : te_fc b A0 A) (fB : te_fm B0 B) (h : te_Fl A B) {m' : Int} {vs' rho' : Int → Int} : te_Sl n b a0 sort N cs m' vs' rho' A0 B0 A B := ⟨fA, fB, Or.inl h⟩
theorem te_fm7 {B' : tb_H} (h : te_f7 B B') : te_fm B B' := h.mono rfl rfl rfl
/-- the next token behind a part that was right -/
theorem te_adv1 (hb : tb_isB b) {A1 : tb_H} (fA : te_fc b A0 A1) (fB : te_fm B0 B) (T : te_tp n A1 B) (f0 : A1.1 1 10 = 0 ∧ B.1 77 13 = 0) (h4 : A1.1 1 4 = B.1 77 5 ∧ 0 ≤ A1.1 1 4 ∧ A1.1 1 4 ≤ n) (row : A1.1 1 8 = sort ∧ A1.1 1 9 = m ∧ ∀ k, 0 ≤ k → k < m → A1.1 3 k = vs k) (nm : te_Nm b N cs A1 B) (hr : ∀ k, k < 119 → B.1 81 k = rho k) (ho : A1.1 (b + 1) = A0.1 (b + 1) ∧ A1.1 (b + 2) = A0.1 (b + 2)) (ha : a0 ≤ A1.1 1 4) (b5 : 5 ≤ b) :
    ∃ A2 B2, (∀ K : tb_H → Prop, K A2 → tb_Cv X 10 [tb_r 1] A1 K) ∧ (∀ K : tb_H → Prop, K B2 → tb_Cv X 204 [tb_r 77] B K) ∧ te_Sl n b a0 sort N cs m vs rho A0 B0 A2 B2 ∧ A2.1 1 10 = 0 ∧ B2.1 77 13 = 0 := by
  obtain ⟨A2, B2, hc, hr2, g1, g7, tk, pg⟩ := te_next (X := X) T h4.1 h4.2.1 h4.2.2
  have z1 : A2.1 1 10 = 0 := by rw [g1.2.1 10 (by decide) (by decide) (by decide)]; exact f0.1
  have z2 : B2.1 77 13 = 0 := by rw [g7.1 77 13 rfl rfl]; exact f0.2
  refine ⟨A2, B2, hc, hr2, ⟨fA.trans g1.c, fB.trans (te_fm7 g7), Or.inr ⟨⟨z1, z2⟩, T.fr g1 g7, tk, ⟨?_, ?_, fun k k0 k1 => ?_⟩, ?_, fun k hk => ?_, ⟨?_, ?_⟩, ?_⟩⟩, z1, z2⟩
  · rw [g1.2.1 8 (by decide) (by decide) (by decide)]; exact row.1
  · rw [g1.2.1 9 (by decide) (by decide) (by decide)]; exact row.2.1
  · rw [g1.1 3 k (by decide)]; exact row.2.2 k k0 k1
  · refine ⟨⟨?_, ?_⟩, nm.2.1, fun i i0 i1 => ?_⟩
    · rw [g1.1 b 4 (by omega)]; exact nm.1.1
    · rw [g7.1 81 119 rfl rfl]; exact nm.1.2
    · have w := nm.2.2 i i0 i1
      rw [g7.1 81 (164 + i) rfl rfl, g7.1 81 (120 + i) rfl rfl, g7.1 81 (142 + i) rfl rfl, g1.1 (b + 4) i (by omega), g1.2.2.1 (b + 3) i (by omega)]
      have e : B2.1 81 = B.1 81 := funext fun k => g7.1 81 k rfl rfl
      rw [e]
      exact w
  · rw [g7.1 81 k rfl rfl]; exact hr k hk
  · rw [← ho.1]; exact funext fun k => g1.1 (b + 1) k (by omega)
  · rw [← ho.2]; exact funext fun k => g1.1 (b + 2) k (by omega)
  · rcases pg with q | q | q
    · exact Or.inl q
    · exact Or.inr (Or.inl q)
    · exact Or.inr (Or.inr (by omega))
theorem te_b5 (hb : tb_isB b) : 5 ≤ b ∧ b ≠ 16 := by
  have h := hb.1
  refine ⟨?_, ?_⟩
  · by_cases c : 5 ≤ b
    · exact c
    · have : b = 0 ∨ b = 1 ∨ b = 2 ∨ b = 3 ∨ b = 4 := by omega
      exfalso
      rcases this with rfl | rfl | rfl | rfl | rfl <;> revert h <;> decide +kernel
  · rintro rfl
    revert h
    decide +kernel
/-- a whole -/
theorem te_pnum (hb : tb_isB b) {w kb nw : Nat} (hs : te_str w kb nw) {i : Int} (i0 : 0 ≤ i) (i1 : i < nw) (hc : tb_cI kb i = 35) (s0 : te_Sl n b a0 sort N cs m vs rho A0 B0 A B) (m0 : 0 ≤ m) (m6 : m < 6) {lo hi : Int} (lh : lo ≤ hi)
    (hlo : ∀ (A : tb_H) (K : Int → tb_H → Prop), A.1 1 8 = sort → A.1 1 9 = m → (∀ k, 0 ≤ k → k < m → A.1 3 k = vs k) → tb_Ci X 32 [tb_r 1] A K = K lo A) (hhi : ∀ (A : tb_H) (K : Int → tb_H → Prop), A.1 1 8 = sort → A.1 1 9 = m → tb_Ci X 33 [tb_r 1] A K = K hi A) :
    ∃ A' v B', (∀ K, te_ci X b w (i + 1) A' K → te_ci X b w i A K) ∧ (∀ K : Int → tb_H → Prop, K v B' → tb_Ci X 215 [tb_r 77, tb_i lo, tb_i hi] B K) ∧ te_Sl n b a0 sort N cs (m + 1) (td_up vs m v) rho A0 B0 A' B' ∧ (lo ≤ v ∧ v ≤ hi) := by
  obtain ⟨fA, fB, s0⟩ := s0
  have b5 := te_b5 hb
  have n100 := hs.2.2.1
  rcases s0 with fl | ⟨f0, T, tk, row, nm, hr, ho, pg⟩
  · exact ⟨A, lo, B, fun K k => ⟨fun q => k.1 q, fun q => absurd q fl.1⟩, fun K k => q215 ⟨fun q => absurd q fl.2.1, fun _ => k⟩, te_Sl.old fA fB fl, by omega, by omega⟩
  · have ent : ∀ (A' : tb_H) (K : tb_H → Prop), (tb_Cv X 31 [tb_r 1] A (fun A953 => (A953.1 1 10 = 0 → tb_Cv X 10 [tb_r 1] A953 (fun A958 => ∀ j : tb_V, tb_E X 30 5 [tb_r 1, tb_r b, tb_r w, tb_i (i + 1), tb_i (i + 1), j] [] A958 (tb_Rv 30 K))) ∧ (A953.1 1 10 ≠ 0 → K A953))) → te_ci X b w i A K := by
      intro A' K k
      refine ⟨fun q => absurd f0.1 q, fun _ j => ?_⟩
      refine q30_5 hb hs.1 hs.2.1 ?_
      rw [te19 hs]
      refine ⟨fun q => absurd q (by omega), fun _ => ⟨fun _ => ?_, fun q => absurd q (by omega)⟩⟩
      rw [te21 hs i0 i1, hc, tb_w_id (x := i + 1) (by omega) (by omega)]
      exact ⟨fun q => absurd rfl q, fun _ => k.imp (fun A1 h => ⟨fun q => (h.1 q).imp (fun A2 h2 => h2 _), h.2⟩)⟩
    have bad : ∀ (x : Int), x ≠ 0 → (∀ K : tb_H → Prop, K (te_F1 A x) → tb_Cv X 31 [tb_r 1] A K) → (∀ K : Int → tb_H → Prop, K lo (te_F2 B x (B.1 77 4)) → tb_Ci X 215 [tb_r 77, tb_i lo, tb_i hi] B K) → ∃ A' v B', (∀ K, te_ci X b w (i + 1) A' K → te_ci X b w i A K) ∧ (∀ K : Int → tb_H → Prop, K v B' → tb_Ci X 215 [tb_r 77, tb_i lo, tb_i hi] B K) ∧ te_Sl n b a0 sort N cs (m + 1) (td_up vs m v) rho A0 B0 A' B' ∧ (lo ≤ v ∧ v ≤ hi) := by
      intro x hx h1 h2
      have nz : (te_F1 A x).1 1 10 ≠ 0 := by rw [tb_uI_k (by decide), tb_uI_s]; exact hx
      exact ⟨te_F1 A x, lo, te_F2 B x (B.1 77 4), fun K k => ent A K (h1 _ ⟨fun q => absurd q nz, fun _ => k.1 nz⟩), h2, te_Sl.fail fA fB hx tk.1, by omega, by omega⟩
    by_cases hk : A.1 1 5 = 2
    · have tk2 := tk.2
      have wh : (A.1 1 4 = B.1 77 5 ∧ 0 ≤ A.1 1 4 ∧ A.1 1 4 ≤ n) ∧ B.1 77 6 = 3 ∧ A.2.1 1 7 = B.1 77 7 ∧ 0 ≤ B.1 77 7 ∧ B.1 77 7 ≤ 999 := by
        rcases tk2 with q | q | ⟨q, z | z | z⟩
        · omega
        · omega
        · omega
        · exact ⟨q, z.2⟩
        · omega
      have pg' : a0 ≤ A.1 1 4 := by
        rcases pg with q | q | q
        · omega
        · omega
        · exact q
      have cmp : ∀ x y : Int, tb_lcmp x y = (if x < y then -1 else if x = y then 0 else 1) := fun _ _ => rfl
      by_cases h1 : B.1 77 7 < lo
      · refine bad 4 (by decide) (fun K k => q31 ⟨fun _ => ?_, fun q => absurd hk q⟩) (fun K k => q215 ⟨fun _ => ⟨fun _ => ?_, fun q => absurd wh.2.1 q⟩, fun q => absurd f0.2 q⟩)
        · rw [hlo A _ row.1 row.2.1 row.2.2, wh.2.2.1]
          refine ⟨fun _ => by rw [te26 f0.1]; exact k, fun q => ?_⟩
          rw [cmp, if_pos h1] at q
          exact absurd q (by decide)
        · rw [e202f (by omega)]
          refine ⟨fun q => absurd rfl q, fun _ => ?_⟩
          rw [te211 f0.2]; exact k
      · by_cases h2 : hi < B.1 77 7
        · refine bad 4 (by decide) (fun K k => q31 ⟨fun _ => ?_, fun q => absurd hk q⟩) (fun K k => q215 ⟨fun _ => ⟨fun _ => ?_, fun q => absurd wh.2.1 q⟩, fun q => absurd f0.2 q⟩)
          · rw [hlo A _ row.1 row.2.1 row.2.2, wh.2.2.1]
            refine ⟨fun q => ?_, fun _ => ?_⟩
            · rw [cmp, if_neg h1] at q
              split at q <;> omega
            · rw [hhi A _ row.1 row.2.1]
              refine ⟨fun q => ?_, fun _ => by rw [te26 f0.1]; exact k⟩
              rw [cmp, if_neg (by omega), if_neg (by omega)] at q
              exact absurd q (by decide)
          · rw [e202f (by omega)]
            refine ⟨fun q => absurd rfl q, fun _ => ?_⟩
            rw [te211 f0.2]; exact k
        · have row1 : ∀ K : tb_H → Prop, K (tb_upI (tb_upI A 3 m (B.1 77 7)) 1 9 (m + 1)) → tb_Cv X 31 [tb_r 1] A K := by
            intro K k
            refine q31 ⟨fun _ => ?_, fun q => absurd hk q⟩
            rw [hlo A _ row.1 row.2.1 row.2.2, wh.2.2.1]
            refine ⟨fun q => ?_, fun _ => ?_⟩
            · rw [cmp, if_neg h1] at q
              split at q <;> omega
            · rw [hhi A _ row.1 row.2.1, wh.2.2.1]
              refine ⟨fun _ => ?_, fun q => ?_⟩
              · rw [tb_w_id (x := B.1 77 7) (by omega) (by omega)]
                refine q34 ⟨fun q => absurd q (by rw [row.2.1]; omega), fun _ => ⟨fun _ => ?_, fun q => absurd q (by rw [row.2.1]; omega)⟩⟩
                rw [row.2.1, tb_w_id (x := m + 1) (by omega) (by omega)]
                exact k
              · rw [cmp] at q
                by_cases e : B.1 77 7 < hi
                · rw [if_pos e] at q; exact absurd q (by decide)
                · rw [if_neg e, if_pos (by omega)] at q; exact absurd q (by decide)
          have fA1 : te_fc b A0 (tb_upI (tb_upI A 3 m (B.1 77 7)) 1 9 (m + 1)) := te_fc.upI (te_fc.upI fA rfl) rfl
          have T1 : te_tp n (tb_upI (tb_upI A 3 m (B.1 77 7)) 1 9 (m + 1)) B := by
            refine ⟨⟨?_, T.1.2⟩, T.2.1, fun k k0 k1 => ?_⟩
            · rw [tb_uI_k (by decide), td_upo (by decide)]; exact T.1.1
            · rw [td_upo (by decide), td_upo (by decide)]; exact T.2.2 k k0 k1
          have z10 : (tb_upI (tb_upI A 3 m (B.1 77 7)) 1 9 (m + 1)).1 1 10 = 0 := by rw [tb_uI_k (by decide), td_upo (by decide)]; exact f0.1
          have z4 : (tb_upI (tb_upI A 3 m (B.1 77 7)) 1 9 (m + 1)).1 1 4 = A.1 1 4 := by rw [tb_uI_k (by decide), td_upo (by decide)]
          obtain ⟨A2, B2, c2, r2, s2, y1, y2⟩ := te_adv1 (X := X) (a0 := a0) (sort := sort) (N := N) (cs := cs) (m := m + 1) (vs := td_up vs m (B.1 77 7)) (rho := rho) hb fA1 fB T1 ⟨z10, f0.2⟩ (by rw [z4]; exact wh.1) ⟨by rw [tb_uI_k (by decide), td_upo (by decide)]; exact row.1, tb_uI_s, fun k k0 k1 => by
            rw [td_upo (by decide), td_upi]
            show (if k = m then _ else _) = if k = m then _ else _
            by_cases e : k = m
            · rw [if_pos e, if_pos e]
            · rw [if_neg e, if_neg e]; exact row.2.2 k k0 (by omega)⟩ (by
              refine ⟨⟨?_, nm.1.2⟩, nm.2.1, fun z z0 z1 => ?_⟩
              · rw [td_upo (by omega), td_upo (by omega)]; exact nm.1.1
              · rw [td_upo (show b + 4 ≠ 1 by omega), td_upo (show b + 4 ≠ 3 by omega)]
                exact nm.2.2 z z0 z1) hr ⟨by rw [td_upo (show b + 1 ≠ 1 by omega), td_upo (show b + 1 ≠ 3 by omega)]; exact ho.1, by rw [td_upo (show b + 2 ≠ 1 by omega), td_upo (show b + 2 ≠ 3 by omega)]; exact ho.2⟩ (by rw [z4]; exact pg') b5.1
          refine ⟨A2, B.1 77 7, B2, fun K k => ent A K (row1 _ ⟨fun _ => c2 _ (k.2 y1), fun q => absurd z10 q⟩), fun K k => q215 ⟨fun _ => ⟨fun _ => ?_, fun q => absurd wh.2.1 q⟩, fun q => absurd f0.2 q⟩, s2, by omega, by omega⟩
          rw [e202t (by omega)]
          exact ⟨fun _ => r2 _ k, fun q => absurd q (by decide)⟩
    · have n3 : B.1 77 6 ≠ 3 := by
        rcases tk.2 with q | q | ⟨q, z | z | z⟩
        · omega
        · omega
        · omega
        · exact absurd z.1 hk
        · omega
      refine bad 1 (by decide) (fun K k => q31 ⟨fun q => absurd q hk, fun _ => by rw [te26 f0.1]; exact k⟩) (fun K k => q215 ⟨fun _ => ⟨fun q => absurd q n3, fun _ => by rw [te211 f0.2]; exact k⟩, fun q => absurd f0.2 q⟩)
end TEPART
