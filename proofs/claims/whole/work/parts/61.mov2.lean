/-! MOVES 2: the class's rows of a way -/
section TEMOV2
variable {X : tb_X} {A B : tb_H} {K : Int → tb_H → Prop} {Kv : tb_H → Prop}
def te_hv (r s w : Int → Int) (f : Int) : Int := if f < r 114 ∧ s (27 + f) = 0 then w f else -1
def te_fw (r s : Int → Int) (f : Int) : Int := if f < r 114 ∧ s (27 + f) = 0 then r (61 + f) else 0
def te_nv (P : Int → Prop) (j v : Int) : Prop := te_nx P j v ∨ (v = -1 ∧ te_no P j)
def te_MC (r s : Int → Int) (B : tb_H) : Prop := (∀ k, 0 ≤ k → k < r 112 → B.1 27 k = r (25 + k) ∧ B.1 28 k = r (9 + k) - r 0 ∧ B.1 29 k = r (17 + k) - r 1) ∧ (∀ k, 0 ≤ k → k < 8 → B.1 30 k = td_hm r s k (r 113).toNat) ∧ (∀ k, -1 ≤ k → k < 8 → te_nv (te_Pc r s) k (B.1 31 (k + 1))) ∧ B.1 21 10 = r 114
def te_MV (r s w : Int → Int) (i : Int) (B : tb_H) : Prop := (∀ f, 0 ≤ f → f < i → B.1 22 f = te_hv r s w f ∧ B.1 23 f = te_hv r s (fun f => s (31 + f)) f ∧ B.1 24 f = te_fw r s f) ∧ (∀ k, 0 ≤ k → k < 8 → B.1 26 k = tb_load r s w k) ∧ B.1 21 11 = tb_lean r s w 9 (r 0) ∧ B.1 21 12 = tb_lean r s w 17 (r 1) ∧ te_MC r s B
theorem te_MC.fr {r s : Int → Int} {B' : tb_H} {S : List Nat} {F : List (Nat × Int)} {P : List Nat} (h : te_MC r s B) (hf : tb_fr S F P B B') (c : tb_av S F P [27, 28, 29, 30, 31] [(21, 10)] [] = true) : te_MC r s B' := by
  unfold te_MC at h ⊢
  rw [hf.o c (o := 27) rfl, hf.o c (o := 28) rfl, hf.o c (o := 29) rfl, hf.o c (o := 30) rfl, hf.o c (o := 31) rfl, hf.f c (o := 21) (k := 10) rfl]
  exact h
theorem te_load_set {r s w : Int → Int} {f t x : Int} (f0 : 0 ≤ f) (f1 : f < r 114) (th : s (27 + f) = 0) : tb_load r s (td_set w f t) x = tb_load r s w x - (if w f = x then r (61 + f) else 0) + (if t = x then r (61 + f) else 0) := by
  unfold tb_load
  rw [te_sum_up (g := fun f => if s (27 + f) = 0 ∧ w f = x then r (61 + f) else 0) (h := fun f' => if s (27 + f') = 0 ∧ td_set w f t f' = x then r (61 + f') else 0) f0 f1 (fun i _ _ ne => by
    show (if s (27 + i) = 0 ∧ td_set w f t i = x then r (61 + i) else 0) = _
    rw [td_set_n ne])]
  have a : (if s (27 + f) = 0 ∧ w f = x then r (61 + f) else 0) = if w f = x then r (61 + f) else 0 := by
    by_cases e : w f = x
    · rw [if_pos ⟨th, e⟩, if_pos e]
    · rw [if_neg (fun q => e q.2), if_neg e]
  have b : (if s (27 + f) = 0 ∧ td_set w f t f = x then r (61 + f) else 0) = if t = x then r (61 + f) else 0 := by
    rw [td_set_s]
    by_cases e : t = x
    · rw [if_pos ⟨th, e⟩, if_pos e]
    · rw [if_neg (fun q => e q.2), if_neg e]
  show _ + (_ - (if s (27 + f) = 0 ∧ w f = x then r (61 + f) else 0) + (if s (27 + f) = 0 ∧ td_set w f t f = x then r (61 + f) else 0)) = _
  rw [a, b]
  omega
theorem te_lean_set {r s w : Int → Int} {f t o m : Int} (f0 : 0 ≤ f) (f1 : f < r 114) (th : s (27 + f) = 0) : tb_lean r s (td_set w f t) o m = tb_lean r s w o m + r (61 + f) * (r (o + t) - m - (r (o + w f) - m)) := by
  unfold tb_lean
  rw [te_sum_up (g := tb_lnF r s w o m) (h := tb_lnF r s (td_set w f t) o m) f0 f1 (fun i _ _ ne => by
    unfold tb_lnF
    rw [td_set_n ne])]
  have a : tb_lnF r s w o m f = r (61 + f) * (r (o + w f) - m) := if_pos th
  have b : tb_lnF r s (td_set w f t) o m f = r (61 + f) * (r (o + t) - m) := by
    unfold tb_lnF
    rw [if_pos th, td_set_s]
  rw [a, b, Int.mul_sub (r (61 + f)) (r (o + t) - m) (r (o + w f) - m)]
  omega
theorem te_rng {r w : Int → Int} {f t : Int} (hw : ∀ g, 0 ≤ g → g < r 114 → 0 ≤ w g ∧ w g < r 112) (t0 : 0 ≤ t) (t1 : t < r 112) : ∀ g, 0 ≤ g → g < r 114 → 0 ≤ td_set w f t g ∧ td_set w f t g < r 112 := by
  intro g g0 g1
  by_cases e : g = f
  · rw [e, td_set_s]; exact ⟨t0, t1⟩
  · rw [td_set_n e]; exact hw g g0 g1
theorem sp132 (M : tc_M A) {w : Int → Int} (hw : ∀ f, 0 ≤ f → f < A.1 80 114 → 0 ≤ w f ∧ w f < A.1 80 112) {i f t : Int} (V : te_MV (A.1 80) (A.1 82) w i B) (f0 : 0 ≤ f) (f1 : f < i) (i4 : i ≤ 4) (th : f < A.1 80 114 ∧ A.1 82 (27 + f) = 0) (t0 : 0 ≤ t) (t1 : t < A.1 80 112) (k : ∀ B', tb_fr [22, 26] [(21, 11), (21, 12)] [] B B' → te_MV (A.1 80) (A.1 82) (td_set w f t) i B' → Kv B') : tb_Cv X 132 [tb_r 21, tb_i f, tb_i t] B Kv := by
  have c2 := M.c112
  have e22 : B.1 22 f = w f := by rw [(V.1 f f0 f1).1]; exact if_pos th
  have e24 : B.1 24 f = A.1 80 (61 + f) := by rw [(V.1 f f0 f1).2.2]; exact if_pos th
  have wf := hw f f0 th.1
  have g := M.v61 f0 th.1
  have a1 := (V.2.2.2.2.1 t t0 t1).2.1
  have a2 := (V.2.2.2.2.1 t t0 t1).2.2
  have b1 := (V.2.2.2.2.1 (w f) wf.1 wf.2).2.1
  have b2 := (V.2.2.2.2.1 (w f) wf.1 wf.2).2.2
  have u1 := M.v9 t0 t1
  have u2 := M.v9 wf.1 wf.2
  have u3 := M.v17 t0 t1
  have u4 := M.v17 wf.1 wf.2
  have m1 := tb_mulb (a := A.1 80 (61 + f)) (d := A.1 80 (9 + t) - A.1 80 0 - (A.1 80 (9 + w f) - A.1 80 0)) (by omega) (by omega) (by omega) (by omega)
  have m2 := tb_mulb (a := A.1 80 (61 + f)) (d := A.1 80 (17 + t) - A.1 80 1 - (A.1 80 (17 + w f) - A.1 80 1)) (by omega) (by omega) (by omega) (by omega)
  have z0 := M.v0
  have z1 := M.v1
  have l1 := M.leanB hw (o := 9) (m := 0) (Or.inl ⟨rfl, rfl⟩)
  have l2 := M.leanB hw (o := 17) (m := 1) (Or.inr ⟨rfl, rfl⟩)
  refine q132 ⟨fun q => absurd q (by omega), fun _ => ⟨fun q => absurd q (by omega), fun _ => ⟨fun q => absurd q (by omega), fun _ => ⟨fun _ => ⟨fun q => absurd q (by omega), fun _ => ⟨fun _ => ?_, fun q => absurd q (by omega)⟩⟩, fun q => absurd q (by omega)⟩⟩⟩⟩
  rw [e22, e24]
  refine k _ (tb_fr.upI (tb_fr.upI (tb_fr.upI (tb_fr.upI (tb_fr.upI tb_fr.refl rfl) rfl) rfl) rfl) rfl) ⟨fun x x0 x1 => ⟨?_, ?_, ?_⟩, fun x x0 x1 => ?_, ?_, ?_, ?_⟩
  · rw [td_upi]
    show (if x = f then t else B.1 22 x) = _
    unfold te_hv
    by_cases e : x = f
    · rw [if_pos e, e, if_pos th, td_set_s]
    · rw [if_neg e, td_set_n e]
      exact (V.1 x x0 x1).1
  · rw [td_upo (by decide), td_upo (by decide), td_upo (by decide), td_upo (by decide), td_upo (by decide)]
    exact (V.1 x x0 x1).2.1
  · rw [td_upo (by decide), td_upo (by decide), td_upo (by decide), td_upo (by decide), td_upo (by decide)]
    exact (V.1 x x0 x1).2.2
  · rw [td_upo (by decide), td_upo (by decide), td_upo (by decide), td_upi, td_upi]
    show (if x = t then tb_w ((if t = w f then tb_w (B.1 26 (w f) - A.1 80 (61 + f)) else B.1 26 t) + A.1 80 (61 + f)) else if x = w f then tb_w (B.1 26 (w f) - A.1 80 (61 + f)) else B.1 26 x) = _
    have v1 := V.2.1 (w f) wf.1 (by omega)
    have v2 := V.2.1 t t0 (by omega)
    have v3 := V.2.1 x x0 x1
    have d1 := M.ldB (at' := w) (x := w f)
    have d2 := M.ldB (at' := w) (x := t)
    rw [v1, v2, v3, te_load_set f0 th.1 th.2, tb_w_id (x := tb_load (A.1 80) (A.1 82) w (w f) - A.1 80 (61 + f)) (by omega) (by omega)]
    by_cases e1 : x = t
    · rw [if_pos e1, e1]
      by_cases e2 : t = w f
      · rw [if_pos e2, if_pos e2.symm, if_pos rfl, tb_w_id (by omega) (by omega), e2]
      · rw [if_neg e2, if_neg (fun q => e2 q.symm), if_pos rfl, tb_w_id (by omega) (by omega)]
        omega
    · rw [if_neg e1]
      by_cases e2 : x = w f
      · rw [if_pos e2, if_pos e2.symm, if_neg (fun q : t = x => e1 q.symm), e2]
        omega
      · rw [if_neg e2, if_neg (fun q : w f = x => e2 q.symm), if_neg (fun q : t = x => e1 q.symm)]
        omega
  · rw [td_upo (by decide), tb_uI_k (by decide), tb_uI_s, V.2.2.1, a1, b1, tb_w_id (x := A.1 80 (9 + t) - A.1 80 0 - (A.1 80 (9 + w f) - A.1 80 0)) (by omega) (by omega), tb_w_id (x := A.1 80 (61 + f) * (A.1 80 (9 + t) - A.1 80 0 - (A.1 80 (9 + w f) - A.1 80 0))) (by omega) (by omega), tb_w_id (by omega) (by omega), te_lean_set f0 th.1 th.2]
  · rw [td_upo (by decide), tb_uI_s, V.2.2.2.1, a2, b2, tb_w_id (x := A.1 80 (17 + t) - A.1 80 1 - (A.1 80 (17 + w f) - A.1 80 1)) (by omega) (by omega), tb_w_id (x := A.1 80 (61 + f) * (A.1 80 (17 + t) - A.1 80 1 - (A.1 80 (17 + w f) - A.1 80 1))) (by omega) (by omega), tb_w_id (by omega) (by omega), te_lean_set f0 th.1 th.2]
  · exact V.2.2.2.2.fr (tb_fr.upI (S := [22, 26]) (F := [(21, 11), (21, 12)]) (P := []) (tb_fr.upI (tb_fr.upI (tb_fr.upI (tb_fr.upI tb_fr.refl rfl) rfl) rfl) rfl) rfl) rfl
theorem e136 {j : Int} (h0 : -1 ≤ j) (h1 : j < 8) : tb_Ci X 136 [tb_r 21, tb_i j] B K = K (B.1 31 (j + 1)) B := by
  refine tb_dei (q136 ⟨fun q => absurd q (by omega), fun _ => ⟨fun _ => ?_, fun q => absurd q (by omega)⟩⟩)
  rw [tb_w_id (x := j + 1) (by omega) (by omega)]
  exact ⟨by omega, rfl, rfl⟩
theorem te_nx.b {r s : Int → Int} {j t : Int} (h : te_nx (te_Pc r s) j t) : 0 ≤ t ∧ t < r 112 := h.2.1.1
theorem te_nv.y {r s : Int → Int} {j v : Int} (h : te_nv (te_Pc r s) j v) (e : v ≠ -1) : te_nx (te_Pc r s) j v := by
  rcases h with h | h
  · exact h
  · exact absurd h.1 e
theorem te_nv.n {r s : Int → Int} {j v : Int} (h : te_nv (te_Pc r s) j v) (e : v = -1) : te_no (te_Pc r s) j := by
  rcases h with h | h
  · have := h.b
    omega
  · exact h.2
theorem sp135 (M : tc_M A) {w : Int → Int} (hw : ∀ f, 0 ≤ f → f < A.1 80 114 → 0 ≤ w f ∧ w f < A.1 80 112) (pw : te_va (A.1 80) (A.1 82) (te_Pc (A.1 80) (A.1 82)) w) (V : te_MV (A.1 80) (A.1 82) w 4 B)
    (k1 : ∀ B' w' f, tb_fr [22, 26] [(21, 11), (21, 12)] [] B B' → te_MV (A.1 80) (A.1 82) w' 4 B' → (∀ f, 0 ≤ f → f < A.1 80 114 → 0 ≤ w' f ∧ w' f < A.1 80 112) → te_adv (A.1 80) (A.1 82) (te_Pc (A.1 80) (A.1 82)) w w' f → K 1 B')
    (k0 : ∀ B', tb_fr [22, 26] [(21, 11), (21, 12)] [] B B' → (∀ g, 0 ≤ g → g < A.1 80 114 → A.1 82 (27 + g) = 0 → te_no (te_Pc (A.1 80) (A.1 82)) (w g)) → K 0 B') : tb_Ci X 135 [tb_r 21] B K := by
  have c2 := M.c112
  have c4 := M.c114
  refine q135 ?_
  rw [V.2.2.2.2.2.2.2, if_neg (by omega), tb_w_id (by omega) (by omega)]
  have key := tb_ld (n := A.1 80 114) (E := fun p => ∀ (C : tb_H) (u : Int → Int) (j : tb_V), tb_fr [22, 26] [(21, 11), (21, 12)] [] B C → te_MV (A.1 80) (A.1 82) u 4 C → (∀ f, 0 ≤ f → f < A.1 80 114 → 0 ≤ u f ∧ u f < A.1 80 112) → (∀ g, 0 ≤ g → g ≤ p → u g = w g) → (∀ g, p < g → g < 4 → 0 ≤ g → g < A.1 80 114 → A.1 82 (27 + g) = 0 → te_no (te_Pc (A.1 80) (A.1 82)) (w g) ∧ te_nx (te_Pc (A.1 80) (A.1 82)) (-1) (u g)) → tb_E X 135 11 [tb_r 21, tb_i p, j] [] C (tb_Ri 135 K)) c4.1 ?_ ?_
  · exact key B w _ tb_fr.refl V hw (fun g _ _ => rfl) (fun g g0 _ _ g1 _ => absurd g1 (by omega))
  · intro C u j fC VC hu ul uh
    refine q135_11 ⟨fun _ => k0 C fC (fun g g0 g1 t => (uh g (by omega) (by omega) g0 g1 t).1), fun q => absurd q (by decide)⟩
  · intro i i0 i1 ih C u j fC VC hu ul uh
    have r := VC.1 i i0 (by omega)
    refine q135_11 ⟨fun q => absurd q (by omega), fun _ => ⟨⟨i0, by omega⟩, ?_⟩⟩
    rw [r.2.1, tb_w_id (x := i + -1) (by omega) (by omega), show i + -1 = i - 1 by omega]
    unfold te_hv
    by_cases t : i < A.1 80 114 ∧ A.1 82 (27 + i) = 0
    · have at' := M.at i i0 i1
      have wi := hw i i0 i1
      have pi := pw i i0 i1 t.2
      have ui : u i = w i := ul i i0 (Int.le_refl _)
      rw [if_pos t]
      refine ⟨fun _ => ⟨⟨i0, by omega⟩, ?_⟩, fun q => absurd (show A.1 82 (31 + i) = -1 from q) (by omega)⟩
      rw [show C.1 22 i = w i by rw [r.1, ← ui]; exact if_pos t, e136 (by omega) (by omega)]
      have nv := VC.2.2.2.2.2.2.1 (w i) (by omega) (by omega)
      have nv0 := VC.2.2.2.2.2.2.1 (-1) (by omega) (by omega)
      refine ⟨fun e => ?_, fun e => ?_⟩
      · have no := nv.n e
        rw [e136 (by omega) (by omega)]
        have nx : te_nx (te_Pc (A.1 80) (A.1 82)) (-1) (C.1 31 (-1 + 1)) := by
          refine nv0.y (fun z => ?_)
          exact nv0.n z (w i) (by omega) pi
        refine sp132 M hu VC i0 (by omega) (by decide) t nx.b.1 nx.b.2 (fun C' f' V' => ?_)
        refine ih C' _ _ (fC.trans f') V' (te_rng hu nx.b.1 nx.b.2) (fun g g0 g1 => ?_) (fun g g0 g1 g2 g3 g4 => ?_)
        · rw [td_set_n (by omega)]
          exact ul g g0 (by omega)
        · by_cases z : g = i
          · rw [z, td_set_s]
            exact ⟨no, nx⟩
          · rw [td_set_n z]
            exact uh g (by omega) g1 g2 g3 g4
      · have nx := nv.y e
        refine sp132 M hu VC i0 (by omega) (by decide) t nx.b.1 nx.b.2 (fun C' f' V' => ?_)
        refine k1 C' _ i (fC.trans f') V' (te_rng hu nx.b.1 nx.b.2) ⟨⟨i0, by omega⟩, t, ?_, fun g g0 g1 => ?_, fun g g0 g1 g3 g4 => ?_⟩
        · rw [td_set_s]; exact nx
        · rw [td_set_n (by omega)]
          exact ul g g0 (by omega)
        · rw [td_set_n (by omega)]
          exact uh g (by omega) g1 (by omega) g3 g4
    · rw [if_neg t]
      refine ⟨fun q => absurd rfl q, fun _ => ih C u _ fC VC hu (fun g g0 g1 => ul g g0 (by omega)) (fun g g0 g1 g2 g3 g4 => ?_)⟩
      by_cases z : g = i
      · rw [z] at g3 g4
        exact absurd ⟨g3, g4⟩ t
      · exact uh g (by omega) g1 g2 g3 g4
theorem sp133 (M : tc_M A) {w : Int → Int} (pw : te_va (A.1 80) (A.1 82) (te_Pc (A.1 80) (A.1 82)) w) (V : te_MV (A.1 80) (A.1 82) w 4 B)
    (k1 : te_OK (A.1 80) (A.1 82) w → K 1 B) (k0 : ¬ te_OK (A.1 80) (A.1 82) w → K 0 B) : tb_Ci X 133 [tb_r 21] B K := by
  have c2 := M.c112
  have c4 := M.c114
  refine q133 ?_
  have key := tb_lp (n := 4) (E := fun i => ∀ j : tb_V, (∀ f, 0 ≤ f → f < i → f < A.1 80 114 → A.1 82 (27 + f) = 0 → w f ≠ A.1 82 (31 + f) → A.1 82 (35 + w f) = 0 ∧ tb_load (A.1 80) (A.1 82) w (w f) ≤ A.1 80 (25 + w f)) → tb_E X 133 2 [tb_r 21, tb_i i, j] [] B (tb_Ri 133 K)) (by decide) ?_ ?_
  · exact key _ (fun f f0 f1 => absurd f1 (by omega))
  · intro j h
    exact q133_2 ⟨fun _ => k1 (fun f f0 f1 => h f f0 (by omega) f1), fun q => absurd q (by decide)⟩
  · intro i i0 i1 ih j h
    have r := V.1 i i0 i1
    refine q133_2 ⟨fun q => absurd q (by omega), fun _ => ⟨⟨i0, i1⟩, ⟨i0, i1⟩, ?_⟩⟩
    rw [tb_w_id (x := i + 1) (by omega) (by omega), r.1, r.2.1]
    unfold te_hv
    have nx : (i < A.1 80 114 → A.1 82 (27 + i) = 0 → w i ≠ A.1 82 (31 + i) → A.1 82 (35 + w i) = 0 ∧ tb_load (A.1 80) (A.1 82) w (w i) ≤ A.1 80 (25 + w i)) → ∀ f, 0 ≤ f → f < i + 1 → f < A.1 80 114 → A.1 82 (27 + f) = 0 → w f ≠ A.1 82 (31 + f) → A.1 82 (35 + w f) = 0 ∧ tb_load (A.1 80) (A.1 82) w (w f) ≤ A.1 80 (25 + w f) := by
      intro o f f0 f1
      by_cases e : f = i
      · rw [e]; exact o
      · exact h f f0 (by omega)
    by_cases t : i < A.1 80 114 ∧ A.1 82 (27 + i) = 0
    · rw [if_pos t, if_pos t]
      have p := pw i i0 t.1 t.2
      have p0 := p.1
      refine ⟨fun e => ih _ (nx (fun _ _ q => absurd e q)), fun e => ⟨fun q => absurd q (by omega), fun _ => ⟨fun _ => ?_, fun q => absurd q (by omega)⟩⟩⟩
      rw [V.2.1 (w i) (by omega) (by omega), (V.2.2.2.2.1 (w i) p0.1 p0.2).1]
      refine ⟨fun q => ih _ (nx (fun _ _ _ => ⟨p.2, q⟩)), fun q => k0 (fun ok => ?_)⟩
      have := (ok i i0 t.1 t.2 e).2
      omega
    · rw [if_neg t, if_neg t]
      exact ⟨fun _ => ih _ (nx (fun a b _ => absurd ⟨a, b⟩ t)), fun q => absurd rfl q⟩
theorem e134 (M : tc_M A) {w : Int → Int} (V : te_MV (A.1 80) (A.1 82) w 4 B) : tb_Ci X 134 [tb_r 21] B K = K (te_mv (A.1 80) (A.1 82) w) B := by
  have c4 := M.c114
  refine tb_dei (q134 ?_)
  have fin : tb_sum (fun f => if f < A.1 80 114 ∧ A.1 82 (27 + f) = 0 ∧ w f ≠ A.1 82 (31 + f) then 1 else 0) 4 = te_mv (A.1 80) (A.1 82) w := by
    rw [tb_sum_cut c4.1 4 c4.2 (fun i a _ => if_neg (by omega))]
    refine tb_sum_congr c4.1 (fun i _ b => ?_)
    show (if i < A.1 80 114 ∧ A.1 82 (27 + i) = 0 ∧ w i ≠ A.1 82 (31 + i) then 1 else 0) = (if A.1 82 (27 + i) = 0 ∧ w i ≠ A.1 82 (31 + i) then 1 else 0 : Int)
    by_cases e : A.1 82 (27 + i) = 0 ∧ w i ≠ A.1 82 (31 + i)
    · rw [if_pos e, if_pos ⟨b, e⟩]
    · rw [if_neg e, if_neg (fun q => e q.2)]
  refine tb_lp (n := 4) (E := fun i => tb_E X 134 4 [tb_r 21, tb_i (tb_sum (fun f => if f < A.1 80 114 ∧ A.1 82 (27 + f) = 0 ∧ w f ≠ A.1 82 (31 + f) then 1 else 0) i), tb_i i] [] B (tb_Ri 134 _)) (by decide) ?_ ?_
  · exact q134_4 ⟨fun _ => ⟨fin, rfl⟩, fun q => absurd q (by decide)⟩
  · intro i i0 i1 ih
    have r := V.1 i i0 i1
    have b := tb_sum_bd (f := fun f => if f < A.1 80 114 ∧ A.1 82 (27 + f) = 0 ∧ w f ≠ A.1 82 (31 + f) then (1 : Int) else 0) (c := 1) (N := 4) (n := i) i0 (by omega) (by decide) (fun j _ _ => by
      show 0 ≤ (if j < A.1 80 114 ∧ A.1 82 (27 + j) = 0 ∧ w j ≠ A.1 82 (31 + j) then (1 : Int) else 0) ∧ (if j < A.1 80 114 ∧ A.1 82 (27 + j) = 0 ∧ w j ≠ A.1 82 (31 + j) then (1 : Int) else 0) ≤ 1
      ((repeat' split) <;> omega))
    rw [tb_sum_s i0] at ih
    refine q134_4 ⟨fun q => absurd q (by omega), fun _ => ⟨⟨i0, i1⟩, ⟨i0, i1⟩, ?_⟩⟩
    rw [tb_w_id (x := i + 1) (by omega) (by omega), tb_w_id (x := tb_sum _ i + 1) (by omega) (by omega), r.1, r.2.1]
    unfold te_hv
    by_cases t : i < A.1 80 114 ∧ A.1 82 (27 + i) = 0
    · rw [if_pos t, if_pos t]
      refine ⟨fun e => ?_, fun e => ?_⟩
      · rw [if_neg (fun q => q.2.2 e), Int.add_zero] at ih
        exact ih
      · rw [if_pos ⟨t.1, t.2, e⟩] at ih
        exact ih
    · rw [if_neg t, if_neg t]
      refine ⟨fun e => ?_, fun e => absurd rfl e⟩
      rw [if_neg (fun q => t ⟨q.1, q.2.1⟩), Int.add_zero] at ih
      exact ih
end TEMOV2
