/-! TYING DOWN 2: must -/
section TEMUST
variable {X : tb_X} {A B C : tb_H} {K : Int → tb_H → Prop} {Kv : tb_H → Prop}
theorem te_um_s {r s w : Int → Int} {x i : Int} (i0 : 0 ≤ i) : te_um r s w x (i + 1).toNat = if i < r 114 ∧ s (27 + i) = 0 ∧ w i = x then 1 else te_um r s w x i.toNat := by
  obtain ⟨n, rfl⟩ := Int.eq_ofNat_of_zero_le i0
  rfl
theorem te_hmb (M : tc_M A) (x : Int) : td_hm (A.1 80) (A.1 82) x (A.1 80 113).toNat = -2 ∨ (0 ≤ td_hm (A.1 80) (A.1 82) x (A.1 80 113).toNat ∧ td_hm (A.1 80) (A.1 82) x (A.1 80 113).toNat ≤ 60) := by
  have c3 := M.c113
  rcases te_hm_n (r := A.1 80) (s := A.1 82) (x := x) (A.1 80 113).toNat (fun h a b => by have := M.v45 a (show h < A.1 80 113 by omega); omega) with h | h
  · exact Or.inl h.1
  · exact Or.inr h.1
theorem te_msb (M : tc_M A) (w : Int → Int) (n : Nat) : -480 ≤ tb_sum (te_ms (A.1 80) (A.1 82) w n) 8 ∧ tb_sum (te_ms (A.1 80) (A.1 82) w n) 8 ≤ 480 := by
  have := tb_sum_ab (f := te_ms (A.1 80) (A.1 82) w n) (c := 60) (N := 8) (n := 8) (by decide) (by decide) (by decide) (fun i _ _ => by
    have := te_hmb M i
    unfold te_ms
    split <;> omega)
  omega
theorem sp186 (M : tc_M A) {w : Int → Int} (hw : ∀ f, 0 ≤ f → f < A.1 80 114 → A.1 82 (27 + f) = 0 → 0 ≤ w f ∧ w f < 8) (h22 : ∀ f, 0 ≤ f → f < 4 → B.1 22 f = te_hv (A.1 80) (A.1 82) w f) (h30 : ∀ k, 0 ≤ k → k < 8 → B.1 30 k = td_hm (A.1 80) (A.1 82) k (A.1 80 113).toNat) (k : ∀ v, te_M (A.1 80) (A.1 82) w v → K v B) : tb_Ci X 186 [tb_r 21] B K := by
  have c4 := M.c114
  refine q186 ?_
  have key := tb_lp (n := 4) (E := fun i => ∀ (p : Int) (j : tb_V), (0 ≤ p ∧ p < 256) → (∀ x, 0 ≤ x → x < 8 → tb_bt p x = te_um (A.1 80) (A.1 82) w x i.toNat) → (∀ f, 0 ≤ f → f < i → f < A.1 80 114 → A.1 82 (27 + f) = 0 → 0 ≤ td_hm (A.1 80) (A.1 82) (w f) (A.1 80 113).toNat) → tb_E X 186 6 [tb_r 21, tb_i (tb_sum (te_ms (A.1 80) (A.1 82) w i.toNat) 8), tb_i p, tb_i i, j] [] B (tb_Ri 186 K)) (by decide) ?_ ?_
  · have z : tb_sum (te_ms (A.1 80) (A.1 82) w (0 : Int).toNat) 8 = 0 := by
      have a := tb_sum_le (f := te_ms (A.1 80) (A.1 82) w (0 : Int).toNat) (c := 0) (n := 8) (by decide) (fun i _ _ => by
        show (if (0 : Int) = 1 then td_hm (A.1 80) (A.1 82) i (A.1 80 113).toNat else 0) ≤ 0
        rw [if_neg (by decide)]
        decide)
      have b := tb_sum_ge (f := te_ms (A.1 80) (A.1 82) w (0 : Int).toNat) (c := 0) (n := 8) (by decide) (fun i _ _ => by
        show 0 ≤ (if (0 : Int) = 1 then td_hm (A.1 80) (A.1 82) i (A.1 80 113).toNat else 0)
        rw [if_neg (by decide)]
        decide)
      omega
    have := key 0 (tb_s 1) (by decide) (fun x x0 x1 => (td_255 x0 x1).2) (fun f a b => absurd b (by omega))
    rw [z] at this
    exact this
  · intro p j _ _ h
    exact q186_6 ⟨fun _ => k _ (Or.inr ⟨fun f f0 f1 => h f f0 (by omega) f1, rfl⟩), fun q => absurd q (by decide)⟩
  · intro i i0 i1 ih p j pb pu h
    have sb := te_msb M w i.toNat
    have r22 := h22 i i0 i1
    have nx : (i < A.1 80 114 → A.1 82 (27 + i) = 0 → 0 ≤ td_hm (A.1 80) (A.1 82) (w i) (A.1 80 113).toNat) → ∀ f, 0 ≤ f → f < i + 1 → f < A.1 80 114 → A.1 82 (27 + f) = 0 → 0 ≤ td_hm (A.1 80) (A.1 82) (w f) (A.1 80 113).toNat := by
      intro o f f0 f1
      by_cases e : f = i
      · rw [e]; exact o
      · exact h f f0 (by omega)
    have same : (∀ x, 0 ≤ x → x < 8 → te_um (A.1 80) (A.1 82) w x (i + 1).toNat = te_um (A.1 80) (A.1 82) w x i.toNat) → (i < A.1 80 114 → A.1 82 (27 + i) = 0 → 0 ≤ td_hm (A.1 80) (A.1 82) (w i) (A.1 80 113).toNat) → ∀ j : tb_V, tb_E X 186 6 [tb_r 21, tb_i (tb_sum (te_ms (A.1 80) (A.1 82) w i.toNat) 8), tb_i p, tb_i (i + 1), j] [] B (tb_Ri 186 K) := by
      intro e o j
      have := ih p j pb (fun x x0 x1 => by rw [e x x0 x1]; exact pu x x0 x1) (nx o)
      rw [tb_sum_congr (f := te_ms (A.1 80) (A.1 82) w (i + 1).toNat) (g := te_ms (A.1 80) (A.1 82) w i.toNat) (by decide) (fun x x0 x1 => by
        unfold te_ms
        rw [e x x0 x1])] at this
      exact this
    refine q186_6 ⟨fun q => absurd q (by omega), fun _ => ⟨⟨i0, i1⟩, ?_⟩⟩
    rw [tb_w_id (x := i + 1) (by omega) (by omega), r22]
    unfold te_hv
    by_cases t : i < A.1 80 114 ∧ A.1 82 (27 + i) = 0
    · have wi := hw i i0 t.1 t.2
      have hb := te_hmb M (w i)
      have o := tb_orf pb.1 pb.2 wi.1 wi.2
      rw [if_pos t]
      refine ⟨fun q => absurd q (by omega), fun _ => ⟨fun q => absurd q (by omega), fun _ => ⟨fun b => ?_, fun b => ?_⟩⟩⟩
      · have b' : tb_bt p (w i) = 0 := b
        rw [pu (w i) wi.1 wi.2] at b'
        rw [h30 (w i) wi.1 wi.2]
        refine ⟨fun q => ?_, fun q => k (-2) (Or.inl ⟨rfl, i, ⟨i0, t.1⟩, t.2, q⟩)⟩
        have ms0 : te_ms (A.1 80) (A.1 82) w i.toNat (w i) = 0 := by
          unfold te_ms
          rw [b', if_neg (by decide)]
        have ms1 : te_ms (A.1 80) (A.1 82) w (i + 1).toNat (w i) = td_hm (A.1 80) (A.1 82) (w i) (A.1 80 113).toNat := by
          have u1 : te_um (A.1 80) (A.1 82) w (w i) (i + 1).toNat = 1 := by
            rw [te_um_s i0]
            exact if_pos ⟨t.1, t.2, rfl⟩
          unfold te_ms
          rw [u1, if_pos rfl]
        have up := te_sum_up (g := te_ms (A.1 80) (A.1 82) w i.toNat) (h := te_ms (A.1 80) (A.1 82) w (i + 1).toNat) (n := 8) wi.1 wi.2 (fun x _ _ ne => by
          have un : te_um (A.1 80) (A.1 82) w x (i + 1).toNat = te_um (A.1 80) (A.1 82) w x i.toNat := by
            rw [te_um_s i0]
            exact if_neg (fun q => ne q.2.2.symm)
          unfold te_ms
          rw [un])
        rw [ms0, ms1] at up
        rw [tb_w_id (x := tb_sum (te_ms (A.1 80) (A.1 82) w i.toNat) 8 + _) (by omega) (by omega)]
        have := ih (tb_or p (tb_shl 1 (w i))) (tb_i (w i)) o.1 (fun x x0 x1 => by
          rw [te_um_s i0]
          show tb_and (tb_shr (tb_or p (tb_shl 1 (w i))) x) 1 = _
          rw [o.2 x x0 x1]
          by_cases e : x = w i
          · rw [if_pos e, if_pos ⟨t.1, t.2, e.symm⟩]
          · rw [if_neg e, if_neg (fun q => e q.2.2.symm)]
            exact pu x x0 x1) (nx (fun _ _ => q))
        rw [up, show tb_sum (te_ms (A.1 80) (A.1 82) w i.toNat) 8 - 0 + td_hm (A.1 80) (A.1 82) (w i) (A.1 80 113).toNat = tb_sum (te_ms (A.1 80) (A.1 82) w i.toNat) 8 + td_hm (A.1 80) (A.1 82) (w i) (A.1 80 113).toNat by omega] at this
        exact this
      · have b1 : te_um (A.1 80) (A.1 82) w (w i) i.toNat = 1 := by
          rw [← pu (w i) wi.1 wi.2]
          rcases tb_bt01 p (w i) with z | z
          · exact absurd z b
          · exact z
        obtain ⟨f, f01, f2, f3, f4⟩ := (te_um_i (w i) i.toNat).mp b1
        refine same (fun x x0 x1 => ?_) (fun _ _ => ?_) _
        · rw [te_um_s i0]
          by_cases e : i < A.1 80 114 ∧ A.1 82 (27 + i) = 0 ∧ w i = x
          · rw [if_pos e, ← e.2.2, b1]
          · rw [if_neg e]
        · rw [← f4]
          exact h f f01.1 (by omega) f2 f3
    · rw [if_neg t]
      refine ⟨fun _ => same (fun x x0 x1 => ?_) (fun a b => absurd ⟨a, b⟩ t) _, fun q => absurd q (by decide)⟩
      rw [te_um_s i0, if_neg (fun q => t ⟨q.1, q.2.1⟩)]
theorem te_M.T (M : tc_M A) {w : Int → Int} (hw : ∀ f, 0 ≤ f → f < A.1 80 114 → A.1 82 (27 + f) = 0 → 0 ≤ w f ∧ w f < 8) {v : Int} (h : te_M (A.1 80) (A.1 82) w v) : te_T (A.1 80) (A.1 82) w v := by
  have c2 := M.c112
  exact h.t M.c113 (fun h a b => by have := M.v45 a b; omega) (fun h a b => by have := M.v33 a b; omega) (fun h a b => (M.s15 a b).2) hw M.c114.2
theorem te_ag.T {r s u w : Int → Int} (g : te_ag r s u w) {v : Int} (h : te_T r s w v) : te_T r s u v := by
  have f : ∀ t, te_Fs r s w t ↔ te_Fs r s u t := by
    intro t
    refine ⟨fun F => ⟨F.1, F.2.1, fun f f0 f1 f2 => ?_⟩, fun F => ⟨F.1, F.2.1, fun f f0 f1 f2 => ?_⟩⟩
    · rw [g f f0 f1 f2]; exact F.2.2 f f0 f1 f2
    · rw [← g f f0 f1 f2]; exact F.2.2 f f0 f1 f2
  rcases h with h | h
  · exact Or.inl ⟨h.1, fun t F => h.2 t ((f t).mpr F)⟩
  · obtain ⟨t, F, e⟩ := h.2.1
    exact Or.inr ⟨h.1, ⟨t, (f t).mp F, e⟩, fun t' F' => h.2.2 t' ((f t').mpr F')⟩
theorem sp185 (L : tb_L A) (k : ∀ B v, tb_fr te_S5 te_F [] A B → te_T (A.1 80) (A.1 82) (fun f => A.1 82 (31 + f)) v → K v B) : tb_Ci X 185 [tb_r 21, tb_r 4] A K := by
  have M := L.M
  have c2 := M.c112
  have c4 := M.c114
  have own : ∀ f, 0 ≤ f → f < A.1 80 114 → A.1 82 (27 + f) = 0 → 0 ≤ A.1 82 (31 + f) ∧ A.1 82 (31 + f) < 8 := fun f a b _ => by
    have := M.at f a b
    omega
  refine q185 (sp130 L (fun B w fB VB hw hx => ?_))
  have n10 := VB.2.2.2.2.2.2.2
  have fin : ∀ C, tb_fr [22] [] [] B C → (∀ f, 0 ≤ f → f < 4 → C.1 22 f = te_hv (A.1 80) (A.1 82) (fun f => A.1 82 (31 + f)) f) → tb_Ci X 186 [tb_r 21] C (fun v A' => K v A') := by
    intro C fC h
    refine sp186 M own h (fun z z0 z1 => ?_) (fun v hv => k C v ((fB.mono rfl rfl rfl).trans (fC.mono rfl rfl rfl)) (hv.T M own))
    rw [fC.1 30 z rfl rfl]
    exact VB.2.2.2.2.2.1 z z0 z1
  have key := tb_lp (n := A.1 80 114) (E := fun i => ∀ C, tb_fr [22] [] [] B C → (∀ f, 0 ≤ f → f < i → C.1 22 f = te_hv (A.1 80) (A.1 82) (fun f => A.1 82 (31 + f)) f) → (∀ f, i ≤ f → f < 4 → C.1 22 f = te_hv (A.1 80) (A.1 82) w f) → tb_E X 185 7 [tb_r 21, tb_r 4, tb_i i] [] C (tb_Ri 185 K)) c4.1 ?_ ?_
  · exact key B tb_fr.refl (fun f a b => absurd b (by omega)) (fun f a b => (VB.1 f a b).1)
  · intro C fC h1 h2
    refine q185_7 ⟨fun _ => fin C fC (fun f f0 f1 => ?_), fun q => absurd q (by rw [fC.1 21 10 rfl rfl, n10]; omega)⟩
    by_cases e : f < A.1 80 114
    · exact h1 f f0 e
    · rw [h2 f (by omega) f1]
      unfold te_hv
      rw [if_neg (fun q => e q.1), if_neg (fun q => e q.1)]
  · intro i i0 i1 ih C fC h1 h2
    refine q185_7 ⟨fun q => absurd q (by rw [fC.1 21 10 rfl rfl, n10]; omega), fun _ => ⟨fun q => absurd q (by omega), fun _ => ⟨⟨i0, by omega⟩, ⟨i0, by omega⟩, ?_⟩⟩⟩
    rw [tb_w_id (x := i + 1) (by omega) (by omega), fC.1 23 i rfl rfl, (VB.1 i i0 (by omega)).2.1]
    refine ih _ (tb_fr.upI fC rfl) (fun f f0 f1 => ?_) (fun f f0 f1 => ?_)
    · by_cases e : f = i
      · rw [e, tb_uI_s]
      · rw [tb_uI_k e]; exact h1 f f0 (by omega)
    · rw [tb_uI_k (by omega)]; exact h2 f (by omega) f1
/-- the reference's sets -/
theorem sp316 (M : tc_M A) (k : ∀ v, te_T (A.1 80) (A.1 82) (A.1 90) v → K v A) : tb_Ci X 316 [tb_r 77] A K := by
  have c3 := M.c113
  have c4 := M.c114
  have ts := M.tsb
  have ds := M.dsb
  have cut := tb_cut ts.1.1 ts.1.2 c3.1 c3.2
  have cost : ∀ t, 0 ≤ tb_sum (tb_tis (A.1 80) t) (A.1 80 113) ∧ tb_sum (tb_tis (A.1 80) t) (A.1 80 113) ≤ 360 := fun t => M.tB c3.1 (Int.le_refl _)
  have bits : ∀ t, 0 ≤ t → t < 64 → (tb_and t (tb_xor (tb_ts (A.1 80) (A.1 82)) (-1)) = 0 ∧ tb_and t (tb_ds (A.1 80) (A.1 82)) = 0 ↔ ∀ h, 0 ≤ h → h < 6 → tb_bt t h = 1 → h < A.1 80 113 ∧ A.1 82 (15 + h) = 0 ∧ A.1 82 (21 + h) = 0) := by
    intro t t0 t1
    have a := (tb_sub t0 t1 ts.1.1 ts.1.2).2.2.1
    have b := (te_ao t0 t1 ds.1.1 ds.1.2).1
    rw [a, b]
    refine ⟨fun q h h0 h1 e => ?_, fun q => ⟨fun h h0 h1 e => (ts.2 h h0 h1).mpr ?_, fun h h0 h1 e => ?_⟩⟩
    · have th := (ts.2 h h0 h1).mp (q.1 h h0 h1 e)
      have s21 := (M.s15 h0 h1).2
      have nd := q.2 h h0 h1 e
      refine ⟨th.1, th.2, ?_⟩
      by_cases z : A.1 82 (21 + h) = 1
      · have := (ds.2 h h0 h1).mpr ⟨th, z⟩
        omega
      · omega
    · have := q h h0 h1 e
      exact ⟨this.1, this.2.1⟩
    · rcases tb_bt01 (tb_ds (A.1 80) (A.1 82)) h with z | z
      · exact z
      · have := ((ds.2 h h0 h1).mp z).2
        have := (q h h0 h1 e).2.2
        omega
  have sat : ∀ t x, 0 ≤ t → t < 64 → ((∃ h, 0 ≤ h ∧ h < A.1 80 113 ∧ A.1 82 (15 + h) = 0 ∧ A.1 80 (33 + h) = x ∧ tb_bt (tb_or (tb_ds (A.1 80) (A.1 82)) t) h = 1) ↔ ∃ h, (0 ≤ h ∧ h < A.1 80 113) ∧ te_on (A.1 80) (A.1 82) x h ∧ (A.1 82 (21 + h) = 1 ∨ tb_bt t h = 1)) := by
    intro t x t0 t1
    have b := (te_ao ds.1.1 ds.1.2 t0 t1).2
    refine ⟨fun ⟨h, h0, h1, h2, h3, h4⟩ => ⟨h, ⟨h0, h1⟩, ⟨h2, h3⟩, ?_⟩, fun ⟨h, h01, h2, h4⟩ => ⟨h, h01.1, h01.2, h2.1, h2.2, ?_⟩⟩
    · rcases (b h h0 (by omega)).mp h4 with z | z
      · exact Or.inl ((ds.2 h h0 (by omega)).mp z).2
      · exact Or.inr z
    · refine (b h h01.1 (by omega)).mpr ?_
      rcases h4 with z | z
      · exact Or.inl ((ds.2 h h01.1 (by omega)).mpr ⟨⟨h01.2, h2.1⟩, z⟩)
      · exact Or.inr z
  refine q316 ?_
  rw [e255 M]
  have key := tb_lp (n := tb_shl 1 (A.1 80 113)) (E := fun i => ∀ (b : Int) (j4 j5 : tb_V), ((b = -2 ∧ ∀ t, 0 ≤ t → t < i → ¬ te_Fs (A.1 80) (A.1 82) (A.1 90) t) ∨ (0 ≤ b ∧ (∃ t, (0 ≤ t ∧ t < i) ∧ te_Fs (A.1 80) (A.1 82) (A.1 90) t ∧ tb_sum (tb_tis (A.1 80) t) (A.1 80 113) = b) ∧ ∀ t, 0 ≤ t → t < i → te_Fs (A.1 80) (A.1 82) (A.1 90) t → b ≤ tb_sum (tb_tis (A.1 80) t) (A.1 80 113))) → tb_E X 316 10 [tb_r 77, tb_i (tb_ds (A.1 80) (A.1 82)), tb_i b, tb_i i, j4, j5] [] A (tb_Ri 316 K)) (by omega) ?_ ?_
  · exact key (-2) _ _ (Or.inl ⟨rfl, fun t a b => absurd b (by omega)⟩)
  · intro b j4 j5 h
    refine q316_10 ⟨fun _ => k b ?_, fun q => absurd q (by omega)⟩
    have lt : ∀ t, te_Fs (A.1 80) (A.1 82) (A.1 90) t → 0 ≤ t ∧ t < tb_shl 1 (A.1 80 113) := by
      intro t F
      refine ⟨F.1.1, ?_⟩
      by_cases c : t < tb_shl 1 (A.1 80 113)
      · exact c
      · obtain ⟨h, h0, h1, h2⟩ := (tb_cut F.1.1 F.1.2 c3.1 c3.2).2 (by omega)
        have := (F.2.1 h (by omega) h1 h2).1
        omega
    rcases h with h | h
    · exact Or.inl ⟨h.1, fun t F => h.2 t (lt t F).1 (lt t F).2 F⟩
    · obtain ⟨t, t01, F, e⟩ := h.2.1
      exact Or.inr ⟨h.1, ⟨t, F, e⟩, fun t' F' => h.2.2 t' (lt t' F').1 (lt t' F').2 F'⟩
  · intro i i0 i1 ih b j4 j5 h
    have i6 : i < 64 := by omega
    have keep : (te_Fs (A.1 80) (A.1 82) (A.1 90) i → b ≠ -2 ∧ b ≤ tb_sum (tb_tis (A.1 80) i) (A.1 80 113)) → ∀ j4 j5 : tb_V, tb_E X 316 10 [tb_r 77, tb_i (tb_ds (A.1 80) (A.1 82)), tb_i b, tb_i (i + 1), j4, j5] [] A (tb_Ri 316 K) := by
      intro nb j4 j5
      refine ih b j4 j5 ?_
      rcases h with h | h
      · refine Or.inl ⟨h.1, fun t t0 t1 F => ?_⟩
        by_cases e : t = i
        · rw [e] at F; exact (nb F).1 h.1
        · exact h.2 t t0 (by omega) F
      · obtain ⟨t, t01, F, e⟩ := h.2.1
        refine Or.inr ⟨h.1, ⟨t, by omega, F, e⟩, fun t' t0 t1 F' => ?_⟩
        by_cases e' : t' = i
        · rw [e'] at F' ⊢; exact (nb F').2
        · exact h.2.2 t' t0 (by omega) F'
    refine q316_10 ⟨fun q => absurd q (by omega), fun _ => ?_⟩
    rw [e311 M, tb_w_id (x := i + 1) (by omega) (by omega)]
    have bt := bits i i0 i6
    refine ⟨fun q => keep (fun F => absurd (bt.mpr F.2.1).1 q) _ _, fun q1 => ⟨fun q2 => ?_, fun q => keep (fun F => absurd (bt.mpr F.2.1).2 q) _ _⟩⟩
    have good := bt.mp ⟨q1, q2⟩
    have ci := cost i
    have inner := tb_lp (n := A.1 80 114) (E := fun f => ∀ z : Int, ((z = 0 ∧ (te_Fs (A.1 80) (A.1 82) (A.1 90) i → b ≠ -2 ∧ b ≤ tb_sum (tb_tis (A.1 80) i) (A.1 80 113))) ∨ (z = 1 ∧ (b = -2 ∨ tb_sum (tb_tis (A.1 80) i) (A.1 80 113) < b) ∧ ∀ g, 0 ≤ g → g < f → A.1 82 (27 + g) = 0 → ∃ h, (0 ≤ h ∧ h < A.1 80 113) ∧ te_on (A.1 80) (A.1 82) (A.1 90 g) h ∧ (A.1 82 (21 + h) = 1 ∨ tb_bt i h = 1))) → tb_E X 316 68 [tb_r 77, tb_i (tb_ds (A.1 80) (A.1 82)), tb_i b, tb_i i, tb_i z, tb_i f] [] A (tb_Ri 316 K)) c4.1 ?_ ?_
    · refine ⟨fun e => inner 1 (Or.inr ⟨rfl, Or.inl e, fun g a b => absurd b (by omega)⟩), fun e => ?_⟩
      rw [e312 M]
      by_cases c : b ≤ tb_sum (tb_tis (A.1 80) i) (A.1 80 113)
      · rw [if_pos c]
        exact inner 0 (Or.inl ⟨rfl, fun _ => ⟨e, c⟩⟩)
      · rw [if_neg c]
        exact inner 1 (Or.inr ⟨rfl, Or.inr (by omega), fun g a b => absurd b (by omega)⟩)
    · intro z hz
      refine q316_68 ⟨fun _ => ?_, fun q => absurd q (by omega)⟩
      rw [tb_w_id (x := i + 1) (by omega) (by omega), e312 M]
      rcases hz with hz | hz
      · exact ⟨fun _ => keep hz.2 _ _, fun q => absurd hz.1 q⟩
      · refine ⟨fun q => by omega, fun _ => ih _ _ _ (Or.inr ⟨ci.1, ⟨i, by omega, ⟨⟨i0, i6⟩, good, fun f f0 f1 t => hz.2.2 f f0 f1 t⟩, rfl⟩, fun t t0 t1 F => ?_⟩)⟩
        by_cases e : t = i
        · rw [e]; exact Int.le_refl _
        · rcases h with h | h
          · exact absurd F (h.2 t t0 (by omega))
          · have := h.2.2 t t0 (by omega) F
            rcases hz.2.1 with y | y
            · omega
            · omega
    · intro f f0 f1 ihf z hz
      refine q316_68 ⟨fun q => absurd q (by omega), fun _ => ?_⟩
      rw [tb_w_id (x := i + 1) (by omega) (by omega), e312 M, tb_w_id (x := 27 + f) (by omega) (by omega), tb_w_id (x := f + 1) (by omega) (by omega)]
      rcases hz with hz | hz
      · exact ⟨fun _ => ⟨fun _ => keep hz.2 _ _, fun q => absurd hz.1 q⟩, fun q => absurd hz.1 q⟩
      · refine ⟨fun q => by omega, fun _ => ⟨⟨by omega, by omega⟩, fun t => ihf 1 (Or.inr ⟨rfl, hz.2.1, fun g g0 g1 gt => ?_⟩), fun t => ⟨⟨f0, by omega⟩, ?_⟩⟩⟩
        · by_cases e : g = f
          · rw [e] at gt; exact absurd gt t
          · exact hz.2.2 g g0 (by omega) gt
        · refine sp256 M (fun y => ?_) (fun y => ?_)
          · rw [if_neg (by decide)]
            refine ihf 1 (Or.inr ⟨rfl, hz.2.1, fun g g0 g1 gt => ?_⟩)
            by_cases e : g = f
            · rw [e]; exact (sat i (A.1 90 f) i0 i6).mp y
            · exact hz.2.2 g g0 (by omega) gt
          · rw [if_pos rfl]
            exact ihf 0 (Or.inl ⟨rfl, fun F => absurd ((sat i (A.1 90 f) i0 i6).mpr (F.2.2 f f0 f1 t)) y⟩)
theorem c184 (h : tb_Rel A) : tb_Ci X 184 [tb_r 0] A (tb_A2 X 315 [tb_r 77]) := by
  refine q184 ?_
  rcases h.t01 with t | t
  · rw [if_neg (fun q => q (h.told.trans t))]
    refine r6n (by decide) ?_
    refine q315 ?_
    rw [e201g]
    exact ⟨fun q => absurd (tb_g14.trans t) q, fun _ => tb_no h (by decide)⟩
  · have t0 : A.1 77 14 ≠ 0 := by rw [t]; decide
    have L := tb_Lu (k := 0) (h.L t0)
    rw [if_pos (by rw [h.told]; exact t0)]
    refine r6z ?_
    refine sp185 L (fun B n fB hB => ?_)
    have e80 : B.1 80 = (tb_upI A 0 13 0).1 80 := funext fun q => fB.1 80 q rfl rfl
    have e82 : B.1 82 = (tb_upI A 0 13 0).1 82 := funext fun q => fB.1 82 q rfl rfl
    have fA : tb_fr tb_S0 tb_F0 [] A B := (tb_fr.upI tb_fr.refl rfl).trans (fB.mono rfl rfl rfl)
    have M1 : tc_M (te_gg B) := L.M.c (by rw [td_upo (by decide), td_upo (by decide)]; exact e80) (by rw [td_upo (by decide), td_upo (by decide)]; exact e82)
    have c4 := M1.c114
    refine q315 ?_
    rw [e201]
    refine ⟨fun _ => ?_, fun q => absurd ((fA.1 77 14 rfl rfl).symm.trans q) t0⟩
    have key := tb_lp (n := (te_gg B).1 80 114) (E := fun i => ∀ C, tb_fr [90] [] [] (te_gg B) C → (∀ f, 0 ≤ f → f < i → C.1 90 f = (te_gg B).1 82 (31 + f)) → tb_E X 315 19 [tb_r 77, tb_i i] [] C (tb_Ri 315 (fun v' A2 => n = v' ∧ tb_Rel A2))) c4.1 ?_ ?_
    · exact key (te_gg B) tb_fr.refl (fun f a b => absurd b (by omega))
    · intro C fC hC
      have g80 : C.1 80 = (te_gg B).1 80 := funext fun q => fC.1 80 q rfl rfl
      have g82 : C.1 82 = (te_gg B).1 82 := funext fun q => fC.1 82 q rfl rfl
      refine q315_19 ⟨fun _ => ?_, fun q => absurd q (by rw [g80]; omega)⟩
      refine sp316 (M1.c g80 g82) (fun v hv => ⟨?_, ?_⟩)
      · rw [g80, g82] at hv
        have ag : te_ag ((te_gg B).1 80) ((te_gg B).1 82) (fun f => (te_gg B).1 82 (31 + f)) (C.1 90) := fun f f0 f1 _ => (hC f f0 f1).symm
        have hv2 := ag.T hv
        rw [td_upo (show 80 ≠ 77 by decide), td_upo (show 80 ≠ 77 by decide), td_upo (show 82 ≠ 77 by decide), td_upo (show 82 ≠ 77 by decide), e80, e82] at hv2
        exact hB.u hv2
      · refine te_fin h ((tb_fr.upI (tb_fr.upI fA rfl) rfl).trans (fC.mono rfl rfl rfl)) ?_ ?_
        · rw [fC.1 0 13 rfl rfl, fC.1 77 11 rfl rfl, tb_uI_s, td_upo (by decide), td_upo (by decide), fB.1 0 13 rfl rfl, tb_uI_s]
        · rw [fC.1 77 11 rfl rfl, tb_uI_s]
          decide
    · intro i i0 i1 ih C fC hC
      have g80 : C.1 80 = (te_gg B).1 80 := funext fun q => fC.1 80 q rfl rfl
      refine q315_19 ⟨fun q => absurd q (by rw [g80]; omega), fun _ => ?_⟩
      rw [tb_w_id (x := 31 + i) (by omega) (by omega), tb_w_id (x := i + 1) (by omega) (by omega)]
      refine ⟨⟨by omega, by omega⟩, ⟨i0, by omega⟩, ih _ (tb_fr.upI fC rfl) (fun f f0 f1 => ?_)⟩
      by_cases e : f = i
      · rw [e, tb_uI_s]
        exact fC.1 82 (31 + i) rfl rfl
      · rw [tb_uI_k e]; exact hC f f0 (by omega)
end TEMUST
