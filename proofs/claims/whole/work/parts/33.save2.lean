/-! save, saved: the class's half, the calls -/
section TBSAVE2
variable {X : tb_X} {A D : tb_H} {K : Int → tb_H → Prop} {Kv : tb_H → Prop}
def tb_okh (r s : Int → Int) (x h : Int) : Prop := (tb_bt x h = 1 → tb_the r s h) ∧ (tb_bt x h = 0 → ¬ (tb_the r s h ∧ s (21 + h) = 1))
theorem sp182 (L : tb_L A) {x m : Int} (k1 : tb_Fe (A.1 80) (A.1 82) m x → K 1 A) (k0 : ¬ tb_Fe (A.1 80) (A.1 82) m x → K 0 A) : tb_Ci X 182 [tb_r 4, tb_i x, tb_i m] A K := by
  have c := L.c113
  have M := L.M
  refine q182 ?_
  have hs : ∀ i, 0 ≤ i → i ≤ 6 → 0 ≤ tb_sum (fun h => if h < A.1 80 113 then tb_ned (A.1 80) (A.1 82) x h else 0) i ∧ tb_sum (fun h => if h < A.1 80 113 then tb_ned (A.1 80) (A.1 82) x h else 0) i ≤ 6 * 60 := fun i i0 i1 => tb_sum_bd i0 i1 (by decide) (fun j a b => by
    by_cases e : j < A.1 80 113
    · have := L.v45 a e
      rw [if_pos e]
      unfold tb_ned
      split <;> omega
    · rw [if_neg e]
      omega)
  have fin : tb_sum (fun h => if h < A.1 80 113 then tb_ned (A.1 80) (A.1 82) x h else 0) 6 = tb_N (A.1 80) (A.1 82) x := by
    rw [tb_sum_cut c.1 6 c.2 (fun i a _ => if_neg (by omega))]
    exact tb_sum_congr c.1 (fun i _ b => if_pos b)
  have key := tb_lp (n := 6) (E := fun i => (∀ h, 0 ≤ h → h < i → tb_okh (A.1 80) (A.1 82) x h) → ∀ j5 j6 : tb_V, tb_E X 182 5 [tb_r 4, tb_i x, tb_i m, tb_i (tb_sum (fun h => if h < A.1 80 113 then tb_ned (A.1 80) (A.1 82) x h else 0) i), tb_i i, j5, j6] [] A (tb_Ri 182 K)) (by decide) ?_ ?_
  · exact key (fun h a b => by omega) _ _
  · intro ok j5 j6
    refine q182_5 ⟨fun _ => ?_, fun q => absurd q (by decide)⟩
    rw [fin]
    by_cases e : tb_N (A.1 80) (A.1 82) x ≤ m
    · rw [if_neg (by omega)]
      exact k1 ⟨fun h h0 h1 => ok h h0 h1, e⟩
    · rw [if_pos (by omega)]
      exact k0 (fun f => e f.2)
  · intro i i0 i1 ih ok j5 j6
    have b := hs i i0 (by omega)
    rw [tb_sum_s i0] at ih
    have s21 := (L.s15 i0 i1).2
    have nx : tb_okh (A.1 80) (A.1 82) x i → ∀ h, 0 ≤ h → h < i + 1 → tb_okh (A.1 80) (A.1 82) x h := by
      intro o h h0 h1
      by_cases e : h = i
      · rw [e]; exact o
      · exact ok h h0 (by omega)
    refine q182_5 ⟨fun q => by omega, fun _ => ?_⟩
    rw [e64 L i0 i1, tb_w_id (x := i + 1) (by omega) (by omega)]
    rcases tb_bt01 x i with z | z
    · have e0 : (if i < A.1 80 113 then tb_ned (A.1 80) (A.1 82) x i else 0) = 0 := by
        unfold tb_ned
        rw [if_neg (show ¬ (tb_bt x i = 1 ∧ A.1 82 (21 + i) = 0) from fun q => by omega)]
        split <;> rfl
      rw [e0, Int.add_zero] at ih
      have z' : tb_and (tb_shr x i) 1 = 0 := z
      simp only [if_pos z']
      refine ⟨fun _ => ⟨fun v0 => ⟨fun _ => ih (nx ⟨fun q => by omega, fun _ w => ?_⟩) _ _, fun q => absurd rfl q⟩, fun v1 => ?_⟩, fun q => absurd rfl q⟩
      · rw [if_pos (show i < A.1 80 113 ∧ A.1 82 (15 + i) = 0 from w.1)] at v0
        exact absurd v0 (by decide)
      · rw [e101 L i0 i1]
        refine ⟨fun w => ⟨fun _ => ih (nx ⟨fun q => by omega, fun _ u => by omega⟩) _ _, fun q => absurd rfl q⟩, fun w => k0 (fun f => ?_)⟩
        by_cases th : i < A.1 80 113 ∧ A.1 82 (15 + i) = 0
        · exact (f.1 i i0 i1).2 z ⟨th, by omega⟩
        · rw [if_neg th] at v1
          exact absurd rfl v1
    · have z' : tb_and (tb_shr x i) 1 = 1 := z
      simp only [if_neg (show ¬ tb_and (tb_shr x i) 1 = 0 by rw [z']; decide)]
      refine ⟨fun q => absurd q (by decide), fun _ => ⟨fun v1 => ⟨fun q => absurd q (by decide), fun _ => ?_⟩, fun v0 => k0 (fun f => ?_)⟩⟩
      · have th : i < A.1 80 113 ∧ A.1 82 (15 + i) = 0 := by
          by_cases th : i < A.1 80 113 ∧ A.1 82 (15 + i) = 0
          · exact th
          · rw [if_neg th] at v1
            exact absurd rfl v1
        have v := L.v45 i0 th.1
        have o : tb_okh (A.1 80) (A.1 82) x i := ⟨fun _ => th, fun q => by omega⟩
        rw [if_pos th.1] at ih
        unfold tb_ned at ih
        unfold tb_ned at b ⊢
        rw [e101 L i0 i1]
        refine ⟨fun w => ?_, fun w => ⟨L.b, ?_⟩⟩
        · rw [if_neg (fun q => w q.2), Int.add_zero] at ih
          exact ih (nx o) _ _
        · rw [if_pos ⟨z, w⟩] at ih
          rw [e41_32 L i0 th.1, tb_w_id (x := _ + A.1 80 (45 + i)) (by omega) (by omega)]
          exact ih (nx o) _ _
      · have th := (f.1 i i0 i1).1 z
        rw [if_pos (show i < A.1 80 113 ∧ A.1 82 (15 + i) = 0 from th)] at v0
        exact absurd v0 (by decide)
theorem sp180 (L : tb_L A) {m : Int} (hm : 0 ≤ m) (k : ∀ b, tb_Be (A.1 80) (A.1 82) m b → K b A) : tb_Ci X 180 [tb_r 4, tb_i m] A K := by
  have M := L.M
  have c := M.c113
  have d := M.dsb
  have wp : ∀ x, 0 ≤ tc_W (A.1 80) x ∧ tc_W (A.1 80) x ≤ 594 := fun x => M.wB c.1 (Int.le_refl _)
  refine q180 ?_
  have key := tb_lp (n := 64) (E := fun i => ∀ (b w : Int) (j : tb_V), ((b = 0 ∧ w = -1 ∧ ∀ x, 0 ≤ x → x < i → ¬ tb_Fe (A.1 80) (A.1 82) m x) ∨ ((0 ≤ b ∧ b < i) ∧ w = tc_W (A.1 80) b ∧ tb_Fe (A.1 80) (A.1 82) m b ∧ ∀ x, 0 ≤ x → x < i → tb_Fe (A.1 80) (A.1 82) m x → tc_W (A.1 80) x < tc_W (A.1 80) b ∨ (tc_W (A.1 80) x = tc_W (A.1 80) b ∧ b ≤ x))) → tb_E X 180 7 [tb_r 4, tb_i m, tb_i b, tb_i w, tb_i i, j] [] A (tb_Ri 180 K)) (by decide) ?_ ?_
  · exact key _ _ _ (Or.inl ⟨rfl, rfl, fun x a b => by omega⟩)
  · intro b w j h
    refine q180_7 ⟨fun _ => k b ?_, fun q => absurd q (by decide)⟩
    rcases h with h | h
    · exact absurd (M.feD hm) (h.2.2 _ d.1.1 d.1.2)
    · exact ⟨h.1, h.2.2.1, h.2.2.2⟩
  · intro i i0 i1 ih b w j h
    refine q180_7 ⟨fun q => by omega, fun _ => ?_⟩
    have wi := wp i
    have wb := wp b
    rw [e181 L, tb_w_id (x := i + 1) (by omega) (by omega)]
    refine ⟨fun q => ih b w _ ?_, fun q => ?_⟩
    · rcases h with h | h
      · omega
      · refine Or.inr ⟨by omega, h.2.1, h.2.2.1, fun x x0 x1 fx => ?_⟩
        by_cases e : x = i
        · rw [e]
          by_cases u : tc_W (A.1 80) i = tc_W (A.1 80) b
          · exact Or.inr ⟨u, by omega⟩
          · exact Or.inl (by omega)
        · exact h.2.2.2 x x0 (by omega) fx
    · refine sp182 L (fun f => ⟨fun q => absurd q (by decide), fun _ => ih i _ _ (Or.inr ⟨by omega, rfl, f, fun x x0 x1 fx => ?_⟩)⟩) (fun f => ⟨fun _ => ih b w _ ?_, fun q => absurd rfl q⟩)
      · by_cases e : x = i
        · rw [e]
          exact Or.inr ⟨rfl, Int.le_refl _⟩
        · rcases h with h | h
          · exact absurd fx (h.2.2 x x0 (by omega))
          · have := h.2.2.2 x x0 (by omega) fx
            exact Or.inl (by omega)
      · rcases h with h | h
        · refine Or.inl ⟨h.1, h.2.1, fun x x0 x1 fx => ?_⟩
          by_cases e : x = i
          · rw [e] at fx; exact f fx
          · exact h.2.2 x x0 (by omega) fx
        · refine Or.inr ⟨by omega, h.2.1, h.2.2.1, fun x x0 x1 fx => ?_⟩
          by_cases e : x = i
          · rw [e] at fx; exact absurd fx f
          · exact h.2.2.2 x x0 (by omega) fx
theorem c178 (h : tb_Rel A) {m : Int} : tb_Ci X 178 [tb_r 0, tb_i m] A (tb_A2 X 308 [tb_r 77, tb_i m]) := by
  refine q178 (q179 ?_)
  rcases h.t01 with t | t
  · refine ⟨fun q => absurd (h.told.trans t) q, fun _ => r6n (by decide) ?_⟩
    refine q308 ?_
    rw [e201g]
    refine q309 ⟨fun q => absurd (tb_g14.trans t) q, fun _ => ?_⟩
    exact ⟨fun q => absurd q (by decide), fun _ => tb_no h (by decide)⟩
  · have t0 : A.1 77 14 ≠ 0 := by rw [t]; decide
    have L := h.L t0
    refine ⟨fun _ => ?_, fun q => absurd (h.told.symm.trans q) t0⟩
    by_cases hm : 0 ≤ m ∧ m ≤ 360
    · rw [e5f hm, if_pos rfl]
      refine r6z ?_
      refine sp180 (tb_Lu L) hm.1 ?_
      intro b hb
      rw [tb_u80, tb_u82] at hb
      rw [e181 (tb_Lu L), tb_u80]
      refine q308 ?_
      rw [e201g]
      refine q309 ⟨fun _ => ?_, fun q => absurd (tb_g14.symm.trans q) t0⟩
      rw [e202t hm, if_neg (by decide)]
      refine ⟨fun _ => ?_, fun q => absurd rfl q⟩
      refine sp310 (tb_gL L).M hm.1 ?_
      intro b' hb'
      rw [tb_g80, tb_g82] at hb'
      rw [e313 (tb_gL L).M, tb_g80, hb.u hb']
      exact ⟨rfl, h.g0⟩
    · rw [e5t hm, if_neg (by decide)]
      refine r6n (by decide) ?_
      refine q308 ?_
      rw [e201g]
      refine q309 ⟨fun _ => ?_, fun q => absurd (tb_g14.symm.trans q) t0⟩
      rw [e202f hm, if_pos rfl]
      exact ⟨fun q => absurd q (by decide), fun _ => tb_no h (by decide)⟩
theorem c183 (h : tb_Rel A) {m : Int} : tb_Ci X 183 [tb_r 0, tb_i m] A (tb_A2 X 314 [tb_r 77, tb_i m]) := by
  refine q183 (q179 ?_)
  rcases h.t01 with t | t
  · refine ⟨fun q => absurd (h.told.trans t) q, fun _ => r6n (by decide) ?_⟩
    refine q314 ?_
    rw [e201g]
    refine q309 ⟨fun q => absurd (tb_g14.trans t) q, fun _ => ?_⟩
    exact ⟨fun q => absurd q (by decide), fun _ => tb_no h (by decide)⟩
  · have t0 : A.1 77 14 ≠ 0 := by rw [t]; decide
    have L := h.L t0
    refine ⟨fun _ => ?_, fun q => absurd (h.told.symm.trans q) t0⟩
    by_cases hm : 0 ≤ m ∧ m ≤ 360
    · rw [e5f hm, if_pos rfl]
      refine r6z ?_
      refine sp180 (tb_Lu L) hm.1 ?_
      intro b hb
      rw [tb_u80, tb_u82] at hb
      refine q314 ?_
      rw [e201g]
      refine q309 ⟨fun _ => ?_, fun q => absurd (tb_g14.symm.trans q) t0⟩
      rw [e202t hm, if_neg (by decide)]
      refine ⟨fun _ => ?_, fun q => absurd rfl q⟩
      refine sp310 (tb_gL L).M hm.1 ?_
      intro b' hb'
      rw [tb_g80, tb_g82] at hb'
      exact ⟨hb.u hb', h.g0⟩
    · rw [e5t hm, if_neg (by decide)]
      refine r6n (by decide) ?_
      refine q314 ?_
      rw [e201g]
      refine q309 ⟨fun _ => ?_, fun q => absurd (tb_g14.symm.trans q) t0⟩
      rw [e202f hm, if_pos rfl]
      exact ⟨fun q => absurd q (by decide), fun _ => tb_no h (by decide)⟩
end TBSAVE2
