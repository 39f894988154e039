/-! fits: the second table, the count, the call -/
section TBFITS4
variable {X : tb_X} {A B : tb_H} {K : Int → tb_H → Prop} {Kv : tb_H → Prop}
def td_in (A : tb_H) (r : Int → Int) (d s : Int) : Prop := r (800 * d + s) = if d = 0 then td_bb (td_ss A 0 s) else 0
theorem td_bk_up {r : Int → Int} (hb : td_bk A (B.1 99)) {j w : Int} : td_bk A ((tb_upI B 100 j w).1 99) := hb
theorem l304i (hG : tb_RG A) (hk : ∀ B x3 x4 x5, td_fr3 A B → td_bk A (B.1 99) → (∀ d, 0 ≤ d → d ≤ td_LA A → ∀ s, 0 ≤ s → s < 800 → td_in A (B.1 100) d s) → tb_E X 304 181 [tb_r 77, tb_i (td_LA A), tb_i 0, x3, x4, x5] [] B (tb_Rv 304 Kv)) : tb_Cv X 304 [tb_r 77] A Kv := by
  have l := td_LAb hG
  refine l304b hG ?_
  have key : ∀ B x3 x4 x5, td_fr3 A B → td_bk A (B.1 99) → (∀ d, 0 ≤ d → d < 0 → ∀ s, 0 ≤ s → s < 800 → td_in A (B.1 100) d s) → tb_E X 304 123 [tb_r 77, tb_i (td_LA A), tb_i 0, x3, x4, x5] [] B (tb_Rv 304 Kv) := by
    refine tb_lp (E := fun d => ∀ B x3 x4 x5, td_fr3 A B → td_bk A (B.1 99) → (∀ d', 0 ≤ d' → d' < d → ∀ s, 0 ≤ s → s < 800 → td_in A (B.1 100) d' s) → tb_E X 304 123 [tb_r 77, tb_i (td_LA A), tb_i d, x3, x4, x5] [] B (tb_Rv 304 Kv)) (n := td_LA A + 1) (by omega) ?_ ?_
    · intro B x3 x4 x5 f hb hi
      exact q304_123 ⟨fun _ => hk B _ _ _ f hb (fun d a b => hi d a (by omega)), fun q => absurd q (by omega)⟩
    · intro d d0 d1 ih B x3 x4 x5 f hb hi
      refine q304_123 ⟨fun q => absurd q (by omega), fun _ => ?_⟩
      have row : ∀ B x4 x5, td_fr3 A B → td_bk A (B.1 99) → (∀ d', 0 ≤ d' → d' < d → ∀ s, 0 ≤ s → s < 800 → td_in A (B.1 100) d' s) → (∀ s, 0 ≤ s → s < 0 → td_in A (B.1 100) d s) → tb_E X 304 130 [tb_r 77, tb_i (td_LA A), tb_i d, tb_i 0, x4, x5] [] B (tb_Rv 304 Kv) := by
        refine tb_lp (E := fun i => ∀ B x4 x5, td_fr3 A B → td_bk A (B.1 99) → (∀ d', 0 ≤ d' → d' < d → ∀ s, 0 ≤ s → s < 800 → td_in A (B.1 100) d' s) → (∀ s, 0 ≤ s → s < i → td_in A (B.1 100) d s) → tb_E X 304 130 [tb_r 77, tb_i (td_LA A), tb_i d, tb_i i, x4, x5] [] B (tb_Rv 304 Kv)) (n := 800) (by decide) ?_ ?_
        · intro B x4 x5 f hb hi hc
          refine q304_130 ⟨fun _ => ?_, fun q => absurd q (by decide)⟩
          rw [tb_w_id (x := d + 1) (by omega) (by omega)]
          refine ih B _ _ _ f hb (fun d' a b => ?_)
          by_cases e : d' = d
          · rw [e]; exact hc
          · exact hi d' a (by omega)
        · intro i i0 i1 ih2 B x4 x5 f hb hi hc
          have go : ∀ w, w = (if d = 0 then td_bb (td_ss A 0 i) else 0 : Int) → tb_E X 304 130 [tb_r 77, tb_i (td_LA A), tb_i d, tb_i (i + 1), x4, x5] [] (tb_upI B 100 (800 * d + i) w) (tb_Rv 304 Kv) := by
            intro w hw
            refine ih2 _ _ _ (tb_fr.upI f rfl) hb (fun d' a b s s0 s1 => ?_) (fun s s0 s1 => ?_)
            · unfold td_in
              rw [show (tb_upI B 100 (800 * d + i) w).1 100 (800 * d' + s) = B.1 100 (800 * d' + s) from if_neg (fun z => by omega)]
              exact hi d' a b s s0 s1
            · by_cases e : s = i
              · unfold td_in
                rw [e, ← hw]
                exact if_pos ⟨rfl, rfl⟩
              · unfold td_in
                rw [show (tb_upI B 100 (800 * d + i) w).1 100 (800 * d + s) = B.1 100 (800 * d + s) from if_neg (fun z => by omega)]
                exact hc s s0 (by omega)
          refine q304_130 ⟨fun q => absurd q (by omega), fun _ => ⟨fun n => ?_, fun n => ?_⟩⟩
          · rw [td_ixw d0 (by omega) i0 i1, tb_w_id (x := i + 1) (by omega) (by omega)]
            exact ⟨⟨by omega, by omega⟩, go 0 (if_neg n).symm⟩
          · rw [e306s hG f i0 i1, td_ixw d0 (by omega) i0 i1, tb_w_id (x := i + 1) (by omega) (by omega), td_bn]
            exact ⟨⟨by omega, by omega⟩, go _ (if_pos n).symm⟩
      exact row B _ _ f hb hi (fun s a b => absurd b (by omega))
  intro B x3 x4 x5 f hb
  exact key B x3 x4 x5 f hb (fun d a b => absurd b (by omega))
/-- one day's row of the second table under way -/
def td_pr (A : tb_H) (d : Int) (Q : Int → Int → Prop) (r : Int → Int) : Prop := ∀ z, 0 ≤ z → z < 800 → (r (800 * (d + 1) + z) ≠ 0 ↔ td_ss A (d + 1) z = true ∧ ∃ a b, Q a b ∧ td_gp A d.toNat a ∧ td_af a b = z)
theorem td_pr_u {d s t w : Int} {Q Q' : Int → Int → Prop} (h : td_pr A d Q (B.1 100)) (hg : td_gp A d.toNat s) (hw : w ≠ 0 ↔ B.1 100 (800 * (d + 1) + td_af s t) ≠ 0 ∨ td_ss A (d + 1) (td_af s t) = true) (hQ : ∀ a b, Q' a b ↔ Q a b ∨ (a = s ∧ b = t)) : td_pr A d Q' ((tb_upI B 100 (800 * (d + 1) + td_af s t) w).1 100) := by
  intro z z0 z1
  have hz := h z z0 z1
  by_cases e : z = td_af s t
  · rw [e, show (tb_upI B 100 (800 * (d + 1) + td_af s t) w).1 100 (800 * (d + 1) + td_af s t) = w from if_pos ⟨rfl, rfl⟩, hw]
    rw [e] at hz
    constructor
    · rintro (q | q)
      · obtain ⟨k1, a, b, k2, k3⟩ := hz.mp q
        exact ⟨k1, a, b, (hQ a b).mpr (Or.inl k2), k3⟩
      · exact ⟨q, s, t, (hQ s t).mpr (Or.inr ⟨rfl, rfl⟩), hg, rfl⟩
    · exact fun q => Or.inr q.1
  · rw [show (tb_upI B 100 (800 * (d + 1) + td_af s t) w).1 100 (800 * (d + 1) + z) = B.1 100 (800 * (d + 1) + z) from if_neg (fun y => by omega), hz]
    constructor
    · rintro ⟨k1, a, b, k2, k3⟩
      exact ⟨k1, a, b, (hQ a b).mpr (Or.inl k2), k3⟩
    · rintro ⟨k1, a, b, k2, k3, k4⟩
      refine ⟨k1, a, b, ?_, k3, k4⟩
      rcases (hQ a b).mp k2 with q | q
      · exact q
      · exact absurd (by rw [← k4, q.1, q.2]) e
theorem td_pr_q {d : Int} {Q Q' : Int → Int → Prop} {r : Int → Int} (h : td_pr A d Q r) (hQ : ∀ a b, td_gp A d.toNat a → (Q' a b ↔ Q a b)) : td_pr A d Q' r := by
  intro z z0 z1
  rw [h z z0 z1]
  constructor
  · rintro ⟨k1, a, b, k2, k3, k4⟩
    exact ⟨k1, a, b, (hQ a b k3).mpr k2, k3, k4⟩
  · rintro ⟨k1, a, b, k2, k3, k4⟩
    exact ⟨k1, a, b, (hQ a b k3).mp k2, k3, k4⟩
def td_qs (s t a b : Int) : Prop := (0 ≤ a ∧ a < 800) ∧ (0 ≤ b ∧ b ≤ 2) ∧ (a < s ∨ (a = s ∧ b < t))
/-- what holds while day d is carried on -/
def td_dd (A B : tb_H) (d s t : Int) : Prop := td_fr3 A B ∧ td_bk A (B.1 99) ∧ (∀ d', 0 ≤ d' → d' ≤ d → td_gr A (B.1 100) d') ∧ td_pr A d (td_qs s t) (B.1 100) ∧ ∀ d', d + 1 < d' → d' ≤ td_LA A → ∀ z, 0 ≤ z → z < 800 → B.1 100 (800 * d' + z) = 0
theorem l304s (hG : tb_RG A) {d s : Int} (d0 : 0 ≤ d) (d1 : d < td_LA A) (s0 : 0 ≤ s) (s1 : s < 800) (hg : td_gp A d.toNat s)
    (hk : ∀ B x4 x5, td_dd A B d s 3 → tb_E X 304 188 [tb_r 77, tb_i (td_LA A), tb_i d, tb_i (s + 1), x4, x5] [] B (tb_Rv 304 Kv)) : ∀ B x5, td_dd A B d s 0 → tb_E X 304 216 [tb_r 77, tb_i (td_LA A), tb_i d, tb_i s, tb_i 0, x5] [] B (tb_Rv 304 Kv) := by
  have l := td_LAb hG
  refine tb_lp (E := fun t => ∀ B x5, td_dd A B d s t → tb_E X 304 216 [tb_r 77, tb_i (td_LA A), tb_i d, tb_i s, tb_i t, x5] [] B (tb_Rv 304 Kv)) (n := 3) (by decide) ?_ ?_
  · intro B x5 h
    refine q304_216 ⟨fun _ => ?_, fun q => absurd q (by decide)⟩
    rw [tb_w_id (x := s + 1) (by omega) (by omega)]
    exact hk B _ _ h
  · intro t t0 t1 ih B x5 h
    have af := td_afB s0 s1 t0 (by omega : t ≤ 2)
    obtain ⟨hf, hb, hr, hp, hz⟩ := h
    refine q304_216 ⟨fun q => absurd q (by omega), fun _ => ?_⟩
    refine e292s s0 s1 t0 (by omega) (fun B1 f1 => ?_)
    have g100 : B1.1 100 = B.1 100 := funext (fun k => f1.1 100 k rfl rfl)
    have g99 : B1.1 99 = B.1 99 := funext (fun k => f1.1 99 k rfl rfl)
    have hf1 : td_fr3 A B1 := hf.trans (f1.mono rfl rfl rfl)
    rw [tb_w_id (x := d + 1) (by omega) (by omega), td_ixw (d := d + 1) (by omega) (by omega) af.1 af.2.1, tb_w_id (x := t + 1) (by omega) (by omega)]
    have go : ∀ w x5, (w ≠ 0 ↔ B1.1 100 (800 * (d + 1) + td_af s t) ≠ 0 ∨ td_ss A (d + 1) (td_af s t) = true) → tb_E X 304 216 [tb_r 77, tb_i (td_LA A), tb_i d, tb_i s, tb_i (t + 1), x5] [] (tb_upI B1 100 (800 * (d + 1) + td_af s t) w) (tb_Rv 304 Kv) := by
      intro w x5 hw
      refine ih _ x5 ⟨tb_fr.upI hf1 rfl, ?_, fun d' a b z z0 z1 => ?_, ?_, fun d' a b z z0 z1 => ?_⟩
      · show td_bk A (B1.1 99)
        rw [g99]; exact hb
      · rw [show (tb_upI B1 100 (800 * (d + 1) + td_af s t) w).1 100 (800 * d' + z) = B1.1 100 (800 * d' + z) from if_neg (fun y => by omega), g100]
        exact hr d' a b z z0 z1
      · refine td_pr_u (Q := td_qs s t) (by rw [g100]; exact hp) hg hw (fun a b => ?_)
        unfold td_qs
        constructor
        · rintro ⟨k1, k2, k3⟩
          by_cases e : a = s ∧ b = t
          · exact Or.inr e
          · exact Or.inl ⟨k1, k2, by omega⟩
        · rintro (⟨k1, k2, k3⟩ | k)
          · exact ⟨k1, k2, by omega⟩
          · exact ⟨by omega, by omega, by omega⟩
      · rw [show (tb_upI B1 100 (800 * (d + 1) + td_af s t) w).1 100 (800 * d' + z) = B1.1 100 (800 * d' + z) from if_neg (fun y => by omega), g100]
        exact hz d' a b z z0 z1
    refine ⟨⟨by omega, by omega⟩, fun q => ⟨⟨by omega, by omega⟩, go 1 _ ⟨fun _ => Or.inl q, fun _ => by decide⟩⟩, fun q => ?_⟩
    rw [e306s hG hf1 af.1 af.2.1, td_bn]
    refine ⟨⟨by omega, by omega⟩, go _ _ ?_⟩
    show td_bb (td_ss A (d + 1) (td_af s t)) ≠ 0 ↔ _
    cases c : td_ss A (d + 1) (td_af s t)
    · exact ⟨fun z => absurd rfl z, fun z => by rcases z with z | z; exact absurd q z; exact absurd z (by decide)⟩
    · exact ⟨fun _ => Or.inr rfl, fun _ => by decide⟩
theorem sp304 (hG : tb_RG A) (hk : ∀ B, td_fr3 A B → td_bk A (B.1 99) → (∀ d, 0 ≤ d → d ≤ td_LA A → td_gr A (B.1 100) d) → Kv B) : tb_Cv X 304 [tb_r 77] A Kv := by
  have l := td_LAb hG
  refine l304i hG ?_
  have key : ∀ B x3 x4 x5, td_fr3 A B → td_bk A (B.1 99) → (∀ d', 0 ≤ d' → d' ≤ 0 → td_gr A (B.1 100) d') → (∀ d', 0 < d' → d' ≤ td_LA A → ∀ z, 0 ≤ z → z < 800 → B.1 100 (800 * d' + z) = 0) → tb_E X 304 181 [tb_r 77, tb_i (td_LA A), tb_i 0, x3, x4, x5] [] B (tb_Rv 304 Kv) := by
    refine tb_lp (E := fun d => ∀ B x3 x4 x5, td_fr3 A B → td_bk A (B.1 99) → (∀ d', 0 ≤ d' → d' ≤ d → td_gr A (B.1 100) d') → (∀ d', d < d' → d' ≤ td_LA A → ∀ z, 0 ≤ z → z < 800 → B.1 100 (800 * d' + z) = 0) → tb_E X 304 181 [tb_r 77, tb_i (td_LA A), tb_i d, x3, x4, x5] [] B (tb_Rv 304 Kv)) (n := td_LA A) l.1 ?_ ?_
    · intro B x3 x4 x5 f hb hr hz
      exact q304_181 ⟨fun _ => hk B f hb hr, fun q => absurd q (by omega)⟩
    · intro d d0 d1 ih B x3 x4 x5 f hb hr hz
      refine q304_181 ⟨fun q => absurd q (by omega), fun _ => ?_⟩
      have row : ∀ B x4 x5, td_dd A B d 0 0 → tb_E X 304 188 [tb_r 77, tb_i (td_LA A), tb_i d, tb_i 0, x4, x5] [] B (tb_Rv 304 Kv) := by
        refine tb_lp (E := fun i => ∀ B x4 x5, td_dd A B d i 0 → tb_E X 304 188 [tb_r 77, tb_i (td_LA A), tb_i d, tb_i i, x4, x5] [] B (tb_Rv 304 Kv)) (n := 800) (by decide) ?_ ?_
        · intro B x4 x5 h
          refine q304_188 ⟨fun _ => ?_, fun q => absurd q (by decide)⟩
          rw [tb_w_id (x := d + 1) (by omega) (by omega)]
          refine ih B _ _ _ h.1 h.2.1 (fun d' a b => ?_) (fun d' a b => h.2.2.2.2 d' a b)
          by_cases e : d' = d + 1
          · subst e
            intro z z0 z1
            rw [h.2.2.2.1 z z0 z1]
            obtain ⟨n, rfl⟩ := Int.eq_ofNat_of_zero_le d0
            show _ ↔ td_ss A ((n : Int) + 1) z = true ∧ ∃ s' t, (0 ≤ s' ∧ s' < 800) ∧ (0 ≤ t ∧ t ≤ 2) ∧ td_gp A n s' ∧ td_af s' t = z
            constructor
            · rintro ⟨k1, a, b, k2, k3, k4⟩
              exact ⟨k1, a, b, k2.1, k2.2.1, k3, k4⟩
            · rintro ⟨k1, a, b, k2, k3, k4, k5⟩
              exact ⟨k1, a, b, ⟨k2, k3, Or.inl k2.2⟩, k4, k5⟩
          · exact h.2.2.1 d' a (by omega)
        · intro i i0 i1 ih2 B x4 x5 h
          refine q304_188 ⟨fun q => absurd q (by omega), fun _ => ?_⟩
          rw [td_ixw d0 (by omega) i0 i1]
          have gr := h.2.2.1 d d0 (Int.le_refl _) i i0 i1
          refine ⟨⟨by omega, by omega⟩, fun q => ?_, fun q => ?_⟩
          · refine l304s hG d0 d1 i0 i1 (gr.mp q) (fun B1 x4 x5 h1 => ?_) B _ h
            refine ih2 B1 _ _ ⟨h1.1, h1.2.1, h1.2.2.1, td_pr_q h1.2.2.2.1 (fun a b _ => ?_), h1.2.2.2.2⟩
            unfold td_qs
            constructor
            · rintro ⟨k1, k2, k3⟩
              exact ⟨k1, k2, by omega⟩
            · rintro ⟨k1, k2, k3⟩
              exact ⟨k1, k2, by omega⟩
          · rw [tb_w_id (x := i + 1) (by omega) (by omega)]
            refine ih2 B _ _ ⟨h.1, h.2.1, h.2.2.1, td_pr_q h.2.2.2.1 (fun a b g => ?_), h.2.2.2.2⟩
            have ne : a ≠ i := fun e => gr.mpr (e ▸ g) q
            unfold td_qs
            constructor
            · rintro ⟨k1, k2, k3⟩
              exact ⟨k1, k2, by omega⟩
            · rintro ⟨k1, k2, k3⟩
              exact ⟨k1, k2, by omega⟩
      refine row B _ _ ⟨f, hb, hr, fun z z0 z1 => ?_, fun d' a b => hz d' (by omega) b⟩
      rw [hz (d + 1) (by omega) (by omega) z z0 z1]
      refine ⟨fun q => absurd rfl q, fun q => ?_⟩
      obtain ⟨k1, a, b, k2, k3⟩ := q
      unfold td_qs at k2
      omega
  intro B x3 x4 x5 f hb hi
  refine key B x3 x4 x5 f hb (fun d' a b z z0 z1 => ?_) (fun d' a b z z0 z1 => ?_)
  · have : d' = 0 := by omega
    subst this
    have := hi 0 (by decide) l.1 z z0 z1
    unfold td_in at this
    rw [this, if_pos rfl]
    show _ ↔ td_ss A 0 z = true
    cases td_ss A 0 z <;> decide
  · have := hi d' (by omega) b z z0 z1
    unfold td_in at this
    rw [this, if_neg (by omega)]
end TBFITS4
