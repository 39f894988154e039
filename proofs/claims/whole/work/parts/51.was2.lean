/-! was: the class's steps forward -/
section TBWAS2
variable {X : tb_X} {A B : tb_H} {K : Int → tb_H → Prop} {Kv : tb_H → Prop}
def td_sp (c g : Int) : Int := (tb_wy (c % 10) (c / 10) g * 10 + tb_wx (c % 10) (c / 10) g) * 8 + tb_wh (c % 10) (c / 10) g
def td_rc (A : tb_H) (r : Int → Int) (d : Int) : Prop := ∀ x y, 0 ≤ x → x ≤ 9 → 0 ≤ y → y ≤ 9 → (0 ≤ r (y * 10 + x) ∧ r (y * 10 + x) < 256) ∧ ∀ h, 0 ≤ h → h < 8 → (tb_bt (r (y * 10 + x)) h = 1 ↔ td_FA A d x y h = true ∧ td_gp A d.toNat ((x * 10 + y) * 8 + h))
def td_pw (A : tb_H) (d : Int) (r0 : Int → Int) (Q : Int → Int → Prop) (r : Int → Int) : Prop := ∀ x y, 0 ≤ x → x ≤ 9 → 0 ≤ y → y ≤ 9 → (0 ≤ r (y * 10 + x) ∧ r (y * 10 + x) < 256) ∧ ∀ h, 0 ≤ h → h < 8 → (tb_bt (r (y * 10 + x)) h = 1 ↔ td_FA A (d + 1) x y h = true ∧ ∃ c g, Q c g ∧ tb_bt (td_wd (r0 c)) g = 1 ∧ td_sp c g = (y * 10 + x) * 8 + h)
def td_qc (c0 g0 c g : Int) : Prop := (0 ≤ c ∧ c < 100) ∧ (0 ≤ g ∧ g < 8) ∧ (c < c0 ∨ (c = c0 ∧ g < g0))
def td_ff (A B : tb_H) (P Q : Nat) (d : Int) (r0 : Int → Int) (c g : Int) : Prop := tb_fr [46, 47] [] [42] A B ∧ (B.2.2 42 4 = P ∧ B.2.2 42 5 = Q) ∧ B.1 P = r0 ∧ td_pw A d r0 (td_qc c g) (B.1 Q)
theorem td_pw_q {d : Int} {r0 r : Int → Int} {Q Q' : Int → Int → Prop} (h : td_pw A d r0 Q r) (hQ : ∀ c g, tb_bt (td_wd (r0 c)) g = 1 → td_FA A (d + 1) (td_sp c g / 8 % 10) (td_sp c g / 80) (td_sp c g % 8) = true → (Q' c g ↔ Q c g)) : td_pw A d r0 Q' r := by
  intro x y x0 x1 y0 y1
  have hh := h x y x0 x1 y0 y1
  refine ⟨hh.1, fun h h0 h1 => ?_⟩
  rw [hh.2 h h0 h1]
  constructor
  · rintro ⟨k1, c, g, k2, k3, k4⟩
    refine ⟨k1, c, g, (hQ c g k3 ?_).mpr k2, k3, k4⟩
    rw [k4, show ((y * 10 + x) * 8 + h) / 8 % 10 = x by omega, show ((y * 10 + x) * 8 + h) / 80 = y by omega, show ((y * 10 + x) * 8 + h) % 8 = h by omega]
    exact k1
  · rintro ⟨k1, c, g, k2, k3, k4⟩
    refine ⟨k1, c, g, (hQ c g k3 ?_).mp k2, k3, k4⟩
    rw [k4, show ((y * 10 + x) * 8 + h) / 8 % 10 = x by omega, show ((y * 10 + x) * 8 + h) / 80 = y by omega, show ((y * 10 + x) * 8 + h) % 8 = h by omega]
    exact k1
theorem l177 (hok : ∀ d, 0 ≤ d → d ≤ td_LA A → td_ok A (A.1 45) d) {P Q : Nat} (pq : td_pq P Q) {d c : Int} {r0 : Int → Int} (d0 : 0 ≤ d) (d1 : d < td_LA A) (l20 : td_LA A ≤ 20) (c0 : 0 ≤ c) (c1 : c < 100)
    (hk : ∀ B, td_ff A B P Q d r0 (c + 1) 0 → Kv B) : ∀ B, td_ff A B P Q d r0 c 0 → tb_Cv X 177 [tb_r 42, tb_i (d + 1), tb_i c, tb_i (td_wd (r0 c))] B Kv := by
  have key : ∀ B x5 x6 x7, td_ff A B P Q d r0 c 0 → tb_E X 177 3 [tb_r 42, tb_i (d + 1), tb_i c, tb_i (td_wd (r0 c)), tb_i 0, x5, x6, x7] [] B (tb_Rv 177 Kv) := by
    refine tb_lp (E := fun g => ∀ B x5 x6 x7, td_ff A B P Q d r0 c g → tb_E X 177 3 [tb_r 42, tb_i (d + 1), tb_i c, tb_i (td_wd (r0 c)), tb_i g, x5, x6, x7] [] B (tb_Rv 177 Kv)) (n := 8) (by decide) ?_ ?_
    · intro B x5 x6 x7 h
      refine q177_3 ⟨fun _ => hk B ⟨h.1, h.2.1, h.2.2.1, td_pw_q h.2.2.2 (fun a b _ _ => ?_)⟩, fun q => absurd q (by decide)⟩
      unfold td_qc
      constructor
      · rintro ⟨k1, k2, k3⟩
        exact ⟨k1, k2, by omega⟩
      · rintro ⟨k1, k2, k3⟩
        exact ⟨k1, k2, by omega⟩
    · intro g g0 g1 ih B x5 x6 x7 h
      have w := tb_wB (x := c % 10) (y := c / 10) (h := g) (by omega) (by omega) (by omega) (by omega) g0 (by omega)
      refine q177_3 ⟨fun q => absurd q (by omega), fun _ => ⟨fun n => ?_, fun n => ?_⟩⟩
      · have bt1 : tb_bt (td_wd (r0 c)) g = 1 := by
          rcases tb_bt01 (td_wd (r0 c)) g with e | e
          · exact absurd e n
          · exact e
        rw [e87 c0 c1, show c * 8 + g % 8 = (c / 10 * 10 + c % 10) * 8 + g by omega, e88 (by omega) (by omega) (by omega) (by omega) g0 (by omega), e90 (by omega) (by omega), e169 (by omega) (by omega) w.1.1 w.1.2 w.2.1.1 w.2.1.2 w.2.2.1 w.2.2.2, tb_w_id (x := g + 1) (by omega) (by omega)]
        have f45 : B.1 45 = A.1 45 := funext fun k => h.1.1 45 k rfl rfl
        rw [f45, (hok (d + 1) (by omega) (by omega) _ _ w.1.1 w.1.2 w.2.1.1 w.2.1.2).2 _ w.2.2.1 (by omega)]
        rw [show ((tb_wy (c % 10) (c / 10) g * 10 + tb_wx (c % 10) (c / 10) g) * 8 + tb_wh (c % 10) (c / 10) g) / 8 = tb_wy (c % 10) (c / 10) g * 10 + tb_wx (c % 10) (c / 10) g by omega]
        refine ⟨fun q => ?_, fun q => ⟨fun z => absurd z (by omega), fun _ => ?_⟩⟩
        · refine ih B _ _ _ ⟨h.1, h.2.1, h.2.2.1, td_pw_q h.2.2.2 (fun a b _ hF => ?_)⟩
          have ne : ¬ (a = c ∧ b = g) := by
            rintro ⟨ea, eb⟩
            rw [ea, eb] at hF
            unfold td_sp at hF
            rw [show ((tb_wy (c % 10) (c / 10) g * 10 + tb_wx (c % 10) (c / 10) g) * 8 + tb_wh (c % 10) (c / 10) g) / 8 % 10 = tb_wx (c % 10) (c / 10) g by omega, show ((tb_wy (c % 10) (c / 10) g * 10 + tb_wx (c % 10) (c / 10) g) * 8 + tb_wh (c % 10) (c / 10) g) / 80 = tb_wy (c % 10) (c / 10) g by omega, show ((tb_wy (c % 10) (c / 10) g * 10 + tb_wx (c % 10) (c / 10) g) * 8 + tb_wh (c % 10) (c / 10) g) % 8 = tb_wh (c % 10) (c / 10) g by omega] at hF
            rw [hF] at q
            exact absurd q (by decide)
          unfold td_qc
          constructor
          · rintro ⟨k1, k2, k3⟩
            exact ⟨k1, k2, by omega⟩
          · rintro ⟨k1, k2, k3⟩
            exact ⟨k1, k2, by omega⟩
        · have hF : td_FA A (d + 1) (tb_wx (c % 10) (c / 10) g) (tb_wy (c % 10) (c / 10) g) (tb_wh (c % 10) (c / 10) g) = true := by
            cases e : td_FA A (d + 1) (tb_wx (c % 10) (c / 10) g) (tb_wy (c % 10) (c / 10) g) (tb_wh (c % 10) (c / 10) g)
            · rw [e] at q; exact absurd rfl q
            · rfl
          obtain ⟨hf, hp, hr, hw⟩ := h
          rw [hp.2]
          refine ⟨(td_pqk pq).2.1, fun z => absurd z (by rw [if_neg (by omega)]; decide), fun _ => ⟨⟨by omega, by omega⟩, ?_⟩⟩
          rw [e89, show ((tb_wy (c % 10) (c / 10) g * 10 + tb_wx (c % 10) (c / 10) g) * 8 + tb_wh (c % 10) (c / 10) g) % 8 = tb_wh (c % 10) (c / 10) g by omega]
          refine ⟨⟨by omega, by omega⟩, ?_⟩
          have hc := hw _ _ w.1.1 w.1.2 w.2.1.1 w.2.1.2
          have o := td_or2 hc.1.1 hc.1.2 w.2.2.1 (by omega)
          refine ih _ _ _ _ ⟨td_pqu (td_pqs pq) hf, hp, ?_, ?_⟩
          · rw [← hr]
            funext k
            exact if_neg (fun z => (td_pqk pq).2.2 z.1)
          · intro x y x0 x1 y0 y1
            have hxy := hw x y x0 x1 y0 y1
            by_cases e : y * 10 + x = tb_wy (c % 10) (c / 10) g * 10 + tb_wx (c % 10) (c / 10) g
            · have ex : x = tb_wx (c % 10) (c / 10) g := by omega
              have ey : y = tb_wy (c % 10) (c / 10) g := by omega
              rw [e, show (tb_upI B Q (tb_wy (c % 10) (c / 10) g * 10 + tb_wx (c % 10) (c / 10) g) (tb_or (B.1 Q (tb_wy (c % 10) (c / 10) g * 10 + tb_wx (c % 10) (c / 10) g)) (tb_shl 1 (tb_wh (c % 10) (c / 10) g)))).1 Q (tb_wy (c % 10) (c / 10) g * 10 + tb_wx (c % 10) (c / 10) g) = tb_or (B.1 Q (tb_wy (c % 10) (c / 10) g * 10 + tb_wx (c % 10) (c / 10) g)) (tb_shl 1 (tb_wh (c % 10) (c / 10) g)) from if_pos ⟨rfl, rfl⟩]
              refine ⟨o.1, fun h h0 h1 => ?_⟩
              rw [o.2 h h0 h1]
              by_cases eh : h = tb_wh (c % 10) (c / 10) g
              · rw [if_pos eh]
                refine ⟨fun _ => ⟨by rw [ex, ey, eh]; exact hF, c, g, ⟨⟨c0, c1⟩, ⟨g0, g1⟩, by omega⟩, bt1, by unfold td_sp; rw [eh]⟩, fun _ => rfl⟩
              · rw [if_neg eh, hc.2 h h0 h1, ex, ey]
                constructor
                · rintro ⟨k1, a, b, ⟨k2, k3, k4⟩, k5⟩
                  exact ⟨k1, a, b, ⟨k2, k3, by omega⟩, k5⟩
                · rintro ⟨k1, a, b, ⟨k2, k3, k4⟩, k5, k6⟩
                  refine ⟨k1, a, b, ⟨k2, k3, ?_⟩, k5, k6⟩
                  by_cases z : a = c ∧ b = g
                  · rw [z.1, z.2] at k6
                    unfold td_sp at k6
                    omega
                  · omega
            · rw [show (tb_upI B Q (tb_wy (c % 10) (c / 10) g * 10 + tb_wx (c % 10) (c / 10) g) (tb_or (B.1 Q (tb_wy (c % 10) (c / 10) g * 10 + tb_wx (c % 10) (c / 10) g)) (tb_shl 1 (tb_wh (c % 10) (c / 10) g)))).1 Q (y * 10 + x) = B.1 Q (y * 10 + x) from if_neg (fun z => e z.2)]
              refine ⟨hxy.1, fun h h0 h1 => ?_⟩
              rw [hxy.2 h h0 h1]
              constructor
              · rintro ⟨k1, a, b, ⟨k2, k3, k4⟩, k5⟩
                exact ⟨k1, a, b, ⟨k2, k3, by omega⟩, k5⟩
              · rintro ⟨k1, a, b, ⟨k2, k3, k4⟩, k5, k6⟩
                refine ⟨k1, a, b, ⟨k2, k3, ?_⟩, k5, k6⟩
                by_cases z : a = c ∧ b = g
                · rw [z.1, z.2] at k6
                  unfold td_sp at k6
                  omega
                · omega
      · rw [tb_w_id (x := g + 1) (by omega) (by omega)]
        refine ih B _ _ _ ⟨h.1, h.2.1, h.2.2.1, td_pw_q h.2.2.2 (fun a b hb _ => ?_)⟩
        have ne : ¬ (a = c ∧ b = g) := by
          rintro ⟨ea, eb⟩
          rw [ea, eb] at hb
          exact absurd (n.symm.trans hb) (by decide)
        unfold td_qc
        constructor
        · rintro ⟨k1, k2, k3⟩
          exact ⟨k1, k2, by omega⟩
        · rintro ⟨k1, k2, k3⟩
          exact ⟨k1, k2, by omega⟩
  intro B h
  exact q177 (key B _ _ _ h)
/-- a whole step gives the next day's cells -/
theorem td_next {d : Int} {r0 r : Int → Int} (d0 : 0 ≤ d) (d1 : d < td_LA A) (h0 : td_rc A r0 d) (h : td_pw A d r0 (td_qc 100 0) r) : td_rc A r (d + 1) := by
  obtain ⟨n, rfl⟩ := Int.eq_ofNat_of_zero_le d0
  intro x y x0 x1 y0 y1
  have hh := h x y x0 x1 y0 y1
  refine ⟨hh.1, fun h g0 g1 => ?_⟩
  rw [hh.2 h g0 g1]
  have st : td_gp A ((n : Int) + 1).toNat ((x * 10 + y) * 8 + h) ↔ td_ss A (n + 1) ((x * 10 + y) * 8 + h) = true ∧ ∃ s' t, (0 ≤ s' ∧ s' < 800) ∧ (0 ≤ t ∧ t ≤ 2) ∧ td_gp A n s' ∧ td_af s' t = (x * 10 + y) * 8 + h := Iff.rfl
  rw [st]
  refine and_congr_right (fun hF => ?_)
  have hs : td_ss A (n + 1) ((x * 10 + y) * 8 + h) = true := by
    unfold td_ss
    rw [show ((x * 10 + y) * 8 + h) / 80 = x by omega, show ((x * 10 + y) * 8 + h) / 8 % 10 = y by omega]
    by_cases e : (n : Int) + 1 = td_LA A
    · rw [e, td_FA_L] at hF
      rw [e]; exact hF
    · rw [td_FA_s (by omega), Bool.and_eq_true] at hF
      exact hF.1
  constructor
  · rintro ⟨c, g, ⟨⟨a0, a1⟩, ⟨b0, b1⟩, _⟩, k2, k3⟩
    refine ⟨hs, ?_⟩
    have hc := h0 (c % 10) (c / 10) (by omega) (by omega) (by omega) (by omega)
    rw [show c / 10 * 10 + c % 10 = c by omega] at hc
    have w := (td_wdf hc.1.1 hc.1.2).2.2 g b0 b1
    rw [k2] at w
    have wB := tb_wB (x := c % 10) (y := c / 10) (h := g) (by omega) (by omega) (by omega) (by omega) b0 (by omega)
    unfold td_sp at k3
    have go : ∀ t, 0 ≤ t → t ≤ 2 → tb_bt (r0 c) ((g + t + 7) % 8) = 1 → ∃ s' t, (0 ≤ s' ∧ s' < 800) ∧ (0 ≤ t ∧ t ≤ 2) ∧ td_gp A n s' ∧ td_af s' t = (x * 10 + y) * 8 + h := by
      intro t t0 t2 hb
      have g2 := ((hc.2 _ (by omega) (by omega)).mp hb).2
      refine ⟨(c % 10 * 10 + c / 10) * 8 + (g + t + 7) % 8, 2 - t, ⟨by omega, by omega⟩, ⟨by omega, by omega⟩, g2, ?_⟩
      unfold td_af
      rw [show ((c % 10 * 10 + c / 10) * 8 + (g + t + 7) % 8) / 80 = c % 10 by omega, show ((c % 10 * 10 + c / 10) * 8 + (g + t + 7) % 8) / 8 % 10 = c / 10 by omega, show (((c % 10 * 10 + c / 10) * 8 + (g + t + 7) % 8) % 8 + (2 - t) + 7) % 8 = g by omega]
      omega
    by_cases e0 : tb_bt (r0 c) ((g + 0 + 7) % 8) = 1
    · exact go 0 (by decide) (by decide) e0
    · by_cases e1 : tb_bt (r0 c) ((g + 1 + 7) % 8) = 1
      · exact go 1 (by decide) (by decide) e1
      · by_cases e2 : tb_bt (r0 c) ((g + 2 + 7) % 8) = 1
        · exact go 2 (by decide) (by decide) e2
        · rw [if_neg (by rintro (z | z | z); exact e0 z; exact e1 z; exact e2 z)] at w
          exact absurd w (by decide)
  · rintro ⟨_, s, t, ⟨s0, s1⟩, ⟨t0, t2⟩, k1, k2⟩
    have af := td_afB s0 s1 t0 t2
    have hc := h0 (s / 80) (s / 8 % 10) (by omega) (by omega) (by omega) (by omega)
    have ss : td_ss A n s = true := by
      cases n with
      | zero => exact k1
      | succ m => exact k1.1
    have fa : td_fs A ((n : Int) + 1) (td_af s t) = true := by
      unfold td_fs
      rw [k2, show ((x * 10 + y) * 8 + h) / 80 = x by omega, show ((x * 10 + y) * 8 + h) / 8 % 10 = y by omega, show ((x * 10 + y) * 8 + h) % 8 = h by omega]
      exact hF
    have fs : td_fs A (n : Int) s = true := by
      rw [td_fs_s d1 s0 s1, ss, Bool.true_and]
      have : t = 0 ∨ t = 1 ∨ t = 2 := by omega
      rcases this with rfl | rfl | rfl
      · rw [fa]; rfl
      · rw [fa]; cases td_fs A ((n : Int) + 1) (td_af s 0) <;> rfl
      · rw [fa]; cases td_fs A ((n : Int) + 1) (td_af s 0) <;> cases td_fs A ((n : Int) + 1) (td_af s 1) <;> rfl
    have bs : tb_bt (r0 (s / 8 % 10 * 10 + s / 80)) (s % 8) = 1 := by
      refine (hc.2 (s % 8) (by omega) (by omega)).mpr ⟨fs, ?_⟩
      rw [show (s / 80 * 10 + s / 8 % 10) * 8 + s % 8 = s by omega]
      exact k1
    refine ⟨s / 8 % 10 * 10 + s / 80, (s % 8 + t + 7) % 8, ⟨⟨by omega, by omega⟩, ⟨by omega, by omega⟩, by omega⟩, ?_, ?_⟩
    · rw [(td_wdf hc.1.1 hc.1.2).2.2 _ (by omega) (by omega)]
      have : t = 0 ∨ t = 1 ∨ t = 2 := by omega
      rcases this with rfl | rfl | rfl
      · rw [if_pos (Or.inr (Or.inr (by rw [show ((s % 8 + 0 + 7) % 8 + 2 + 7) % 8 = s % 8 by omega]; exact bs)))]
      · rw [if_pos (Or.inr (Or.inl (by rw [show ((s % 8 + 1 + 7) % 8 + 1 + 7) % 8 = s % 8 by omega]; exact bs)))]
      · rw [if_pos (Or.inl (by rw [show ((s % 8 + 2 + 7) % 8 + 0 + 7) % 8 = s % 8 by omega]; exact bs))]
    · unfold td_sp
      rw [show (s / 8 % 10 * 10 + s / 80) % 10 = s / 80 by omega, show (s / 8 % 10 * 10 + s / 80) / 10 = s / 8 % 10 by omega]
      unfold td_af at k2
      have wB := tb_wB (x := s / 80) (y := s / 8 % 10) (h := (s % 8 + t + 7) % 8) (by omega) (by omega) (by omega) (by omega) (by omega) (by omega)
      omega
end TBWAS2
