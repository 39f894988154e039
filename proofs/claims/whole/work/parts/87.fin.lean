/-! READER 10: the lines' words, and what a line must show at its end -/
section TEFIN
variable {X : tb_X} {A B A0 B0 : tb_H} {K : Int → tb_H → Prop} {Kv : tb_H → Prop}
variable {n : Int} {b : Nat} {a0 sort N cs m : Int} {vs rho : Int → Int}
theorem te_g109 : te_str 109 110 33 := ⟨kd_109, kd_110, by decide, by decide +kernel⟩
theorem te_g111 : te_str 111 112 11 := ⟨kd_111, kd_112, by decide, by decide +kernel⟩
theorem te_g113 : te_str 113 114 12 := ⟨kd_113, kd_114, by decide, by decide +kernel⟩
theorem te_g115 : te_str 115 116 22 := ⟨kd_115, kd_116, by decide, by decide +kernel⟩
theorem te_g117 : te_str 117 118 11 := ⟨kd_117, kd_118, by decide, by decide +kernel⟩
theorem te_g119 : te_str 119 120 8 := ⟨kd_119, kd_120, by decide, by decide +kernel⟩
theorem te_g121 : te_str 121 122 5 := ⟨kd_121, kd_122, by decide, by decide +kernel⟩
theorem te_g123 : te_str 123 124 19 := ⟨kd_123, kd_124, by decide, by decide +kernel⟩
theorem te_g125 : te_str 125 126 5 := ⟨kd_125, kd_126, by decide, by decide +kernel⟩
theorem te_w129 : te_ws 129 130 4 := ⟨⟨kd_129, kd_130, by decide, by decide +kernel⟩, by decide, by decide +kernel⟩
theorem te_w131 : te_ws 131 132 3 := ⟨⟨kd_131, kd_132, by decide, by decide +kernel⟩, by decide, by decide +kernel⟩
theorem te_w133 : te_ws 133 134 5 := ⟨⟨kd_133, kd_134, by decide, by decide +kernel⟩, by decide, by decide +kernel⟩
theorem te_w135 : te_ws 135 136 5 := ⟨⟨kd_135, kd_136, by decide, by decide +kernel⟩, by decide, by decide +kernel⟩
theorem te_w137 : te_ws 137 138 4 := ⟨⟨kd_137, kd_138, by decide, by decide +kernel⟩, by decide, by decide +kernel⟩
theorem te_w139 : te_ws 139 140 6 := ⟨⟨kd_139, kd_140, by decide, by decide +kernel⟩, by decide, by decide +kernel⟩
theorem te_w145 : te_ws 145 146 5 := ⟨⟨kd_145, kd_146, by decide, by decide +kernel⟩, by decide, by decide +kernel⟩
theorem te_w163 : te_ws 163 164 5 := ⟨⟨kd_163, kd_164, by decide, by decide +kernel⟩, by decide, by decide +kernel⟩
theorem te_w165 : te_ws 165 166 2 := ⟨⟨kd_165, kd_166, by decide, by decide +kernel⟩, by decide, by decide +kernel⟩
theorem te_w167 : te_ws 167 168 6 := ⟨⟨kd_167, kd_168, by decide, by decide +kernel⟩, by decide, by decide +kernel⟩
theorem te_w169 : te_ws 169 170 4 := ⟨⟨kd_169, kd_170, by decide, by decide +kernel⟩, by decide, by decide +kernel⟩
theorem te_w171 : te_ws 171 172 5 := ⟨⟨kd_171, kd_172, by decide, by decide +kernel⟩, by decide, by decide +kernel⟩
theorem te_w173 : te_ws 173 174 4 := ⟨⟨kd_173, kd_174, by decide, by decide +kernel⟩, by decide, by decide +kernel⟩
theorem te_w175 : te_ws 175 176 4 := ⟨⟨kd_175, kd_176, by decide, by decide +kernel⟩, by decide, by decide +kernel⟩
theorem te_w177 : te_ws 177 178 2 := ⟨⟨kd_177, kd_178, by decide, by decide +kernel⟩, by decide, by decide +kernel⟩
theorem te_w179 : te_ws 179 180 4 := ⟨⟨kd_179, kd_180, by decide, by decide +kernel⟩, by decide, by decide +kernel⟩
theorem te_w181 : te_ws 181 182 3 := ⟨⟨kd_181, kd_182, by decide, by decide +kernel⟩, by decide, by decide +kernel⟩
theorem te_rgp {P : Int → Prop} {i e : Int} (h : ∀ j : Fin (e - i).toNat, P (i + (j.val : Int))) : ∀ k, i ≤ k → k < e → P k := by
  intro k k0 k1
  have q := h ⟨(k - i).toNat, by omega⟩
  have e2 : i + (((k - i).toNat : Nat) : Int) = k := by omega
  rw [e2] at q
  exact q
theorem te_tab2 : (tb_tab.all fun p => tb_tab.all fun q => decide (p.2.2 + te_room (p.2.1 - 110) ≤ q.2.2) || decide (q.2.2 + te_room (q.2.1 - 110) ≤ p.2.2) || decide (p = q)) = true := by decide +kernel
theorem te_tab4 : ∀ p ∈ tb_tab, p.2.1 = 114 → p.2.2 = 57 ∨ p.2.2 = 61 := by decide +kernel
theorem te_tab5 : ∀ p ∈ tb_tab, p.2.1 ≠ 114 → p.2.2 + te_room (p.2.1 - 110) ≤ 57 ∨ 61 ≤ p.2.2 := by decide +kernel
/-- the parts of a line stand: it is kept by both -/
theorem te_fin0 (hb : tb_isB b) {rho' : Int → Int} {c s N' cs' : Int} (s0 : 0 ≤ s) (s1 : s < 9) (L0 : te_L0 n b N A0 B0) (hc : B0.1 81 (110 + s) = c) (cr : c < te_room s) {B' : tb_H} (LN : te_LN n b a0 s N' cs' m vs rho' A0 A B') (hv : ∀ p ∈ tb_tab, p.2.1 = 110 + s → (0 ≤ p.1 - 48 * s ∧ p.1 - 48 * s < m) ∧ vs (p.1 - 48 * s) = rho' (p.2.2 + c)) (hfr : ∀ k, k < 119 → (∀ q ∈ tb_tab, q.2.1 = 110 + s → k ≠ q.2.2 + c) → rho' k = B0.1 81 k)
    (hbn : ∀ p ∈ tb_bnd, p.1 = 110 + s → p.2.2.1 ≤ rho' (p.2.1 + c) ∧ rho' (p.2.1 + c) ≤ p.2.2.2) (hsc : ∀ p ∈ tb_scr, p.1 = 110 + s → 0 ≤ rho' (p.2 + c) ∧ rho' (p.2 + c) < B0.1 81 112) (hN : N' = N + (if s = 2 ∨ s = 3 ∨ s = 4 ∨ s = 7 then 1 else 0)) (hcs : cs' = if s = 2 then c + 1 else B0.1 81 112) :
    te_L0 n b N' (tb_upI (tb_cpy A 3 0 (b + 2) ((s * 8 + c) * 6) 6) (b + 1) s (c + 1)) (tb_upI B' 81 (110 + s) (c + 1)) := by
  obtain ⟨f0, T, tk, row, nm, hr, ho, pg⟩ := LN
  have bb := L0.2.2.2.2.2.2
  have cc := te_bbc bb s0 s1
  rw [hc] at cc
  have hk : ∀ k, 110 ≤ k → k < 119 → rho' k = B0.1 81 k := by
    intro k k0 k1
    refine hfr k k1 (fun q hq e => ?_)
    have tp := te_tab1 q hq
    rw [e, show 110 + s - 110 = s by omega] at tp
    omega
  refine te_lend hb s0 s1 L0 hc.symm cr f0 T tk (fun p hp e => ?_) ?_ ho hr hk (fun p hp l l0 l1 => ?_) hbn hsc hN (fun q q0 q1 => ?_)
  · have h := hv p hp e
    rw [row.2.2 _ h.1.1 h.1.2]
    exact h.2
  · have e : td_up rho' (110 + s) (c + 1) 112 = cs' := by
      show (if 112 = 110 + s then c + 1 else rho' 112) = cs'
      rw [hcs]
      by_cases q : s = 2
      · rw [if_pos q, if_pos (by omega)]
      · rw [if_neg q, if_neg (by omega), hk 112 (by decide) (by decide)]
    rw [e]
    exact nm
  · have tp := te_tab1 p hp
    have kp := te_bbc bb (z := p.2.1 - 110) (by omega) (by omega)
    rw [show 110 + (p.2.1 - 110) = p.2.1 by omega] at kp
    refine hfr _ (by omega) (fun q hq e ee => ?_)
    have tq := te_tab1 q hq
    rw [e, show 110 + s - 110 = s by omega] at tq
    have d := List.all_eq_true.mp (List.all_eq_true.mp te_tab2 p hp) q hq
    simp only [Bool.or_eq_true, decide_eq_true_eq] at d
    rw [e, show 110 + s - 110 = s by omega] at d
    rcases d with (d | d) | d
    · omega
    · omega
    · rw [d, e] at l1
      rw [d] at ee
      omega
  · have z0 := L0.2.2.2.2.1.2
    by_cases e4 : s = 4
    · rw [if_pos (by omega)] at q0
      rw [hfr (57 + q) (by omega) (fun p hp e ee => by
        rcases te_tab4 p hp (by omega) with h | h <;> omega)]
      exact z0 q (by rw [show (114 : Int) = 110 + s by omega, hc]; omega) q1
    · rw [if_neg (by omega)] at q0
      have b4 := te_bbc bb (z := 4) (by decide) (by decide)
      have b4' : 0 ≤ B0.1 81 114 := b4.1
      rw [hfr (57 + q) (by omega) (fun p hp e ee => by
        have h := te_tab5 p hp (by omega)
        rw [e, show 110 + s - 110 = s by omega] at h
        omega)]
      exact z0 q q0 q1
/-- behind a line's parts -/
def te_aft (X : tb_X) (b : Nat) (y : Int) (A : tb_H) (K : tb_H → Prop) : Prop := (A.1 1 10 = 0 → (A.1 1 8 ≠ 8 → tb_Cv X 46 [tb_r b, tb_i (A.1 1 8), tb_r 3] A K) ∧ (A.1 1 8 = 8 → tb_Cv X 34 [tb_r 1, tb_i y] A (fun A' => tb_Cv X 46 [tb_r b, tb_i (A'.1 1 8), tb_r 3] A' K))) ∧ (A.1 1 10 ≠ 0 → K A)
/-- a line is read by both, from its second token on -/
def te_LR (X : tb_X) (n : Int) (b : Nat) (a0 : Int) (A0 B0 : tb_H) (w : Nat) (y : Int) (M : Nat) (args : List tb_V) (A B : tb_H) : Prop := ∃ A' B', (∀ K : tb_H → Prop, K A' → tb_Cv X 30 [tb_r 1, tb_r b, tb_r w] A (fun A640 => te_aft X b y A640 K)) ∧ (∀ K : tb_H → Prop, K B' → tb_Cv X M args B K) ∧ te_fc b A0 A' ∧ te_fm B0 B' ∧ (te_Fl A' B' ∨ ((∃ N', te_L0 n b N' A' B') ∧ (A'.1 1 5 = 4 ∨ A'.1 1 5 = 0 ∨ a0 ≤ A'.1 1 4)))
theorem te_fc.cpy {A A' : tb_H} (b5 : 5 ≤ b) (h : te_fc b A A') {d l : Int} : te_fc b A (tb_cpy A' 3 0 (b + 2) d l) := by
  refine ⟨⟨fun o k ho hk => ?_, h.1.2.1, h.1.2.2⟩, ?_⟩
  · have : o ≠ b + 2 := by
      rintro rfl
      rw [te_Sbb.2.2.1] at ho
      cases ho
    rw [te_cpy_o this]
    exact h.1.1 o k ho hk
  · rw [te_cpy_o (by omega)]
    exact h.2
/-- the end of a line of the sorts 0 to 7 -/
theorem te_finl (hb : tb_isB b) {rho' : Int → Int} {c s N' cs' y : Int} (s0 : 0 ≤ s) (s1 : s < 8) (L0 : te_L0 n b N A0 B0) (hc : B0.1 81 (110 + s) = c) (cr : c < te_room s) {B' : tb_H} (S : te_Sl n b a0 s N' cs' m vs rho' A0 B0 A B') {x : Int} (hx : B'.1 77 13 = 0 → B'.1 81 (110 + s) = rho' (110 + s) → x = c + 1) (hv : ∀ p ∈ tb_tab, p.2.1 = 110 + s → (0 ≤ p.1 - 48 * s ∧ p.1 - 48 * s < m) ∧ vs (p.1 - 48 * s) = rho' (p.2.2 + c)) (hfr : ∀ k, k < 119 → (∀ q ∈ tb_tab, q.2.1 = 110 + s → k ≠ q.2.2 + c) → rho' k = B0.1 81 k)
    (hbn : ∀ p ∈ tb_bnd, p.1 = 110 + s → p.2.2.1 ≤ rho' (p.2.1 + c) ∧ rho' (p.2.1 + c) ≤ p.2.2.2) (hsc : A.1 1 10 = 0 → ∀ p ∈ tb_scr, p.1 = 110 + s → 0 ≤ rho' (p.2 + c) ∧ rho' (p.2 + c) < B0.1 81 112) (hN : N' = N + (if s = 2 ∨ s = 3 ∨ s = 4 ∨ s = 7 then 1 else 0)) (hcs : cs' = if s = 2 then c + 1 else B0.1 81 112) :
    ∃ A', (∀ K : tb_H → Prop, K A' → te_aft X b y A K) ∧ te_fc b A0 A' ∧ te_fm B0 (tb_upI B' 81 (110 + s) x) ∧ (te_Fl A' (tb_upI B' 81 (110 + s) x) ∨ ((∃ N', te_L0 n b N' A' (tb_upI B' 81 (110 + s) x)) ∧ (A'.1 1 5 = 4 ∨ A'.1 1 5 = 0 ∨ a0 ≤ A'.1 1 4))) := by
  obtain ⟨fA, fB, S⟩ := S
  have b5 := te_b5 hb
  have fB' : te_fm B0 (tb_upI B' 81 (110 + s) x) := tb_fr.upI fB rfl
  rcases S with fl | LN
  · refine ⟨A, fun K k => ⟨fun z => absurd z fl.1, fun _ => k⟩, fA, fB', Or.inl ?_⟩
    unfold te_Fl at fl ⊢
    rw [td_upo (by decide)]
    exact fl
  · have hl := te_fin0 hb s0 (by omega) L0 hc cr LN hv hfr hbn (hsc LN.1.1) hN hcs
    have h46 : A.1 (b + 1) s = c := by
      rw [LN.2.2.2.2.2.2.1.1, ← hc]
      exact L0.2.2.2.2.2.1.1 s s0 (by omega)
    have bb := L0.2.2.2.2.2.2
    have cc := te_bbc bb s0 (by omega)
    rw [hc] at cc
    have r8 : te_room s ≤ 8 := by
      obtain ⟨y, rfl⟩ := Int.eq_ofNat_of_zero_le s0
      exact te_rooms ⟨y, by omega⟩
    have hr := LN.2.2.2.2.2.1
    have x1 := hx LN.1.2 (hr (110 + s) (by omega))
    refine ⟨tb_upI (tb_cpy A 3 0 (b + 2) ((s * 8 + c) * 6) 6) (b + 1) s (c + 1), fun K k => ⟨fun _ => ⟨fun _ => ?_, fun q => ?_⟩, fun z => absurd LN.1.1 z⟩, ?_, fB', Or.inr ⟨⟨N', ?_⟩, ?_⟩⟩
    · rw [LN.2.2.2.1.1, te46 hb s0 (by omega) h46 cc.1 (by omega) cr]
      exact k
    · rw [LN.2.2.2.1.1] at q
      omega
    · exact te_fc.upI (te_fc.cpy b5.1 fA) (by rw [te_Sbb.2.1]; rfl)
    · rw [x1]
      exact hl
    · rw [td_upo (by omega), te_cpy_o (by omega)]
      exact LN.2.2.2.2.2.2.2
end TEFIN
