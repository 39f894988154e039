/-! ways: the class's charts, whole -/
section TBWAYS4
variable {X : tb_X} {A B : tb_H} {K : Int → tb_H → Prop} {Kv : tb_H → Prop}
theorem td_fill {P Q : Nat} (pc : td_pc P Q) (f : td_frc A B) (hk : ∀ B1, td_frc A B1 → B1.2.2 = B.2.2 → B1.1 P = B.1 P → (∀ k, 0 ≤ k → k < 10400 → B1.1 Q k = 0) → Kv B1) : tb_Cv X 9 [tb_r Q, tb_i 0] B Kv := by
  have k := td_pck pc
  refine q9 k.2.1 ?_
  have key : ∀ B1, td_frc A B1 → B1.2.2 = B.2.2 → B1.1 P = B.1 P → (∀ k, 0 ≤ k → k < 0 → B1.1 Q k = 0) → tb_E X 9 5 [tb_r Q, tb_i 0, tb_i 0, tb_i 10400] [] B1 (tb_Rv 9 Kv) := by
    refine tb_lp (E := fun i => ∀ B1, td_frc A B1 → B1.2.2 = B.2.2 → B1.1 P = B.1 P → (∀ k, 0 ≤ k → k < i → B1.1 Q k = 0) → tb_E X 9 5 [tb_r Q, tb_i 0, tb_i i, tb_i 10400] [] B1 (tb_Rv 9 Kv)) (n := 10400) (by decide) ?_ ?_
    · intro B1 f1 e1 e2 e3
      exact q9_5 k.2.1 ⟨fun _ => hk B1 f1 e1 e2 e3, fun q => absurd q (by decide)⟩
    · intro i i0 i1 ih B1 f1 e1 e2 e3
      refine q9_5 k.2.1 ⟨fun q => absurd q (by omega), fun _ => ⟨⟨i0, by show i < (10400 : Int); omega⟩, ?_⟩⟩
      rw [tb_w_id (x := i + 1) (by omega) (by omega)]
      refine ih _ (td_pcu pc f1) e1 (by rw [td_upo k.2.2]; exact e2) (fun j j0 j1 => ?_)
      rw [td_upi]
      show (if j = i then 0 else B1.1 Q j) = 0
      by_cases e : j = i
      · rw [if_pos e]
      · rw [if_neg e]; exact e3 j j0 (by omega)
  exact key B f rfl rfl (fun k a b => absurd b (by omega))
def td_cur (A B : tb_H) (P Q : Nat) (G : (Int → Int) → Int) (d : Int) : Prop := td_frc A B ∧ (B.2.2 38 0 = P ∧ B.2.2 38 1 = Q) ∧ td_nv 10400 td_io (B.1 P) G ∧ ∀ z, 0 ≤ z → z < 10400 → d ≤ z / 800 → z / 800 < 12 → B.1 P z = 0
theorem l151 {P Q : Nat} (pc : td_pc P Q) {G : (Int → Int) → Int} {d : Int} {cur : Int → Int} (h : td_cw A B P Q cur d G) (hk : ∀ B1, td_cur A B1 Q P G d → Kv B1) : tb_Cv X 151 [tb_r 38] B Kv := by
  obtain ⟨f, hp, hc, hn, hz⟩ := h
  refine q151 ?_
  rw [hp.1, hp.2]
  exact ⟨(td_pck pc).1, (td_pck pc).2.1, hk _ ⟨tb_fr.upP (tb_fr.upP f rfl) rfl, ⟨rfl, rfl⟩, hn, hz⟩⟩
/-- one day -/
theorem l149d (L : tb_L A) {P Q d0 : Nat} (pc : td_pc P Q) {ln days : Int} {x5 : tb_V} {G : (Int → Int) → Int} (hd : (d0 : Int) < days) (hd2 : days ≤ 12) (h : td_cur A B P Q G d0) (hT : G (fun _ => 1) ≤ 531441)
    (hk : ∀ B1 x5, td_cur A B1 Q P (fun φ => G (td_PP (td_tg (A.1 80) (A.1 82 8) ln (A.1 82 3) (d0 + 1 : Nat)) φ)) ((d0 : Int) + 1) → tb_E X 149 45 [tb_r 38, tb_r 4, tb_i days, tb_i ln, tb_i ((d0 : Int) + 1), x5] [] B1 (tb_Rv 149 Kv)) :
    tb_E X 149 45 [tb_r 38, tb_r 4, tb_i days, tb_i ln, tb_i d0, x5] [] B (tb_Rv 149 Kv) := by
  obtain ⟨f, hp, hn, hz⟩ := h
  have s0 := L.s0
  refine q149_45 ⟨fun q => absurd q (by omega), fun _ => ?_⟩
  rw [hp.2]
  refine ⟨(td_pck pc).2.1, td_fill pc f (fun B1 f1 e1 e2 e3 => ?_)⟩
  obtain ⟨cur, hcur⟩ : ∃ cur, cur = B.1 P := ⟨_, rfl⟩
  rw [← hcur] at hn hz e2
  have T : tb_sum cur 10400 ≤ 531441 := by rw [td_nv1 (by decide) hn]; exact hT
  have rows : ∀ B1, td_cw A B1 P Q cur ((d0 + 1 : Nat) : Int) (td_GC (td_tg (A.1 80) (A.1 82 8) ln (A.1 82 3) (d0 + 1 : Nat)) cur (0 * 800)) → tb_E X 149 62 [tb_r 38, tb_r 4, tb_i days, tb_i ln, tb_i d0, tb_i 0] [] B1 (tb_Rv 149 Kv) := by
    refine tb_lp (E := fun i => ∀ B1, td_cw A B1 P Q cur ((d0 + 1 : Nat) : Int) (td_GC (td_tg (A.1 80) (A.1 82 8) ln (A.1 82 3) (d0 + 1 : Nat)) cur (i * 800)) → tb_E X 149 62 [tb_r 38, tb_r 4, tb_i days, tb_i ln, tb_i d0, tb_i i] [] B1 (tb_Rv 149 Kv)) (n := d0) (by omega) ?_ ?_
    · intro B1 h1
      have LB : tb_L B1 := L.fr h1.1 rfl
      have e82 : B1.1 82 = A.1 82 := funext fun k => h1.1.1 82 k rfl rfl
      refine q149_62 ⟨fun _ => ?_, fun q => absurd q (by omega)⟩
      rw [LB.sc0.2.2.2.2.1, e82, tb_w_id (x := A.1 82 3 + (d0 : Int)) (by omega) (by omega)]
      refine l152 (d := d0 + 1) L pc (by omega) (by omega) (by decide) (Or.inr rfl) (by show A.1 82 3 + (d0 : Int) + 1 = A.1 82 3 + ((d0 + 1 : Nat) : Int); omega) (by omega) hn.1 T (fun B2 h2 => ?_) B1 ⟨h1.1, h1.2.1, h1.2.2.1, td_nvc (by decide) h1.2.2.2.1 (fun _ _ _ => rfl) (fun φ => ?_), h1.2.2.2.2⟩
      · refine l151 pc h2 (fun B3 h3 => ?_)
        rw [tb_w_id (x := (d0 : Int) + 1) (by omega) (by omega)]
        refine hk B3 _ ⟨h3.1, h3.2.1, td_nvc (by decide) h3.2.2.1 (fun _ _ _ => rfl) (fun φ => ?_), fun z z0 z1 z2 z3 => h3.2.2.2 z z0 z1 (by omega) z3⟩
        exact hn.2 (td_PP (td_tg (A.1 80) (A.1 82 8) ln (A.1 82 3) (d0 + 1 : Nat)) φ)
      · unfold td_GC
        refine (tb_sum_cut (by omega) (12 * 800) (by omega) (fun i a b => ?_)).symm
        rw [hz i (by omega) (by omega) (by omega) (by omega)]
        omega
    · intro i i0 i1 ih B1 h1
      refine q149_62 ⟨fun q => absurd q (by omega), fun _ => ⟨fun q => absurd q (by omega), fun _ => ?_⟩⟩
      rw [tb_w_id (x := i + 1) (by omega) (by omega)]
      refine l152 (d := d0 + 1) L pc (by omega) (by omega) i0 (Or.inl (by omega)) (by unfold td_hu td_m; rw [if_neg (show ¬ i = 12 by omega), if_pos (show i ≠ 13 by omega)]) (by omega) hn.1 T (fun B2 h2 => ih B2 h2) B1 h1
  refine rows B1 ⟨f1, by rw [e1]; exact hp, e2, td_nvc (by decide) (td_nvz (by decide) e3) (fun _ _ _ => rfl) (fun φ => rfl), fun z z0 z1 _ _ => e3 z z0 z1⟩
def td_fc (c j : Int) : Int := if j / 112 = c % 10 * 10 + c / 10 then 1 else 0
theorem td_fcio {c i : Int} (c0 : 0 ≤ c) (c1 : c < 100) (i0 : 0 ≤ i) (i1 : i < 10400) : td_fc c (td_io i) = if i % 800 / 8 = c then 1 else 0 := by
  have m := td_mB (n := i / 800) (by omega) (by omega)
  have e : td_io i / 112 = i / 8 % 10 * 10 + i / 80 % 10 := by unfold td_io; omega
  have a : i % 800 / 8 = i / 80 % 10 * 10 + i / 8 % 10 := by omega
  unfold td_fc
  rw [e, a]
  obtain ⟨u, hu⟩ : ∃ u, u = i / 8 % 10 := ⟨_, rfl⟩
  obtain ⟨v, hv⟩ : ∃ v, v = i / 80 % 10 := ⟨_, rfl⟩
  have ub : 0 ≤ u ∧ u < 10 ∧ 0 ≤ v ∧ v < 10 := by omega
  rw [← hu, ← hv]
  clear hu hv a e m
  by_cases q : v * 10 + u = c
  · rw [if_pos q, if_pos (by omega)]
  · rw [if_neg q, if_neg (by omega)]
theorem l154 {P Q : Nat} (pc : td_pc P Q) {G : (Int → Int) → Int} {d : Int} (h : td_cur A B P Q G d) (hT : G (fun _ => 1) ≤ 531441)
    (hk : ∀ B1, tb_fr [39, 40, 41] [] [38] A B1 → B1.2.2 = B.2.2 → (∀ c, 0 ≤ c → c < 100 → B1.1 41 c = G (td_fc c) ∧ 0 ≤ B1.1 41 c ∧ B1.1 41 c ≤ 531441) → Kv B1) : tb_Cv X 154 [tb_r 38] B Kv := by
  obtain ⟨f, hp, hn, hz⟩ := h
  obtain ⟨cur, hcur⟩ : ∃ cur, cur = B.1 P := ⟨_, rfl⟩
  rw [← hcur] at hn
  have T : tb_sum cur 10400 ≤ 531441 := by rw [td_nv1 (by decide) hn]; exact hT
  have k41 : tb_kd 41 = (1, 100, [0]) := rfl
  have np : P ≠ 41 := by rcases pc with ⟨rfl, _⟩ | ⟨rfl, _⟩ <;> decide
  have main : ∀ B1 x2, tb_fr [39, 40, 41] [] [38] A B1 → B1.2.2 = B.2.2 → B1.1 P = cur → (∀ c, 0 ≤ c → c < 100 → B1.1 41 c = tb_sum (fun i => cur i * td_fc c (td_io i)) 0 ∧ 0 ≤ B1.1 41 c ∧ B1.1 41 c ≤ tb_sum cur 0) → tb_E X 154 10 [tb_r 38, tb_i 0, x2] [] B1 (tb_Rv 154 Kv) := by
    refine tb_lp (E := fun i => ∀ B1 x2, tb_fr [39, 40, 41] [] [38] A B1 → B1.2.2 = B.2.2 → B1.1 P = cur → (∀ c, 0 ≤ c → c < 100 → B1.1 41 c = tb_sum (fun i => cur i * td_fc c (td_io i)) i ∧ 0 ≤ B1.1 41 c ∧ B1.1 41 c ≤ tb_sum cur i) → tb_E X 154 10 [tb_r 38, tb_i i, x2] [] B1 (tb_Rv 154 Kv)) (n := 10400) (by decide) ?_ ?_
    · intro B1 x2 f1 e1 e2 e3
      refine q154_10 ?_
      rw [e1, hp.1]
      refine ⟨(td_pck pc).1, fun _ => hk B1 f1 e1 (fun c c0 c1 => ?_), fun q => absurd q (by decide)⟩
      have e := e3 c c0 c1
      exact ⟨e.1.trans (hn.2 (td_fc c)), e.2.1, by omega⟩
    · intro i i0 i1 ih B1 x2 f1 e1 e2 e3
      have ci := hn.1 i i0 i1
      have u := td_u1 hn.1 10400 (by decide) (Int.le_refl _)
      have ui := u.2 i i0 i1
      have ci3 := e3 (i % 800 / 8) (by omega) (by omega)
      refine q154_10 ?_
      rw [e1, hp.1]
      refine ⟨(td_pck pc).1, fun q => absurd q (by omega), fun _ => ?_⟩
      rw [Int.tmod_eq_emod_of_nonneg i0, e90 (by omega) (by omega), tb_w_id (x := i + 1) (by omega) (by omega), e1, hp.1, e2]
      refine ⟨fun q => absurd q (by omega), fun _ => ⟨fun q => absurd q (by omega), fun _ => ⟨(td_pck pc).1, ⟨i0, i1⟩, ?_⟩⟩⟩
      rw [tb_w_id (x := B1.1 41 (i % 800 / 8) + cur i) (by omega) (by omega)]
      refine ih _ _ (tb_fr.upI f1 rfl) e1 (by rw [td_upo np]; exact e2) (fun c c0 c1 => ?_)
      have e := e3 c c0 c1
      rw [td_upi, tb_sum_s i0, tb_sum_s i0, td_fcio c0 c1 i0 i1]
      show (if c = i % 800 / 8 then B1.1 41 (i % 800 / 8) + cur i else B1.1 41 c) = _ ∧ _
      by_cases q : c = i % 800 / 8
      · rw [td_up, if_pos q, if_pos q.symm, ← q, ← e.1]
        omega
      · rw [td_up, if_neg q, if_neg (fun z => q z.symm), ← e.1]
        omega
  refine q154 (q9 k41 ?_)
  have fl : ∀ B1, tb_fr [39, 40, 41] [] [38] A B1 → B1.2.2 = B.2.2 → B1.1 P = cur → (∀ k, 0 ≤ k → k < 0 → B1.1 41 k = 0) → tb_E X 9 5 [tb_r 41, tb_i 0, tb_i 0, tb_i 100] [] B1 (tb_Rv 9 (fun A1 => tb_E X 154 10 [tb_r 38, tb_i 0, tb_s 1] [] A1 (tb_Rv 154 Kv))) := by
    refine tb_lp (E := fun i => ∀ B1, tb_fr [39, 40, 41] [] [38] A B1 → B1.2.2 = B.2.2 → B1.1 P = cur → (∀ k, 0 ≤ k → k < i → B1.1 41 k = 0) → tb_E X 9 5 [tb_r 41, tb_i 0, tb_i i, tb_i 100] [] B1 (tb_Rv 9 (fun A1 => tb_E X 154 10 [tb_r 38, tb_i 0, tb_s 1] [] A1 (tb_Rv 154 Kv)))) (n := 100) (by decide) ?_ ?_
    · intro B1 f1 e1 e2 e3
      exact q9_5 k41 ⟨fun _ => main B1 _ f1 e1 e2 (fun c c0 c1 => by rw [e3 c c0 c1]; exact ⟨rfl, Int.le_refl _, Int.le_refl _⟩), fun q => absurd q (by decide)⟩
    · intro i i0 i1 ih B1 f1 e1 e2 e3
      refine q9_5 k41 ⟨fun q => absurd q (by omega), fun _ => ⟨⟨i0, by show i < (100 : Int); omega⟩, ?_⟩⟩
      rw [tb_w_id (x := i + 1) (by omega) (by omega)]
      refine ih _ (tb_fr.upI f1 rfl) e1 (by rw [td_upo np]; exact e2) (fun j j0 j1 => ?_)
      rw [td_upi]
      show (if j = i then 0 else B1.1 41 j) = 0
      by_cases e : j = i
      · rw [if_pos e]
      · rw [if_neg e]; exact e3 j j0 (by omega)
  exact fl B (f.mono rfl rfl rfl) rfl hcur.symm (fun k a b => absurd b (by omega))
theorem sp149 (L : tb_L A) {P Q : Nat} (pc : td_pc P Q) (hp : A.2.2 38 0 = P ∧ A.2.2 38 1 = Q) {ln : Int} (hln : ln = tb_lean (A.1 80) (A.1 82) (fun f => A.1 82 (31 + f)) 9 (A.1 80 0)) {days : Nat} (hd : days ≤ 12)
    (hk : ∀ B, tb_fr [39, 40, 41] [] [38] A B → td_pc (B.2.2 38 0) (B.2.2 38 1) → (∀ c, 0 ≤ c → c < 100 → B.1 41 c = td_Q (td_tg (A.1 80) (A.1 82 8) ln (A.1 82 3)) (td_z0 A) days (td_fc c) ∧ 0 ≤ B.1 41 c ∧ B.1 41 c ≤ 531441) → Kv B) : tb_Cv X 149 [tb_r 38, tb_r 4, tb_i days] A Kv := by
  have z := L.s0
  refine q149 ?_
  rw [e73_0 L, ← hln, hp.2]
  refine ⟨(td_pck pc).2.1, td_fill pc tb_fr.refl (fun B f e1 e2 e3 => ?_)⟩
  have LB : tb_L B := L.fr f rfl
  have e82 : B.1 82 = A.1 82 := funext fun k => f.1 82 k rfl rfl
  have s := LB.sc0
  rw [e82] at s
  rw [s.2.2.1, s.2.2.2.1, e87 (by omega) (by omega), show (A.1 82 1 * 10 + A.1 82 0) * 8 + A.1 82 2 % 8 = (A.1 82 1 * 10 + A.1 82 0) * 8 + A.1 82 2 by omega]
  refine l150 (k1 := 0) (n := 12) (G := fun _ => 0) (cur := B.1 P) pc ⟨f, by rw [e1]; exact hp, rfl, td_nvz (by decide) e3, fun z z0 z1 _ _ => e3 z z0 z1⟩ (by decide) (Or.inr rfl) (by decide) (by omega) (by omega) (by decide) (by decide) (fun B1 h1 => ?_)
  refine l151 pc h1 (fun B2 h2 => ?_)
  have run : ∀ k : Nat, ∀ (d0 : Nat) B (P Q : Nat) x5, d0 + k = days → td_pc P Q → td_cur A B P Q (td_Q (td_tg (A.1 80) (A.1 82 8) ln (A.1 82 3)) (td_z0 A) d0) d0 → tb_E X 149 45 [tb_r 38, tb_r 4, tb_i days, tb_i ln, tb_i d0, x5] [] B (tb_Rv 149 Kv) := by
    intro k
    induction k with
    | zero =>
      intro d0 B P Q x5 hk2 pc h
      have : d0 = days := by omega
      subst this
      have p3 := td_p3B (k := d0) (by omega)
      refine q149_45 ⟨fun _ => l154 pc h (by rw [td_Qc]; omega) (fun B1 f1 e1 e2 => hk B1 f1 ?_ e2), fun q => absurd q (by omega)⟩
      rw [e1, h.2.1.1, h.2.1.2]
      exact pc
    | succ k ih =>
      intro d0 B P Q x5 hk2 pc h
      have p3 := td_p3B (k := d0) (by omega)
      refine l149d L pc (by omega) (by omega) h (by rw [td_Qc]; omega) (fun B1 x5 h1 => ?_)
      exact ih (d0 + 1) B1 Q P x5 (by omega) (td_pcs pc) h1
  refine run days 0 B2 Q P _ (by omega) (td_pcs pc) ⟨h2.1, h2.2.1, td_nvc (by decide) h2.2.2.1 (fun _ _ _ => rfl) (fun φ => ?_), fun z z0 z1 z2 z3 => h2.2.2.2 z z0 z1 z2 z3⟩
  show 0 + 1 * φ (td_io (12 * 800 + ((A.1 82 1 * 10 + A.1 82 0) * 8 + A.1 82 2))) = φ (td_z0 A)
  have : td_io (12 * 800 + ((A.1 82 1 * 10 + A.1 82 0) * 8 + A.1 82 2)) = td_z0 A := by
    unfold td_io td_z0
    rw [show (12 * 800 + ((A.1 82 1 * 10 + A.1 82 0) * 8 + A.1 82 2)) / 800 = 12 by omega, show td_m 12 = 13 from rfl]
    omega
  rw [this]
  omega
end TBWAYS4
