/-! one change in the class's life and the same in the reference's state (printed by a program) -/
def td_set (s : Int → Int) (j v : Int) : Int → Int := fun k => if k = j then v else s k
theorem td_set_s {s : Int → Int} {j v : Int} : td_set s j v j = v := if_pos rfl
theorem td_set_n {s : Int → Int} {j v k : Int} (h : k ≠ j) : td_set s j v k = s k := if_neg h
theorem td_set_c {s : Int → Int} {j v i u : Int} (h : i ≠ j) : td_set (td_set s j v) i u = td_set (td_set s i u) j v := by
  funext k
  unfold td_set
  by_cases a : k = i
  · rw [if_pos a, if_neg (fun q => h (a.symm.trans q)), if_pos a]
  · rw [if_neg a, if_neg a]
theorem td_set_u {A : tb_H} {k v : Int} : (tb_upI A 82 k v).1 82 = td_set (A.1 82) k v := by
  funext j
  show (if _ then _ else _) = if _ then _ else _
  by_cases e : j = k
  · rw [if_pos ⟨rfl, e⟩, if_pos e]
  · rw [if_neg (fun q => e q.2), if_neg e]
def tb_orF : Bool := (List.range 256).all fun x => (List.range 8).all fun h =>
  decide (0 ≤ tb_or x (tb_shl 1 h) ∧ tb_or x (tb_shl 1 h) < 256) && (List.range 8).all fun j => decide (tb_and (tb_shr (tb_or x (tb_shl 1 h)) j) 1 = if j = h then 1 else tb_and (tb_shr x j) 1)
theorem tb_orF_t : tb_orF = true := by decide +kernel
theorem tb_orf {x h : Int} (x0 : 0 ≤ x) (x1 : x < 256) (h0 : 0 ≤ h) (h1 : h < 8) : (0 ≤ tb_or x (tb_shl 1 h) ∧ tb_or x (tb_shl 1 h) < 256) ∧ ∀ j, 0 ≤ j → j < 8 → tb_and (tb_shr (tb_or x (tb_shl 1 h)) j) 1 = if j = h then 1 else tb_and (tb_shr x j) 1 := by
  obtain ⟨a, rfl⟩ := Int.eq_ofNat_of_zero_le x0
  obtain ⟨b, rfl⟩ := Int.eq_ofNat_of_zero_le h0
  have t := List.all_eq_true.mp tb_orF_t a (by simp; omega)
  have t := List.all_eq_true.mp t b (by simp; omega)
  simp only [Bool.and_eq_true, decide_eq_true_eq] at t
  refine ⟨t.1, fun j j0 j1 => ?_⟩
  obtain ⟨c, rfl⟩ := Int.eq_ofNat_of_zero_le j0
  have u := List.all_eq_true.mp t.2 c (by simp; omega)
  rw [decide_eq_true_eq] at u
  rw [u]
  by_cases e : c = b
  · rw [if_pos e, if_pos (by omega)]
  · rw [if_neg e, if_neg (by omega)]
def tb_o4F : Bool := (List.range 16).all fun x => decide (tb_or x 0 = x) && (List.range 4).all fun h => decide (0 ≤ tb_or x (tb_shl 1 h) ∧ tb_or x (tb_shl 1 h) < 16)
theorem tb_o4F_t : tb_o4F = true := by decide +kernel
theorem tb_o4 {x : Int} (x0 : 0 ≤ x) (x1 : x ≤ 15) : tb_or x 0 = x ∧ ∀ h, 0 ≤ h → h < 4 → 0 ≤ tb_or x (tb_shl 1 h) ∧ tb_or x (tb_shl 1 h) ≤ 15 := by
  obtain ⟨a, rfl⟩ := Int.eq_ofNat_of_zero_le x0
  have t := List.all_eq_true.mp tb_o4F_t a (by simp; omega)
  simp only [Bool.and_eq_true, decide_eq_true_eq] at t
  refine ⟨t.1, fun h h0 h1 => ?_⟩
  obtain ⟨b, rfl⟩ := Int.eq_ofNat_of_zero_le h0
  have u := List.all_eq_true.mp t.2 b (by simp; omega)
  rw [decide_eq_true_eq] at u
  omega
section TBUPD
variable {X : tb_X} {A A' : tb_H} {σ σ' : Int → Int}
theorem tc_G.gen (L : tc_G A σ) (hf : tb_fr [5, 6, 7, 8, 9, 10] [] [] A A')
    (sc : A'.1 5 0 = σ' 9 ∧ A'.1 5 1 = σ' 10 ∧ A'.1 5 2 = σ' 1 * 10 + σ' 0 ∧ A'.1 5 3 = σ' 2 ∧ A'.1 5 4 = σ' 3 ∧ A'.1 5 5 = σ' 4 ∧ A'.1 5 6 = σ' 5 ∧ A'.1 5 7 = σ' 6 ∧ A'.1 5 8 = σ' 7 ∧ A'.1 5 9 = σ' 8)
    (s0 : (0 ≤ σ' 0 ∧ σ' 0 ≤ 9) ∧ (0 ≤ σ' 1 ∧ σ' 1 ≤ 9) ∧ (0 ≤ σ' 2 ∧ σ' 2 ≤ 7) ∧ (0 ≤ σ' 3 ∧ σ' 3 ≤ σ' 9) ∧ (-2147483648 ≤ σ' 4 ∧ σ' 4 < 2147483648) ∧ (-2147483648 ≤ σ' 5 ∧ σ' 5 < 2147483648) ∧ (0 ≤ σ' 6 ∧ σ' 6 ≤ 15) ∧ (0 ≤ σ' 7 ∧ σ' 7 ≤ 15) ∧ (-2147483648 ≤ σ' 8 ∧ σ' 8 < 2147483648) ∧ (0 ≤ σ' 9 ∧ σ' 9 ≤ 200) ∧ (0 ≤ σ' 10 ∧ σ' 10 ≤ 65536))
    (ti : (0 ≤ A'.1 5 10 ∧ A'.1 5 10 < 64) ∧ ∀ h, 0 ≤ h → h < 6 → tb_and (tb_shr (A'.1 5 10) h) 1 = σ' (21 + h) ∧ (0 ≤ σ' (21 + h) ∧ σ' (21 + h) ≤ 1))
    (go : (0 ≤ A'.1 5 11 ∧ A'.1 5 11 < 256) ∧ ∀ h, 0 ≤ h → h < 8 → tb_and (tb_shr (A'.1 5 11) h) 1 = σ' (35 + h) ∧ (0 ≤ σ' (35 + h) ∧ σ' (35 + h) ≤ 1))
    (hh : ∀ h, 0 ≤ h → h < 6 → A'.1 6 h = σ' (15 + h) ∧ (0 ≤ σ' (15 + h) ∧ σ' (15 + h) ≤ 2))
    (ff : ∀ f, 0 ≤ f → f < 4 → A'.1 7 f = σ' (27 + f) ∧ (0 ≤ σ' (27 + f) ∧ σ' (27 + f) ≤ 2))
    (ho : ∀ f, 0 ≤ f → f < 4 → A'.1 8 f = σ' (31 + f) ∧ (0 ≤ σ' (31 + f) ∧ σ' (31 + f) < A.1 80 112))
    (ba : ∀ k, 0 ≤ k → k < 8 → A'.1 9 k = σ' (43 + k) ∧ (0 ≤ σ' (43 + k) ∧ σ' (43 + k) ≤ 9)) : tc_G A' σ' := by
  obtain ⟨hb, h3, h4, h5, _, _⟩ := L
  have e80 : A'.1 80 = A.1 80 := funext (fun k => hf.1 80 k rfl rfl)
  have p4 : A'.2.2 4 1 = A.2.2 4 1 := hf.2.2 4 1 rfl
  unfold tc_G
  rw [p4, e80]
  refine ⟨hb, ?_, h4, h5, ⟨sc, ⟨ti.1, fun h a b => (ti.2 h a b).1⟩, ⟨go.1, fun h a b => (go.2 h a b).1⟩, fun h a b => (hh h a b).1, fun h a b => (ff h a b).1, fun h a b => (ho h a b).1, fun h a b => (ba h a b).1⟩, ⟨s0, fun h a b => ⟨(hh h a b).2, (ti.2 h a b).2⟩, fun h a b => ⟨(ff h a b).2, (ho h a b).2⟩, fun h a b => ⟨(go.2 h a b).2, (ba h a b).2⟩⟩⟩
  unfold tb_rb at h3 ⊢
  rcases hb with hb | hb <;> rw [hb] at h3 ⊢
  · rw [show (11 + 1 : Nat) = 12 from rfl, show (11 + 2 : Nat) = 13 from rfl] at h3 ⊢
    rw [show A'.1 12 = A.1 12 from funext (fun k => hf.1 12 k rfl rfl), show A'.1 13 = A.1 13 from funext (fun k => hf.1 13 k rfl rfl)]
    exact h3
  · rw [show (48 + 1 : Nat) = 49 from rfl, show (48 + 2 : Nat) = 50 from rfl] at h3 ⊢
    rw [show A'.1 49 = A.1 49 from funext (fun k => hf.1 49 k rfl rfl), show A'.1 50 = A.1 50 from funext (fun k => hf.1 50 k rfl rfl)]
    exact h3
theorem tc_G.tf (L : tc_G A σ) : 0 ≤ A.1 5 10 ∧ A.1 5 10 < 64 := L.2.2.2.2.1.2.1.1
theorem tc_G.gf (L : tc_G A σ) : 0 ≤ A.1 5 11 ∧ A.1 5 11 < 256 := L.2.2.2.2.1.2.2.1.1
theorem tc_G.uSeed (L : tc_G A σ) {v : Int} (hv : 0 ≤ v ∧ v ≤ 65536) : tc_G (tb_upI A 5 1 v) (td_set σ 10 v) := by
  have s := L.sc0
  have z := L.s0
  exact L.gen (tb_fr.upI tb_fr.refl rfl) ⟨s.1, rfl, s.2.2.1, s.2.2.2.1, s.2.2.2.2.1, s.2.2.2.2.2.1, s.2.2.2.2.2.2.1, s.2.2.2.2.2.2.2.1, s.2.2.2.2.2.2.2.2.1, s.2.2.2.2.2.2.2.2.2⟩ ⟨z.1, z.2.1, z.2.2.1, z.2.2.2.1, z.2.2.2.2.1, z.2.2.2.2.2.1, z.2.2.2.2.2.2.1, z.2.2.2.2.2.2.2.1, z.2.2.2.2.2.2.2.2.1, z.2.2.2.2.2.2.2.2.2.1, hv⟩ (⟨L.tf, fun h a b => by rw [td_set_n (by omega)]; exact ⟨L.tie a b, (L.s15 a b).2⟩⟩) (⟨L.gf, fun h a b => by rw [td_set_n (by omega)]; exact ⟨L.gone a b, (L.s35 a b).1⟩⟩) (fun h a b => by rw [td_set_n (by omega)]; exact ⟨L.hf a b, (L.s15 a b).1⟩) (fun h a b => by rw [td_set_n (by omega)]; exact ⟨L.ff a b, (L.s27 a b).1⟩) (fun h a b => by rw [td_set_n (by omega)]; exact ⟨L.ho a b, (L.s27 a b).2⟩) (fun h a b => by rw [td_set_n (by omega)]; exact ⟨L.ba a b, (L.s35 a b).2⟩)
theorem tc_G.uHead (L : tc_G A σ) {v : Int} (hv : 0 ≤ v ∧ v ≤ 7) : tc_G (tb_upI A 5 3 v) (td_set σ 2 v) := by
  have s := L.sc0
  have z := L.s0
  exact L.gen (tb_fr.upI tb_fr.refl rfl) ⟨s.1, s.2.1, s.2.2.1, rfl, s.2.2.2.2.1, s.2.2.2.2.2.1, s.2.2.2.2.2.2.1, s.2.2.2.2.2.2.2.1, s.2.2.2.2.2.2.2.2.1, s.2.2.2.2.2.2.2.2.2⟩ ⟨z.1, z.2.1, hv, z.2.2.2.1, z.2.2.2.2.1, z.2.2.2.2.2.1, z.2.2.2.2.2.2.1, z.2.2.2.2.2.2.2.1, z.2.2.2.2.2.2.2.2.1, z.2.2.2.2.2.2.2.2.2.1, z.2.2.2.2.2.2.2.2.2.2⟩ (⟨L.tf, fun h a b => by rw [td_set_n (by omega)]; exact ⟨L.tie a b, (L.s15 a b).2⟩⟩) (⟨L.gf, fun h a b => by rw [td_set_n (by omega)]; exact ⟨L.gone a b, (L.s35 a b).1⟩⟩) (fun h a b => by rw [td_set_n (by omega)]; exact ⟨L.hf a b, (L.s15 a b).1⟩) (fun h a b => by rw [td_set_n (by omega)]; exact ⟨L.ff a b, (L.s27 a b).1⟩) (fun h a b => by rw [td_set_n (by omega)]; exact ⟨L.ho a b, (L.s27 a b).2⟩) (fun h a b => by rw [td_set_n (by omega)]; exact ⟨L.ba a b, (L.s35 a b).2⟩)
theorem tc_G.uHung (L : tc_G A σ) {v : Int} (hv : 0 ≤ v ∧ v ≤ σ 9) : tc_G (tb_upI A 5 4 v) (td_set σ 3 v) := by
  have s := L.sc0
  have z := L.s0
  exact L.gen (tb_fr.upI tb_fr.refl rfl) ⟨s.1, s.2.1, s.2.2.1, s.2.2.2.1, rfl, s.2.2.2.2.2.1, s.2.2.2.2.2.2.1, s.2.2.2.2.2.2.2.1, s.2.2.2.2.2.2.2.2.1, s.2.2.2.2.2.2.2.2.2⟩ ⟨z.1, z.2.1, z.2.2.1, hv, z.2.2.2.2.1, z.2.2.2.2.2.1, z.2.2.2.2.2.2.1, z.2.2.2.2.2.2.2.1, z.2.2.2.2.2.2.2.2.1, z.2.2.2.2.2.2.2.2.2.1, z.2.2.2.2.2.2.2.2.2.2⟩ (⟨L.tf, fun h a b => by rw [td_set_n (by omega)]; exact ⟨L.tie a b, (L.s15 a b).2⟩⟩) (⟨L.gf, fun h a b => by rw [td_set_n (by omega)]; exact ⟨L.gone a b, (L.s35 a b).1⟩⟩) (fun h a b => by rw [td_set_n (by omega)]; exact ⟨L.hf a b, (L.s15 a b).1⟩) (fun h a b => by rw [td_set_n (by omega)]; exact ⟨L.ff a b, (L.s27 a b).1⟩) (fun h a b => by rw [td_set_n (by omega)]; exact ⟨L.ho a b, (L.s27 a b).2⟩) (fun h a b => by rw [td_set_n (by omega)]; exact ⟨L.ba a b, (L.s35 a b).2⟩)
theorem tc_G.uCoin (L : tc_G A σ) {v : Int} (hv : -2147483648 ≤ v ∧ v < 2147483648) : tc_G (tb_upI A 5 5 v) (td_set σ 4 v) := by
  have s := L.sc0
  have z := L.s0
  exact L.gen (tb_fr.upI tb_fr.refl rfl) ⟨s.1, s.2.1, s.2.2.1, s.2.2.2.1, s.2.2.2.2.1, rfl, s.2.2.2.2.2.2.1, s.2.2.2.2.2.2.2.1, s.2.2.2.2.2.2.2.2.1, s.2.2.2.2.2.2.2.2.2⟩ ⟨z.1, z.2.1, z.2.2.1, z.2.2.2.1, hv, z.2.2.2.2.2.1, z.2.2.2.2.2.2.1, z.2.2.2.2.2.2.2.1, z.2.2.2.2.2.2.2.2.1, z.2.2.2.2.2.2.2.2.2.1, z.2.2.2.2.2.2.2.2.2.2⟩ (⟨L.tf, fun h a b => by rw [td_set_n (by omega)]; exact ⟨L.tie a b, (L.s15 a b).2⟩⟩) (⟨L.gf, fun h a b => by rw [td_set_n (by omega)]; exact ⟨L.gone a b, (L.s35 a b).1⟩⟩) (fun h a b => by rw [td_set_n (by omega)]; exact ⟨L.hf a b, (L.s15 a b).1⟩) (fun h a b => by rw [td_set_n (by omega)]; exact ⟨L.ff a b, (L.s27 a b).1⟩) (fun h a b => by rw [td_set_n (by omega)]; exact ⟨L.ho a b, (L.s27 a b).2⟩) (fun h a b => by rw [td_set_n (by omega)]; exact ⟨L.ba a b, (L.s35 a b).2⟩)
theorem tc_G.uDive (L : tc_G A σ) {v : Int} (hv : -2147483648 ≤ v ∧ v < 2147483648) : tc_G (tb_upI A 5 6 v) (td_set σ 5 v) := by
  have s := L.sc0
  have z := L.s0
  exact L.gen (tb_fr.upI tb_fr.refl rfl) ⟨s.1, s.2.1, s.2.2.1, s.2.2.2.1, s.2.2.2.2.1, s.2.2.2.2.2.1, rfl, s.2.2.2.2.2.2.2.1, s.2.2.2.2.2.2.2.2.1, s.2.2.2.2.2.2.2.2.2⟩ ⟨z.1, z.2.1, z.2.2.1, z.2.2.2.1, z.2.2.2.2.1, hv, z.2.2.2.2.2.2.1, z.2.2.2.2.2.2.2.1, z.2.2.2.2.2.2.2.2.1, z.2.2.2.2.2.2.2.2.2.1, z.2.2.2.2.2.2.2.2.2.2⟩ (⟨L.tf, fun h a b => by rw [td_set_n (by omega)]; exact ⟨L.tie a b, (L.s15 a b).2⟩⟩) (⟨L.gf, fun h a b => by rw [td_set_n (by omega)]; exact ⟨L.gone a b, (L.s35 a b).1⟩⟩) (fun h a b => by rw [td_set_n (by omega)]; exact ⟨L.hf a b, (L.s15 a b).1⟩) (fun h a b => by rw [td_set_n (by omega)]; exact ⟨L.ff a b, (L.s27 a b).1⟩) (fun h a b => by rw [td_set_n (by omega)]; exact ⟨L.ho a b, (L.s27 a b).2⟩) (fun h a b => by rw [td_set_n (by omega)]; exact ⟨L.ba a b, (L.s35 a b).2⟩)
theorem tc_G.uBuys (L : tc_G A σ) {v : Int} (hv : 0 ≤ v ∧ v ≤ 15) : tc_G (tb_upI A 5 7 v) (td_set σ 6 v) := by
  have s := L.sc0
  have z := L.s0
  exact L.gen (tb_fr.upI tb_fr.refl rfl) ⟨s.1, s.2.1, s.2.2.1, s.2.2.2.1, s.2.2.2.2.1, s.2.2.2.2.2.1, s.2.2.2.2.2.2.1, rfl, s.2.2.2.2.2.2.2.2.1, s.2.2.2.2.2.2.2.2.2⟩ ⟨z.1, z.2.1, z.2.2.1, z.2.2.2.1, z.2.2.2.2.1, z.2.2.2.2.2.1, hv, z.2.2.2.2.2.2.2.1, z.2.2.2.2.2.2.2.2.1, z.2.2.2.2.2.2.2.2.2.1, z.2.2.2.2.2.2.2.2.2.2⟩ (⟨L.tf, fun h a b => by rw [td_set_n (by omega)]; exact ⟨L.tie a b, (L.s15 a b).2⟩⟩) (⟨L.gf, fun h a b => by rw [td_set_n (by omega)]; exact ⟨L.gone a b, (L.s35 a b).1⟩⟩) (fun h a b => by rw [td_set_n (by omega)]; exact ⟨L.hf a b, (L.s15 a b).1⟩) (fun h a b => by rw [td_set_n (by omega)]; exact ⟨L.ff a b, (L.s27 a b).1⟩) (fun h a b => by rw [td_set_n (by omega)]; exact ⟨L.ho a b, (L.s27 a b).2⟩) (fun h a b => by rw [td_set_n (by omega)]; exact ⟨L.ba a b, (L.s35 a b).2⟩)
theorem tc_G.uClai (L : tc_G A σ) {v : Int} (hv : 0 ≤ v ∧ v ≤ 15) : tc_G (tb_upI A 5 8 v) (td_set σ 7 v) := by
  have s := L.sc0
  have z := L.s0
  exact L.gen (tb_fr.upI tb_fr.refl rfl) ⟨s.1, s.2.1, s.2.2.1, s.2.2.2.1, s.2.2.2.2.1, s.2.2.2.2.2.1, s.2.2.2.2.2.2.1, s.2.2.2.2.2.2.2.1, rfl, s.2.2.2.2.2.2.2.2.2⟩ ⟨z.1, z.2.1, z.2.2.1, z.2.2.2.1, z.2.2.2.2.1, z.2.2.2.2.2.1, z.2.2.2.2.2.2.1, hv, z.2.2.2.2.2.2.2.2.1, z.2.2.2.2.2.2.2.2.2.1, z.2.2.2.2.2.2.2.2.2.2⟩ (⟨L.tf, fun h a b => by rw [td_set_n (by omega)]; exact ⟨L.tie a b, (L.s15 a b).2⟩⟩) (⟨L.gf, fun h a b => by rw [td_set_n (by omega)]; exact ⟨L.gone a b, (L.s35 a b).1⟩⟩) (fun h a b => by rw [td_set_n (by omega)]; exact ⟨L.hf a b, (L.s15 a b).1⟩) (fun h a b => by rw [td_set_n (by omega)]; exact ⟨L.ff a b, (L.s27 a b).1⟩) (fun h a b => by rw [td_set_n (by omega)]; exact ⟨L.ho a b, (L.s27 a b).2⟩) (fun h a b => by rw [td_set_n (by omega)]; exact ⟨L.ba a b, (L.s35 a b).2⟩)
theorem tc_G.uPlea (L : tc_G A σ) {v : Int} (hv : -2147483648 ≤ v ∧ v < 2147483648) : tc_G (tb_upI A 5 9 v) (td_set σ 8 v) := by
  have s := L.sc0
  have z := L.s0
  exact L.gen (tb_fr.upI tb_fr.refl rfl) ⟨s.1, s.2.1, s.2.2.1, s.2.2.2.1, s.2.2.2.2.1, s.2.2.2.2.2.1, s.2.2.2.2.2.2.1, s.2.2.2.2.2.2.2.1, s.2.2.2.2.2.2.2.2.1, rfl⟩ ⟨z.1, z.2.1, z.2.2.1, z.2.2.2.1, z.2.2.2.2.1, z.2.2.2.2.2.1, z.2.2.2.2.2.2.1, z.2.2.2.2.2.2.2.1, hv, z.2.2.2.2.2.2.2.2.2.1, z.2.2.2.2.2.2.2.2.2.2⟩ (⟨L.tf, fun h a b => by rw [td_set_n (by omega)]; exact ⟨L.tie a b, (L.s15 a b).2⟩⟩) (⟨L.gf, fun h a b => by rw [td_set_n (by omega)]; exact ⟨L.gone a b, (L.s35 a b).1⟩⟩) (fun h a b => by rw [td_set_n (by omega)]; exact ⟨L.hf a b, (L.s15 a b).1⟩) (fun h a b => by rw [td_set_n (by omega)]; exact ⟨L.ff a b, (L.s27 a b).1⟩) (fun h a b => by rw [td_set_n (by omega)]; exact ⟨L.ho a b, (L.s27 a b).2⟩) (fun h a b => by rw [td_set_n (by omega)]; exact ⟨L.ba a b, (L.s35 a b).2⟩)
theorem tc_G.uDay (L : tc_G A σ) {v : Int} (hv : σ 9 ≤ v ∧ v ≤ 200) : tc_G (tb_upI A 5 0 v) (td_set σ 9 v) := by
  have s := L.sc0
  have z := L.s0
  exact L.gen (tb_fr.upI tb_fr.refl rfl) ⟨rfl, s.2.1, s.2.2.1, s.2.2.2.1, s.2.2.2.2.1, s.2.2.2.2.2.1, s.2.2.2.2.2.2.1, s.2.2.2.2.2.2.2.1, s.2.2.2.2.2.2.2.2.1, s.2.2.2.2.2.2.2.2.2⟩ ⟨z.1, z.2.1, z.2.2.1, ⟨z.2.2.2.1.1, by show σ 3 ≤ v; omega⟩, z.2.2.2.2.1, z.2.2.2.2.2.1, z.2.2.2.2.2.2.1, z.2.2.2.2.2.2.2.1, z.2.2.2.2.2.2.2.2.1, ⟨by show (0 : Int) ≤ v; omega, by show v ≤ 200; omega⟩, z.2.2.2.2.2.2.2.2.2.2⟩ (⟨L.tf, fun h a b => by rw [td_set_n (by omega)]; exact ⟨L.tie a b, (L.s15 a b).2⟩⟩) (⟨L.gf, fun h a b => by rw [td_set_n (by omega)]; exact ⟨L.gone a b, (L.s35 a b).1⟩⟩) (fun h a b => by rw [td_set_n (by omega)]; exact ⟨L.hf a b, (L.s15 a b).1⟩) (fun h a b => by rw [td_set_n (by omega)]; exact ⟨L.ff a b, (L.s27 a b).1⟩) (fun h a b => by rw [td_set_n (by omega)]; exact ⟨L.ho a b, (L.s27 a b).2⟩) (fun h a b => by rw [td_set_n (by omega)]; exact ⟨L.ba a b, (L.s35 a b).2⟩)
theorem tc_G.uCell (L : tc_G A σ) {a b : Int} (ha : 0 ≤ a ∧ a ≤ 9) (hb : 0 ≤ b ∧ b ≤ 9) : tc_G (tb_upI A 5 2 (b * 10 + a)) (td_set (td_set σ 0 a) 1 b) := by
  have s := L.sc0
  have z := L.s0
  exact L.gen (tb_fr.upI tb_fr.refl rfl) ⟨s.1, s.2.1, rfl, s.2.2.2.1, s.2.2.2.2.1, s.2.2.2.2.2.1, s.2.2.2.2.2.2.1, s.2.2.2.2.2.2.2.1, s.2.2.2.2.2.2.2.2.1, s.2.2.2.2.2.2.2.2.2⟩ ⟨ha, hb, z.2.2.1, z.2.2.2.1, z.2.2.2.2.1, z.2.2.2.2.2.1, z.2.2.2.2.2.2.1, z.2.2.2.2.2.2.2.1, z.2.2.2.2.2.2.2.2.1, z.2.2.2.2.2.2.2.2.2.1, z.2.2.2.2.2.2.2.2.2.2⟩ (⟨L.tf, fun h a b => by rw [td_set_n (by omega), td_set_n (by omega)]; exact ⟨L.tie a b, (L.s15 a b).2⟩⟩) (⟨L.gf, fun h a b => by rw [td_set_n (by omega), td_set_n (by omega)]; exact ⟨L.gone a b, (L.s35 a b).1⟩⟩) (fun h a b => by rw [td_set_n (by omega), td_set_n (by omega)]; exact ⟨L.hf a b, (L.s15 a b).1⟩) (fun h a b => by rw [td_set_n (by omega), td_set_n (by omega)]; exact ⟨L.ff a b, (L.s27 a b).1⟩) (fun h a b => by rw [td_set_n (by omega), td_set_n (by omega)]; exact ⟨L.ho a b, (L.s27 a b).2⟩) (fun h a b => by rw [td_set_n (by omega), td_set_n (by omega)]; exact ⟨L.ba a b, (L.s35 a b).2⟩)
theorem tc_G.uHF (L : tc_G A σ) {i v : Int} (i0 : 0 ≤ i) (i1 : i < 6) (hv : 0 ≤ v ∧ v ≤ 2) : tc_G (tb_upI A 6 i v) (td_set σ (15 + i) v) := by
  have s := L.sc0
  have z := L.s0
  refine L.gen (tb_fr.upI tb_fr.refl rfl) ⟨by rw [td_set_n (by omega)]; exact s.1, by rw [td_set_n (by omega)]; exact s.2.1, by rw [td_set_n (by omega), td_set_n (by omega)]; exact s.2.2.1, by rw [td_set_n (by omega)]; exact s.2.2.2.1, by rw [td_set_n (by omega)]; exact s.2.2.2.2.1, by rw [td_set_n (by omega)]; exact s.2.2.2.2.2.1, by rw [td_set_n (by omega)]; exact s.2.2.2.2.2.2.1, by rw [td_set_n (by omega)]; exact s.2.2.2.2.2.2.2.1, by rw [td_set_n (by omega)]; exact s.2.2.2.2.2.2.2.2.1, by rw [td_set_n (by omega)]; exact s.2.2.2.2.2.2.2.2.2⟩ ⟨by rw [td_set_n (by omega)]; exact z.1, by rw [td_set_n (by omega)]; exact z.2.1, by rw [td_set_n (by omega)]; exact z.2.2.1, by rw [td_set_n (by omega), td_set_n (by omega)]; exact z.2.2.2.1, by rw [td_set_n (by omega)]; exact z.2.2.2.2.1, by rw [td_set_n (by omega)]; exact z.2.2.2.2.2.1, by rw [td_set_n (by omega)]; exact z.2.2.2.2.2.2.1, by rw [td_set_n (by omega)]; exact z.2.2.2.2.2.2.2.1, by rw [td_set_n (by omega)]; exact z.2.2.2.2.2.2.2.2.1, by rw [td_set_n (by omega)]; exact z.2.2.2.2.2.2.2.2.2.1, by rw [td_set_n (by omega)]; exact z.2.2.2.2.2.2.2.2.2.2⟩ (⟨L.tf, fun h a b => by rw [td_set_n (by omega)]; exact ⟨L.tie a b, (L.s15 a b).2⟩⟩) (⟨L.gf, fun h a b => by rw [td_set_n (by omega)]; exact ⟨L.gone a b, (L.s35 a b).1⟩⟩) (?_) (fun h a b => by rw [td_set_n (by omega)]; exact ⟨L.ff a b, (L.s27 a b).1⟩) (fun h a b => by rw [td_set_n (by omega)]; exact ⟨L.ho a b, (L.s27 a b).2⟩) (fun h a b => by rw [td_set_n (by omega)]; exact ⟨L.ba a b, (L.s35 a b).2⟩)
  all_goals
    intro h a b
    by_cases e : h = i
    · rw [e, td_set_s, tb_uI_s]
      exact ⟨rfl, hv⟩
    · rw [td_set_n (by omega), tb_uI_k e]
      exact ⟨L.hf a b, (L.s15 a b).1⟩
theorem tc_G.uFF (L : tc_G A σ) {i v : Int} (i0 : 0 ≤ i) (i1 : i < 4) (hv : 0 ≤ v ∧ v ≤ 2) : tc_G (tb_upI A 7 i v) (td_set σ (27 + i) v) := by
  have s := L.sc0
  have z := L.s0
  refine L.gen (tb_fr.upI tb_fr.refl rfl) ⟨by rw [td_set_n (by omega)]; exact s.1, by rw [td_set_n (by omega)]; exact s.2.1, by rw [td_set_n (by omega), td_set_n (by omega)]; exact s.2.2.1, by rw [td_set_n (by omega)]; exact s.2.2.2.1, by rw [td_set_n (by omega)]; exact s.2.2.2.2.1, by rw [td_set_n (by omega)]; exact s.2.2.2.2.2.1, by rw [td_set_n (by omega)]; exact s.2.2.2.2.2.2.1, by rw [td_set_n (by omega)]; exact s.2.2.2.2.2.2.2.1, by rw [td_set_n (by omega)]; exact s.2.2.2.2.2.2.2.2.1, by rw [td_set_n (by omega)]; exact s.2.2.2.2.2.2.2.2.2⟩ ⟨by rw [td_set_n (by omega)]; exact z.1, by rw [td_set_n (by omega)]; exact z.2.1, by rw [td_set_n (by omega)]; exact z.2.2.1, by rw [td_set_n (by omega), td_set_n (by omega)]; exact z.2.2.2.1, by rw [td_set_n (by omega)]; exact z.2.2.2.2.1, by rw [td_set_n (by omega)]; exact z.2.2.2.2.2.1, by rw [td_set_n (by omega)]; exact z.2.2.2.2.2.2.1, by rw [td_set_n (by omega)]; exact z.2.2.2.2.2.2.2.1, by rw [td_set_n (by omega)]; exact z.2.2.2.2.2.2.2.2.1, by rw [td_set_n (by omega)]; exact z.2.2.2.2.2.2.2.2.2.1, by rw [td_set_n (by omega)]; exact z.2.2.2.2.2.2.2.2.2.2⟩ (⟨L.tf, fun h a b => by rw [td_set_n (by omega)]; exact ⟨L.tie a b, (L.s15 a b).2⟩⟩) (⟨L.gf, fun h a b => by rw [td_set_n (by omega)]; exact ⟨L.gone a b, (L.s35 a b).1⟩⟩) (fun h a b => by rw [td_set_n (by omega)]; exact ⟨L.hf a b, (L.s15 a b).1⟩) (?_) (fun h a b => by rw [td_set_n (by omega)]; exact ⟨L.ho a b, (L.s27 a b).2⟩) (fun h a b => by rw [td_set_n (by omega)]; exact ⟨L.ba a b, (L.s35 a b).2⟩)
  all_goals
    intro h a b
    by_cases e : h = i
    · rw [e, td_set_s, tb_uI_s]
      exact ⟨rfl, hv⟩
    · rw [td_set_n (by omega), tb_uI_k e]
      exact ⟨L.ff a b, (L.s27 a b).1⟩
theorem tc_G.uBa (L : tc_G A σ) {i v : Int} (i0 : 0 ≤ i) (i1 : i < 8) (hv : 0 ≤ v ∧ v ≤ 9) : tc_G (tb_upI A 9 i v) (td_set σ (43 + i) v) := by
  have s := L.sc0
  have z := L.s0
  refine L.gen (tb_fr.upI tb_fr.refl rfl) ⟨by rw [td_set_n (by omega)]; exact s.1, by rw [td_set_n (by omega)]; exact s.2.1, by rw [td_set_n (by omega), td_set_n (by omega)]; exact s.2.2.1, by rw [td_set_n (by omega)]; exact s.2.2.2.1, by rw [td_set_n (by omega)]; exact s.2.2.2.2.1, by rw [td_set_n (by omega)]; exact s.2.2.2.2.2.1, by rw [td_set_n (by omega)]; exact s.2.2.2.2.2.2.1, by rw [td_set_n (by omega)]; exact s.2.2.2.2.2.2.2.1, by rw [td_set_n (by omega)]; exact s.2.2.2.2.2.2.2.2.1, by rw [td_set_n (by omega)]; exact s.2.2.2.2.2.2.2.2.2⟩ ⟨by rw [td_set_n (by omega)]; exact z.1, by rw [td_set_n (by omega)]; exact z.2.1, by rw [td_set_n (by omega)]; exact z.2.2.1, by rw [td_set_n (by omega), td_set_n (by omega)]; exact z.2.2.2.1, by rw [td_set_n (by omega)]; exact z.2.2.2.2.1, by rw [td_set_n (by omega)]; exact z.2.2.2.2.2.1, by rw [td_set_n (by omega)]; exact z.2.2.2.2.2.2.1, by rw [td_set_n (by omega)]; exact z.2.2.2.2.2.2.2.1, by rw [td_set_n (by omega)]; exact z.2.2.2.2.2.2.2.2.1, by rw [td_set_n (by omega)]; exact z.2.2.2.2.2.2.2.2.2.1, by rw [td_set_n (by omega)]; exact z.2.2.2.2.2.2.2.2.2.2⟩ (⟨L.tf, fun h a b => by rw [td_set_n (by omega)]; exact ⟨L.tie a b, (L.s15 a b).2⟩⟩) (⟨L.gf, fun h a b => by rw [td_set_n (by omega)]; exact ⟨L.gone a b, (L.s35 a b).1⟩⟩) (fun h a b => by rw [td_set_n (by omega)]; exact ⟨L.hf a b, (L.s15 a b).1⟩) (fun h a b => by rw [td_set_n (by omega)]; exact ⟨L.ff a b, (L.s27 a b).1⟩) (fun h a b => by rw [td_set_n (by omega)]; exact ⟨L.ho a b, (L.s27 a b).2⟩) (?_)
  all_goals
    intro h a b
    by_cases e : h = i
    · rw [e, td_set_s, tb_uI_s]
      exact ⟨rfl, hv⟩
    · rw [td_set_n (by omega), tb_uI_k e]
      exact ⟨L.ba a b, (L.s35 a b).2⟩
theorem tc_G.uGone (L : tc_G A σ) {i : Int} (i0 : 0 ≤ i) (i1 : i < 8) : tc_G (tb_upI A 5 11 (tb_or (A.1 5 11) (tb_shl 1 i))) (td_set σ (35 + i) 1) := by
  have s := L.sc0
  have z := L.s0
  have g := tb_orf L.gf.1 L.gf.2 i0 i1
  refine L.gen (tb_fr.upI tb_fr.refl rfl) ⟨by rw [td_set_n (by omega)]; exact s.1, by rw [td_set_n (by omega)]; exact s.2.1, by rw [td_set_n (by omega), td_set_n (by omega)]; exact s.2.2.1, by rw [td_set_n (by omega)]; exact s.2.2.2.1, by rw [td_set_n (by omega)]; exact s.2.2.2.2.1, by rw [td_set_n (by omega)]; exact s.2.2.2.2.2.1, by rw [td_set_n (by omega)]; exact s.2.2.2.2.2.2.1, by rw [td_set_n (by omega)]; exact s.2.2.2.2.2.2.2.1, by rw [td_set_n (by omega)]; exact s.2.2.2.2.2.2.2.2.1, by rw [td_set_n (by omega)]; exact s.2.2.2.2.2.2.2.2.2⟩ ⟨by rw [td_set_n (by omega)]; exact z.1, by rw [td_set_n (by omega)]; exact z.2.1, by rw [td_set_n (by omega)]; exact z.2.2.1, by rw [td_set_n (by omega), td_set_n (by omega)]; exact z.2.2.2.1, by rw [td_set_n (by omega)]; exact z.2.2.2.2.1, by rw [td_set_n (by omega)]; exact z.2.2.2.2.2.1, by rw [td_set_n (by omega)]; exact z.2.2.2.2.2.2.1, by rw [td_set_n (by omega)]; exact z.2.2.2.2.2.2.2.1, by rw [td_set_n (by omega)]; exact z.2.2.2.2.2.2.2.2.1, by rw [td_set_n (by omega)]; exact z.2.2.2.2.2.2.2.2.2.1, by rw [td_set_n (by omega)]; exact z.2.2.2.2.2.2.2.2.2.2⟩ (⟨L.tf, fun h a b => by rw [td_set_n (by omega)]; exact ⟨L.tie a b, (L.s15 a b).2⟩⟩) ⟨g.1, fun h a b => ?_⟩ (fun h a b => by rw [td_set_n (by omega)]; exact ⟨L.hf a b, (L.s15 a b).1⟩) (fun h a b => by rw [td_set_n (by omega)]; exact ⟨L.ff a b, (L.s27 a b).1⟩) (fun h a b => by rw [td_set_n (by omega)]; exact ⟨L.ho a b, (L.s27 a b).2⟩) (fun h a b => by rw [td_set_n (by omega)]; exact ⟨L.ba a b, (L.s35 a b).2⟩)
  show tb_and (tb_shr (tb_or (A.1 5 11) (tb_shl 1 i)) h) 1 = _ ∧ _
  rw [g.2 h a b]
  by_cases e : h = i
  · rw [e, if_pos rfl, td_set_s]
    exact ⟨rfl, by decide⟩
  · rw [if_neg e, td_set_n (by omega)]
    exact ⟨L.gone a b, (L.s35 a b).1⟩
theorem tc_G.uNear (L : tc_G A σ) {i v : Int} (i0 : 0 ≤ i) (i1 : i < 4) : tc_G A (td_set σ (11 + i) v) := by
  have s := L.sc0
  have z := L.s0
  exact L.gen tb_fr.refl ⟨by rw [td_set_n (by omega)]; exact s.1, by rw [td_set_n (by omega)]; exact s.2.1, by rw [td_set_n (by omega), td_set_n (by omega)]; exact s.2.2.1, by rw [td_set_n (by omega)]; exact s.2.2.2.1, by rw [td_set_n (by omega)]; exact s.2.2.2.2.1, by rw [td_set_n (by omega)]; exact s.2.2.2.2.2.1, by rw [td_set_n (by omega)]; exact s.2.2.2.2.2.2.1, by rw [td_set_n (by omega)]; exact s.2.2.2.2.2.2.2.1, by rw [td_set_n (by omega)]; exact s.2.2.2.2.2.2.2.2.1, by rw [td_set_n (by omega)]; exact s.2.2.2.2.2.2.2.2.2⟩ ⟨by rw [td_set_n (by omega)]; exact z.1, by rw [td_set_n (by omega)]; exact z.2.1, by rw [td_set_n (by omega)]; exact z.2.2.1, by rw [td_set_n (by omega), td_set_n (by omega)]; exact z.2.2.2.1, by rw [td_set_n (by omega)]; exact z.2.2.2.2.1, by rw [td_set_n (by omega)]; exact z.2.2.2.2.2.1, by rw [td_set_n (by omega)]; exact z.2.2.2.2.2.2.1, by rw [td_set_n (by omega)]; exact z.2.2.2.2.2.2.2.1, by rw [td_set_n (by omega)]; exact z.2.2.2.2.2.2.2.2.1, by rw [td_set_n (by omega)]; exact z.2.2.2.2.2.2.2.2.2.1, by rw [td_set_n (by omega)]; exact z.2.2.2.2.2.2.2.2.2.2⟩ (⟨L.tf, fun h a b => by rw [td_set_n (by omega)]; exact ⟨L.tie a b, (L.s15 a b).2⟩⟩) (⟨L.gf, fun h a b => by rw [td_set_n (by omega)]; exact ⟨L.gone a b, (L.s35 a b).1⟩⟩) (fun h a b => by rw [td_set_n (by omega)]; exact ⟨L.hf a b, (L.s15 a b).1⟩) (fun h a b => by rw [td_set_n (by omega)]; exact ⟨L.ff a b, (L.s27 a b).1⟩) (fun h a b => by rw [td_set_n (by omega)]; exact ⟨L.ho a b, (L.s27 a b).2⟩) (fun h a b => by rw [td_set_n (by omega)]; exact ⟨L.ba a b, (L.s35 a b).2⟩)
theorem tc_G.uLog (L : tc_G A σ) {i v : Int} (i0 : 51 ≤ i) : tc_G A (td_set σ i v) := by
  have s := L.sc0
  have z := L.s0
  exact L.gen tb_fr.refl ⟨by rw [td_set_n (by omega)]; exact s.1, by rw [td_set_n (by omega)]; exact s.2.1, by rw [td_set_n (by omega), td_set_n (by omega)]; exact s.2.2.1, by rw [td_set_n (by omega)]; exact s.2.2.2.1, by rw [td_set_n (by omega)]; exact s.2.2.2.2.1, by rw [td_set_n (by omega)]; exact s.2.2.2.2.2.1, by rw [td_set_n (by omega)]; exact s.2.2.2.2.2.2.1, by rw [td_set_n (by omega)]; exact s.2.2.2.2.2.2.2.1, by rw [td_set_n (by omega)]; exact s.2.2.2.2.2.2.2.2.1, by rw [td_set_n (by omega)]; exact s.2.2.2.2.2.2.2.2.2⟩ ⟨by rw [td_set_n (by omega)]; exact z.1, by rw [td_set_n (by omega)]; exact z.2.1, by rw [td_set_n (by omega)]; exact z.2.2.1, by rw [td_set_n (by omega), td_set_n (by omega)]; exact z.2.2.2.1, by rw [td_set_n (by omega)]; exact z.2.2.2.2.1, by rw [td_set_n (by omega)]; exact z.2.2.2.2.2.1, by rw [td_set_n (by omega)]; exact z.2.2.2.2.2.2.1, by rw [td_set_n (by omega)]; exact z.2.2.2.2.2.2.2.1, by rw [td_set_n (by omega)]; exact z.2.2.2.2.2.2.2.2.1, by rw [td_set_n (by omega)]; exact z.2.2.2.2.2.2.2.2.2.1, by rw [td_set_n (by omega)]; exact z.2.2.2.2.2.2.2.2.2.2⟩ (⟨L.tf, fun h a b => by rw [td_set_n (by omega)]; exact ⟨L.tie a b, (L.s15 a b).2⟩⟩) (⟨L.gf, fun h a b => by rw [td_set_n (by omega)]; exact ⟨L.gone a b, (L.s35 a b).1⟩⟩) (fun h a b => by rw [td_set_n (by omega)]; exact ⟨L.hf a b, (L.s15 a b).1⟩) (fun h a b => by rw [td_set_n (by omega)]; exact ⟨L.ff a b, (L.s27 a b).1⟩) (fun h a b => by rw [td_set_n (by omega)]; exact ⟨L.ho a b, (L.s27 a b).2⟩) (fun h a b => by rw [td_set_n (by omega)]; exact ⟨L.ba a b, (L.s35 a b).2⟩)
theorem tc_G.u10 (L : tc_G A σ) {k v : Int} : tc_G (tb_upI A 10 k v) σ := by
  have s := L.sc0
  have z := L.s0
  exact L.gen (tb_fr.upI tb_fr.refl rfl) s z ⟨L.tf, fun h a b => ⟨L.tie a b, (L.s15 a b).2⟩⟩ ⟨L.gf, fun h a b => ⟨L.gone a b, (L.s35 a b).1⟩⟩ (fun h a b => ⟨L.hf a b, (L.s15 a b).1⟩) (fun h a b => ⟨L.ff a b, (L.s27 a b).1⟩) (fun h a b => ⟨L.ho a b, (L.s27 a b).2⟩) (fun h a b => ⟨L.ba a b, (L.s35 a b).2⟩)
end TBUPD
