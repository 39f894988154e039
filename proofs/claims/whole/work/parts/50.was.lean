/-! was: the edge of what was reached -/
section TBWAS
variable {X : tb_X} {A B : tb_H} {K : Int → tb_H → Prop} {Kv : tb_H → Prop}
def td_o2F : Bool := (List.range 256).all fun x => (List.range 8).all fun h => let o := tb_or x (tb_shl 1 h); decide (0 ≤ o ∧ o < 256) && (List.range 8).all fun j => decide (tb_bt o j = if j = h then 1 else tb_bt x j)
theorem td_o2F_t : td_o2F = true := by decide +kernel
theorem td_or2 {x h : Int} (x0 : 0 ≤ x) (x1 : x < 256) (h0 : 0 ≤ h) (h1 : h < 8) : (0 ≤ tb_or x (tb_shl 1 h) ∧ tb_or x (tb_shl 1 h) < 256) ∧ ∀ j, 0 ≤ j → j < 8 → tb_bt (tb_or x (tb_shl 1 h)) j = if j = h then 1 else tb_bt x j := by
  obtain ⟨a, rfl⟩ := Int.eq_ofNat_of_zero_le x0
  obtain ⟨b, rfl⟩ := Int.eq_ofNat_of_zero_le h0
  have t := List.all_eq_true.mp td_o2F_t a (by simp; omega)
  have t := List.all_eq_true.mp t b (by simp; omega)
  simp only [Bool.and_eq_true, decide_eq_true_eq] at t
  refine ⟨t.1, fun j j0 j1 => ?_⟩
  obtain ⟨c, rfl⟩ := Int.eq_ofNat_of_zero_le j0
  have u := of_decide_eq_true (List.all_eq_true.mp t.2 c (by simp; omega))
  rw [u]
  by_cases e : c = b
  · rw [if_pos e, if_pos (by omega)]
  · rw [if_neg e, if_neg (by omega)]
def td_nzF : Bool := (List.range 256).all fun x => decide (x = 0) || (List.range 8).any fun h => decide (tb_bt x h = 1)
theorem td_nzF_t : td_nzF = true := by decide +kernel
theorem td_nz {x : Int} (x0 : 0 ≤ x) (x1 : x < 256) : x ≠ 0 ↔ ∃ h, (0 ≤ h ∧ h < 8) ∧ tb_bt x h = 1 := by
  constructor
  · intro n
    obtain ⟨a, rfl⟩ := Int.eq_ofNat_of_zero_le x0
    have t := List.all_eq_true.mp td_nzF_t a (by simp; omega)
    rw [Bool.or_eq_true, decide_eq_true_eq] at t
    rcases t with t | t
    · exact absurd t (by omega)
    · obtain ⟨h, h1, h2⟩ := List.any_eq_true.mp t
      exact ⟨h, ⟨by omega, by simp at h1; omega⟩, of_decide_eq_true h2⟩
  · rintro ⟨h, ⟨h0, h1⟩, e⟩ z
    rw [z, (td_255 h0 h1).2] at e
    exact absurd e (by decide)
def td_pq (P Q : Nat) : Prop := (P = 46 ∧ Q = 47) ∨ (P = 47 ∧ Q = 46)
theorem td_pqk {P Q : Nat} (h : td_pq P Q) : tb_kd P = (1, 100, [0]) ∧ tb_kd Q = (1, 100, [0]) ∧ P ≠ Q := by
  rcases h with ⟨rfl, rfl⟩ | ⟨rfl, rfl⟩ <;> exact ⟨rfl, rfl, by decide⟩
theorem td_pqs {P Q : Nat} (h : td_pq P Q) : td_pq Q P := by
  rcases h with ⟨rfl, rfl⟩ | ⟨rfl, rfl⟩
  · exact Or.inr ⟨rfl, rfl⟩
  · exact Or.inl ⟨rfl, rfl⟩
theorem td_pqu {P Q : Nat} (h : td_pq P Q) {k x : Int} (f : tb_fr [46, 47] [] [42] A B) : tb_fr [46, 47] [] [42] A (tb_upI B P k x) := by
  rcases h with ⟨rfl, rfl⟩ | ⟨rfl, rfl⟩ <;> exact tb_fr.upI f rfl
/-- the extreme of a set of cells -/
def td_xc (f : Int → Prop) (co : Int → Int) (s i r : Int) : Prop := (r = -1 ∧ ∀ c, 0 ≤ c → c < i → ¬ f c) ∨ ((∃ c, 0 ≤ c ∧ c < i ∧ f c ∧ co c = r) ∧ ∀ c, 0 ≤ c → c < i → f c → (s % 2 = 1 → co c ≤ r) ∧ (s % 2 = 0 → r ≤ co c))
section TDXC
variable {f : Int → Prop} {co : Int → Int} {s i r : Int}
theorem td_xc_n (i0 : 0 ≤ i) (n : ¬ f i) (h : td_xc f co s i r) : td_xc f co s (i + 1) r := by
  have a : ∀ c, c < i + 1 → f c → c < i := fun c b g => by
    by_cases e : c = i
    · subst e; exact absurd g n
    · omega
  rcases h with ⟨e, h⟩ | ⟨⟨c, c0, c1, c2, c3⟩, h⟩
  · exact Or.inl ⟨e, fun c c0 c1 g => h c c0 (a c c1 g) g⟩
  · exact Or.inr ⟨⟨c, c0, by omega, c2, c3⟩, fun c c0 c1 g => h c c0 (a c c1 g) g⟩
theorem td_xc_t (i0 : 0 ≤ i) (n : f i) (h : td_xc f co s i r) (t : r = -1 ∨ (s % 2 = 1 ∧ r ≤ co i) ∨ (s % 2 = 0 ∧ co i ≤ r)) (hc : ∀ c, 0 ≤ c → 0 ≤ co c) : td_xc f co s (i + 1) (co i) := by
  refine Or.inr ⟨⟨i, i0, by omega, n, rfl⟩, fun c c0 c1 g => ?_⟩
  by_cases e : c = i
  · subst e; exact ⟨fun _ => Int.le_refl _, fun _ => Int.le_refl _⟩
  · rcases h with ⟨_, h⟩ | ⟨⟨c', c0', _, _, c3'⟩, h⟩
    · exact absurd g (h c c0 (by omega))
    · have := h c c0 (by omega) g
      have := hc c' c0'
      omega
theorem td_xc_k (i0 : 0 ≤ i) (h : td_xc f co s i r) (z : r ≠ -1) (k1 : s % 2 = 1 → co i ≤ r) (k0 : s % 2 = 0 → r ≤ co i) : td_xc f co s (i + 1) r := by
  rcases h with ⟨e, h⟩ | ⟨⟨c, c0, c1, c2, c3⟩, h⟩
  · exact absurd e z
  · refine Or.inr ⟨⟨c, c0, by omega, c2, c3⟩, fun c c0 c1 g => ?_⟩
    by_cases e : c = i
    · subst e; exact ⟨k1, k0⟩
    · exact h c c0 (by omega) g
theorem td_xc_p (h : td_xc f co s i r) (hc : ∀ c, 0 ≤ c → 0 ≤ co c) : r = -1 ∨ 0 ≤ r := by
  rcases h with ⟨e, h⟩ | ⟨⟨c, c0, c1, c2, c3⟩, h⟩
  · exact Or.inl e
  · have := hc c c0; exact Or.inr (by omega)
end TDXC
theorem td_xc_u {f g : Int → Prop} {co cp : Int → Int} {s r q : Int} (h : td_xc f co s 100 r) (h' : td_xc g cp s 100 q) (hfg : ∀ c, 0 ≤ c → c < 100 → (f c ↔ g (c % 10 * 10 + c / 10))) (hco : ∀ c, 0 ≤ c → c < 100 → co c = cp (c % 10 * 10 + c / 10)) : r = q := by
  have back : ∀ c, 0 ≤ c → c < 100 → (g c ↔ f (c % 10 * 10 + c / 10)) ∧ cp c = co (c % 10 * 10 + c / 10) := by
    intro c c0 c1
    have a := hfg (c % 10 * 10 + c / 10) (by omega) (by omega)
    have b := hco (c % 10 * 10 + c / 10) (by omega) (by omega)
    rw [show (c % 10 * 10 + c / 10) % 10 * 10 + (c % 10 * 10 + c / 10) / 10 = c by omega] at a b
    exact ⟨a.symm, b.symm⟩
  rcases h with ⟨e, h⟩ | ⟨⟨c, c0, c1, c2, c3⟩, h⟩
  · rcases h' with ⟨e', _⟩ | ⟨⟨c, c0, c1, c2, c3⟩, _⟩
    · rw [e, e']
    · exact absurd ((back c c0 c1).1.mp c2) (h _ (by omega) (by omega))
  · rcases h' with ⟨e', h'⟩ | ⟨⟨c', c0', c1', c2', c3'⟩, h'⟩
    · exact absurd ((hfg c c0 c1).mp c2) (h' _ (by omega) (by omega))
    · have a := h' _ (by omega) (by omega) ((hfg c c0 c1).mp c2)
      have b := h _ (by omega) (by omega) ((back c' c0' c1').1.mp c2')
      rw [← hco c c0 c1] at a
      rw [← (back c' c0' c1').2] at b
      omega
def td_c1 (s c : Int) : Int := if 2 ≤ s then c / 10 else c % 10
def td_c2 (s c : Int) : Int := if 2 ≤ s then c % 10 else c / 10
theorem td_c1p {s c : Int} (h : 0 ≤ c) : 0 ≤ td_c1 s c := by unfold td_c1; split <;> omega
theorem td_c2p {s c : Int} (h : 0 ≤ c) : 0 ≤ td_c2 s c := by unfold td_c2; split <;> omega
theorem sp160 {P : Nat} (hk0 : tb_kd P = (1, 100, [0])) {s : Int} (s0 : 0 ≤ s) (hk : ∀ r, td_xc (fun c => A.1 P c ≠ 0) (td_c1 s) s 100 r → K r A) : tb_Ci X 160 [tb_r P, tb_i s] A K := by
  refine q160 hk0 ?_
  have key : ∀ r x4 x5, td_xc (fun c => A.1 P c ≠ 0) (td_c1 s) s 0 r → tb_E X 160 4 [tb_r P, tb_i s, tb_i r, tb_i 0, x4, x5] [] A (tb_Ri 160 K) := by
    refine tb_lp (E := fun i => ∀ r x4 x5, td_xc (fun c => A.1 P c ≠ 0) (td_c1 s) s i r → tb_E X 160 4 [tb_r P, tb_i s, tb_i r, tb_i i, x4, x5] [] A (tb_Ri 160 K)) (n := 100) (by decide) ?_ ?_
    · intro r x4 x5 h
      exact q160_4 hk0 ⟨fun _ => hk r h, fun q => absurd q (by decide)⟩
    · intro i i0 i1 ih r x4 x5 h
      have hc : ∀ c, 0 ≤ c → 0 ≤ td_c1 s c := fun c => td_c1p
      refine q160_4 hk0 ⟨fun q => absurd q (by show ¬ (100 : Int) ≤ i; omega), fun _ => ⟨⟨i0, by show i < (100 : Int); omega⟩, fun n => ⟨fun q2 => ?_, fun q2 => ?_⟩, fun n => ?_⟩⟩
      · have ec : td_c1 s i = i / 10 := if_pos q2
        rw [e83 i0 (by omega), tb_w_id (x := i + 1) (by omega) (by omega), tb_and1]
        rw [← ec]
        refine ⟨fun z => ih _ _ _ (td_xc_t i0 n h (Or.inl z) hc), fun z => ⟨fun w => ih _ _ _ (td_xc_k i0 h z (fun m => ?_) (fun m => ?_)), fun w => ih _ _ _ (td_xc_t i0 n h (Or.inr ?_) hc)⟩⟩
        · rw [if_pos (by omega)] at w
          by_cases y : td_c1 s i ≤ r
          · exact y
          · rw [if_neg y] at w; exact absurd w (by decide)
        · rw [if_neg (by omega)] at w
          by_cases y : r ≤ td_c1 s i
          · exact y
          · rw [if_neg y] at w; exact absurd w (by decide)
        · by_cases m : s % 2 = 1
          · rw [if_pos (by omega)] at w
            by_cases y : td_c1 s i ≤ r
            · rw [if_pos y] at w; exact absurd rfl w
            · exact Or.inl ⟨m, by omega⟩
          · rw [if_neg (by omega)] at w
            by_cases y : r ≤ td_c1 s i
            · rw [if_pos y] at w; exact absurd rfl w
            · exact Or.inr ⟨by omega, by omega⟩
      · have ec : td_c1 s i = i % 10 := if_neg (by omega)
        rw [e82 i0, tb_w_id (x := i + 1) (by omega) (by omega), tb_and1]
        rw [← ec]
        refine ⟨fun z => ih _ _ _ (td_xc_t i0 n h (Or.inl z) hc), fun z => ⟨fun w => ih _ _ _ (td_xc_k i0 h z (fun m => ?_) (fun m => ?_)), fun w => ih _ _ _ (td_xc_t i0 n h (Or.inr ?_) hc)⟩⟩
        · rw [if_pos (by omega)] at w
          by_cases y : td_c1 s i ≤ r
          · exact y
          · rw [if_neg y] at w; exact absurd w (by decide)
        · rw [if_neg (by omega)] at w
          by_cases y : r ≤ td_c1 s i
          · exact y
          · rw [if_neg y] at w; exact absurd w (by decide)
        · by_cases m : s % 2 = 1
          · rw [if_pos (by omega)] at w
            by_cases y : td_c1 s i ≤ r
            · rw [if_pos y] at w; exact absurd rfl w
            · exact Or.inl ⟨m, by omega⟩
          · rw [if_neg (by omega)] at w
            by_cases y : r ≤ td_c1 s i
            · rw [if_pos y] at w; exact absurd rfl w
            · exact Or.inr ⟨by omega, by omega⟩
      · rw [tb_w_id (x := i + 1) (by omega) (by omega)]
        exact ih _ _ _ (td_xc_n i0 (fun z => z n) h)
  exact key (-1) _ _ (Or.inl ⟨rfl, fun c a b => absurd b (by omega)⟩)
theorem sp300 {s : Int} (s0 : 0 ≤ s) (hk : ∀ r, td_xc (fun c => A.1 98 c ≠ 0) (td_c2 s) s 100 r → K r A) : tb_Ci X 300 [tb_r 77, tb_i s] A K := by
  refine q300 ?_
  have key : ∀ r x4, td_xc (fun c => A.1 98 c ≠ 0) (td_c2 s) s 0 r → tb_E X 300 4 [tb_r 77, tb_i s, tb_i r, tb_i 0, x4] [] A (tb_Ri 300 K) := by
    refine tb_lp (E := fun i => ∀ r x4, td_xc (fun c => A.1 98 c ≠ 0) (td_c2 s) s i r → tb_E X 300 4 [tb_r 77, tb_i s, tb_i r, tb_i i, x4] [] A (tb_Ri 300 K)) (n := 100) (by decide) ?_ ?_
    · intro r x4 h
      exact q300_4 ⟨fun _ => hk r h, fun q => absurd q (by decide)⟩
    · intro i i0 i1 ih r x4 h
      have hc : ∀ c, 0 ≤ c → 0 ≤ td_c2 s c := fun c => td_c2p
      have hp := td_xc_p h hc
      have ec : (if 2 ≤ s then i.tmod 10 else tb_w (i.tdiv 10) : Int) = td_c2 s i := by
        rw [Int.tmod_eq_emod_of_nonneg i0, Int.tdiv_eq_ediv_of_nonneg i0, tb_w_id (x := i / 10) (by omega) (by omega)]
        rfl
      refine q300_4 ⟨fun q => absurd q (by omega), fun _ => ⟨⟨i0, i1⟩, fun n => ?_, fun n => ?_⟩⟩
      · rw [tb_w_id (x := i + 1) (by omega) (by omega)]
        exact ih _ _ (td_xc_n i0 (fun z => z n) h)
      · rw [tb_w_id (x := i + 1) (by omega) (by omega), ec, Int.tmod_eq_emod_of_nonneg s0]
        refine ⟨fun z => ih _ _ (td_xc_t i0 n h (Or.inl (by omega)) hc), fun z => ⟨fun m => ⟨fun y => ih _ _ (td_xc_k i0 h (by omega) (fun _ => y) (fun _ => by omega)), fun y => ih _ _ (td_xc_t i0 n h (Or.inr (Or.inl ⟨by omega, by omega⟩)) hc)⟩, fun m => ⟨fun y => ih _ _ (td_xc_k i0 h (by omega) (fun _ => by omega) (fun _ => y)), fun y => ih _ _ (td_xc_t i0 n h (Or.inr (Or.inr ⟨m, by omega⟩)) hc)⟩⟩⟩
  exact key (-1) _ (Or.inl ⟨rfl, fun c a b => absurd b (by omega)⟩)
end TBWAS
