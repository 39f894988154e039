/-! READER 1: pairs of runs; tokens -/
section TETOK
variable {X : tb_X} {A B : tb_H} {K : Int → tb_H → Prop} {Kv : tb_H → Prop}
/-- two runs, one over the class's heap, one over the reference's, and where they come to -/
def te_P2 {β γ : Type} (c : (β → Prop) → Prop) (r : (γ → Prop) → Prop) (Q : β → γ → Prop) : Prop := ∃ a b, (∀ K : β → Prop, K a → c K) ∧ (∀ K : γ → Prop, K b → r K) ∧ Q a b
/-- a run comes to one place -/
def te_fn {β : Type} (c : (β → Prop) → Prop) : Prop := ∀ K : β → Prop, c K → ∃ b, K b ∧ ∀ K' : β → Prop, K' b → c K'
section
variable {β γ δ ε : Type} {c : (β → Prop) → Prop} {r : (γ → Prop) → Prop} {Q Q' : β → γ → Prop}
theorem te_P2.imp (h : te_P2 c r Q) (f : ∀ A B, Q A B → Q' A B) : te_P2 c r Q' := by
  obtain ⟨A1, B1, h1, h2, q⟩ := h
  exact ⟨A1, B1, h1, h2, f A1 B1 q⟩
theorem te_P2.seq {c2 : β → (δ → Prop) → Prop} {r2 : γ → (ε → Prop) → Prop} {Q2 : δ → ε → Prop} (h : te_P2 c r Q) (g : ∀ A' B', Q A' B' → te_P2 (c2 A') (r2 B') Q2) : te_P2 (fun K => c (fun A' => c2 A' K)) (fun K => r (fun B' => r2 B' K)) Q2 := by
  obtain ⟨A1, B1, h1, h2, q⟩ := h
  obtain ⟨A2, B2, g1, g2, q2⟩ := g A1 B1 q
  exact ⟨A2, B2, fun K k => h1 _ (g1 K k), fun K k => h2 _ (g2 K k), q2⟩
theorem te_P2.of (hc : te_fn c) (hr : te_fn r) (h : c (fun A' => r (fun B' => Q A' B'))) : te_P2 c r Q := by
  obtain ⟨A1, k1, g1⟩ := hc _ h
  obtain ⟨B1, k2, g2⟩ := hr _ k1
  exact ⟨A1, B1, g1, g2, k2⟩
theorem te_P2.cr (h : te_P2 c r Q) : c (fun A' => r (fun B' => Q A' B')) := by
  obtain ⟨A1, B1, h1, h2, q⟩ := h
  exact h1 _ (h2 _ q)
theorem te_P2.rc (h : te_P2 c r Q) : r (fun B' => c (fun A' => Q A' B')) := by
  obtain ⟨A1, B1, h1, h2, q⟩ := h
  exact h2 _ (h1 _ q)
theorem te_sw (hc : te_fn c) (hr : te_fn r) (h : r (fun B' => c (fun A' => Q A' B'))) : c (fun A' => r (fun B' => Q A' B')) := by
  obtain ⟨B1, k1, g1⟩ := hr _ h
  obtain ⟨A1, k2, g2⟩ := hc _ k1
  exact g2 _ (g1 _ k2)
end
section
variable {y pc y' pc' : Nat} {lv st lv' st' : List tb_V} {C D : tb_H} {w w' : Nat} {as as' : List tb_V} {Q : tb_H → tb_H → Prop} {Qv : tb_H → Int → tb_H → Prop}
theorem te_fE : te_fn (fun K => tb_E X y pc lv st C (tb_Rv y K)) := by
  rintro K ⟨n, a, b, c, d, hr, h1, h2, k⟩
  exact ⟨d, k, fun K' k' => ⟨n, a, b, c, d, hr, h1, h2, k'⟩⟩
theorem te_fV : te_fn (fun K => tb_Cv X w as C K) := by
  rintro K ⟨n, a, b, c, d, hr, h1, h2, k⟩
  exact ⟨d, k, fun K' k' => ⟨n, a, b, c, d, hr, h1, h2, k'⟩⟩
theorem te_fI : te_fn (β := Int × tb_H) (fun K => tb_Ci X w as C (fun v B => K (v, B))) := by
  rintro K ⟨n, a, b, c, d, hr, h1, v, h2, k⟩
  exact ⟨(v, d), k, fun K' k' => ⟨n, a, b, c, d, hr, h1, v, h2, k'⟩⟩
theorem te_fEi : te_fn (β := Int × tb_H) (fun K => tb_E X y pc lv st C (tb_Ri y (fun v B => K (v, B)))) := by
  rintro K ⟨n, a, b, c, d, hr, h1, v, h2, k⟩
  exact ⟨(v, d), k, fun K' k' => ⟨n, a, b, c, d, hr, h1, v, h2, k'⟩⟩
theorem te_sEE (h : tb_E X y' pc' lv' st' D (tb_Rv y' (fun B' => tb_E X y pc lv st C (tb_Rv y (fun A' => Q A' B'))))) : tb_E X y pc lv st C (tb_Rv y (fun A' => tb_E X y' pc' lv' st' D (tb_Rv y' (fun B' => Q A' B')))) := te_sw (c := fun K => tb_E X y pc lv st C (tb_Rv y K)) (r := fun K => tb_E X y' pc' lv' st' D (tb_Rv y' K)) te_fE te_fE h
theorem te_sVE (h : tb_E X y' pc' lv' st' D (tb_Rv y' (fun B' => tb_Cv X w as C (fun A' => Q A' B')))) : tb_Cv X w as C (fun A' => tb_E X y' pc' lv' st' D (tb_Rv y' (fun B' => Q A' B'))) := te_sw (c := fun K => tb_Cv X w as C K) (r := fun K => tb_E X y' pc' lv' st' D (tb_Rv y' K)) te_fV te_fE h
theorem te_sEV (h : tb_Cv X w as D (fun B' => tb_E X y pc lv st C (tb_Rv y (fun A' => Q A' B')))) : tb_E X y pc lv st C (tb_Rv y (fun A' => tb_Cv X w as D (fun B' => Q A' B'))) := te_sw (c := fun K => tb_E X y pc lv st C (tb_Rv y K)) (r := fun K => tb_Cv X w as D K) te_fE te_fV h
theorem te_sVV (h : tb_Cv X w' as' D (fun B' => tb_Cv X w as C (fun A' => Q A' B'))) : tb_Cv X w as C (fun A' => tb_Cv X w' as' D (fun B' => Q A' B')) := te_sw (c := fun K => tb_Cv X w as C K) (r := fun K => tb_Cv X w' as' D K) te_fV te_fV h
theorem te_sEI (h : tb_Ci X w as D (fun v B' => tb_E X y pc lv st C (tb_Rv y (fun A' => Qv A' v B')))) : tb_E X y pc lv st C (tb_Rv y (fun A' => tb_Ci X w as D (fun v B' => Qv A' v B'))) := te_sw (c := fun K => tb_E X y pc lv st C (tb_Rv y K)) (r := fun K => tb_Ci X w as D (fun v B => K (v, B))) (Q := fun A' p => Qv A' p.1 p.2) te_fE te_fI h
theorem te_sVI (h : tb_Ci X w' as' D (fun v B' => tb_Cv X w as C (fun A' => Qv A' v B'))) : tb_Cv X w as C (fun A' => tb_Ci X w' as' D (fun v B' => Qv A' v B')) := te_sw (c := fun K => tb_Cv X w as C K) (r := fun K => tb_Ci X w' as' D (fun v B => K (v, B))) (Q := fun A' p => Qv A' p.1 p.2) te_fV te_fI h
end
/-- what reading a token changes -/
def te_f1 (A A' : tb_H) : Prop := (∀ o k, o ≠ 1 → A'.1 o k = A.1 o k) ∧ (∀ k, k ≠ 4 → k ≠ 5 → k ≠ 6 → A'.1 1 k = A.1 1 k) ∧ (∀ o k, o ≠ 1 → A'.2.1 o k = A.2.1 o k) ∧ A'.2.2 = A.2.2
theorem te_f1.refl : te_f1 A A := ⟨fun _ _ _ => rfl, fun _ _ _ _ => rfl, fun _ _ _ => rfl, rfl⟩
theorem te_f1.upI {A' : tb_H} (h : te_f1 A A') {k x : Int} (hk : k = 4 ∨ k = 5 ∨ k = 6) : te_f1 A (tb_upI A' 1 k x) := by
  refine ⟨fun o z ho => ?_, fun z z4 z5 z6 => ?_, h.2.2.1, h.2.2.2⟩
  · rw [tb_uI_o ho]; exact h.1 o z ho
  · rw [tb_uI_k (by omega)]; exact h.2.1 z z4 z5 z6
theorem te_f1.upL {A' : tb_H} (h : te_f1 A A') {k x : Int} : te_f1 A (tb_upL A' 1 k x) := by
  refine ⟨h.1, h.2.1, fun o z ho => ?_, h.2.2.2⟩
  rw [tb_uL2, if_neg (fun q => ho q.1)]
  exact h.2.2.1 o z ho
theorem te_f1.trans {A' A2 : tb_H} (h : te_f1 A A') (g : te_f1 A' A2) : te_f1 A A2 := ⟨fun o k a => (g.1 o k a).trans (h.1 o k a), fun k a b c => (g.2.1 k a b c).trans (h.2.1 k a b c), fun o k a => (g.2.2.1 o k a).trans (h.2.2.1 o k a), g.2.2.2.trans h.2.2.2⟩
abbrev te_f7 (B B' : tb_H) : Prop := tb_fr [79] [(77, 4), (77, 5), (77, 6), (77, 7), (77, 8)] [] B B'
/-- the tape -/
def te_tp (n : Int) (A B : tb_H) : Prop := (A.1 1 3 = n ∧ B.1 77 3 = n) ∧ (0 ≤ n ∧ n ≤ 900 ∧ B.1 77 9 = 0) ∧ ∀ k, 0 ≤ k → k < n → A.1 2 k = tb_b8 (B.1 78 k) ∧ 0 ≤ B.1 78 k ∧ B.1 78 k ≤ 255
theorem te_tp.fr {n : Int} {A' B' : tb_H} (h : te_tp n A B) (f : te_f1 A A') (g : te_f7 B B') : te_tp n A' B' := by
  refine ⟨⟨?_, ?_⟩, ⟨h.2.1.1, h.2.1.2.1, by rw [g.1 77 9 rfl rfl]; exact h.2.1.2.2⟩, fun k k0 k1 => ?_⟩
  · rw [f.2.1 3 (by decide) (by decide) (by decide)]; exact h.1.1
  · rw [g.1 77 3 rfl rfl]; exact h.1.2
  · rw [f.1 2 k (by decide), g.1 78 k rfl rfl]; exact h.2.2 k k0 k1
/-- a word as one number -/
def te_code (l : Int → Int) : Nat → Int
  | 0 => 0
  | n + 1 => te_code l n * 32 + (l n - 96)
theorem te_code_c {l l' : Int → Int} : ∀ n : Nat, (∀ k : Int, 0 ≤ k → k < n → l k = l' k) → te_code l n = te_code l' n
  | 0, _ => rfl
  | n + 1, h => by
    show te_code l n * 32 + (l n - 96) = te_code l' n * 32 + (l' n - 96)
    rw [te_code_c n (fun k a b => h k a (by omega)), h n (by omega) (by omega)]
theorem te_code_b {l : Int → Int} : ∀ n : Nat, n ≤ 8 → (∀ k : Int, 0 ≤ k → k < n → 97 ≤ l k ∧ l k ≤ 122) → 0 ≤ te_code l n ∧ te_code l n < 1099511627776 ∧ (n ≤ 7 → te_code l n < 34359738368)
  | 0, _, _ => ⟨(show (0 : Int) ≤ 0 by decide), (show (0 : Int) < 1099511627776 by decide), fun _ => (show (0 : Int) < 34359738368 by decide)⟩
  | 1, _, h => by
    have := h 0 (by omega) (by omega)
    have e : te_code l 1 = 0 * 32 + (l (0 : Nat) - 96) := rfl
    have e' : l ((0 : Nat) : Int) = l 0 := rfl
    rw [e, e']
    omega
  | 2, _, h => by
    have := h 0 (by omega) (by omega)
    have := h 1 (by omega) (by omega)
    have e : te_code l 2 = (0 * 32 + (l 0 - 96)) * 32 + (l 1 - 96) := rfl
    rw [e]
    omega
  | 3, _, h => by
    have := h 0 (by omega) (by omega)
    have := h 1 (by omega) (by omega)
    have := h 2 (by omega) (by omega)
    have e : te_code l 3 = ((0 * 32 + (l 0 - 96)) * 32 + (l 1 - 96)) * 32 + (l 2 - 96) := rfl
    rw [e]
    omega
  | n + 4, h8, h => by
    have hb := te_code_b n (by omega) (fun k a b => h k a (by omega))
    have h0 := h n (by omega) (by omega)
    have h1 := h (n + 1) (by omega) (by omega)
    have h2 := h (n + 2) (by omega) (by omega)
    have h3 := h (n + 3) (by omega) (by omega)
    have e : te_code l (n + 4) = (((te_code l n * 32 + (l n - 96)) * 32 + (l (n + 1) - 96)) * 32 + (l (n + 2) - 96)) * 32 + (l (n + 3) - 96) := rfl
    have c : n ≤ 4 := by omega
    have cb : te_code l n < 1048576 ∧ (n ≤ 3 → te_code l n < 32768) := by
      have : n = 0 ∨ n = 1 ∨ n = 2 ∨ n = 3 ∨ n = 4 := by omega
      rcases this with rfl | rfl | rfl | rfl | rfl
      · exact ⟨(show (0 : Int) < 1048576 by decide), fun _ => (show (0 : Int) < 32768 by decide)⟩
      · have z0 := h 0 (by omega) (by omega)
        have e1 : te_code l 1 = 0 * 32 + (l 0 - 96) := rfl
        rw [e1]
        omega
      · have z0 := h 0 (by omega) (by omega)
        have z1 := h 1 (by omega) (by omega)
        have e1 : te_code l 2 = (0 * 32 + (l 0 - 96)) * 32 + (l 1 - 96) := rfl
        rw [e1]
        omega
      · have z0 := h 0 (by omega) (by omega)
        have z1 := h 1 (by omega) (by omega)
        have z2 := h 2 (by omega) (by omega)
        have e1 : te_code l 3 = ((0 * 32 + (l 0 - 96)) * 32 + (l 1 - 96)) * 32 + (l 2 - 96) := rfl
        rw [e1]
        omega
      · have z0 := h 0 (by omega) (by omega)
        have z1 := h 1 (by omega) (by omega)
        have z2 := h 2 (by omega) (by omega)
        have z3 := h 3 (by omega) (by omega)
        have e1 : te_code l 4 = (((0 * 32 + (l 0 - 96)) * 32 + (l 1 - 96)) * 32 + (l 2 - 96)) * 32 + (l 3 - 96) := rfl
        rw [e1]
        omega
    rw [e]
    omega
/-- one spelling a number -/
theorem te_code_u {l l' : Int → Int} : ∀ m m' : Nat, (∀ k : Int, 0 ≤ k → k < m → 97 ≤ l k ∧ l k ≤ 122) → (∀ k : Int, 0 ≤ k → k < m' → 97 ≤ l' k ∧ l' k ≤ 122) → te_code l m = te_code l' m' → m = m' ∧ ∀ k : Int, 0 ≤ k → k < m → l k = l' k
  | 0, 0, _, _, _ => ⟨rfl, fun k a b => absurd b (by omega)⟩
  | 0, m' + 1, _, h', e => by
    have a := h' m' (by omega) (by omega)
    have e2 : (0 : Int) = te_code l' m' * 32 + (l' m' - 96) := e
    omega
  | m + 1, 0, h, _, e => by
    have a := h m (by omega) (by omega)
    have e2 : te_code l m * 32 + (l m - 96) = (0 : Int) := e
    omega
  | m + 1, m' + 1, h, h', e => by
    have a := h m (by omega) (by omega)
    have a' := h' m' (by omega) (by omega)
    have e2 : te_code l m * 32 + (l m - 96) = te_code l' m' * 32 + (l' m' - 96) := e
    have u := te_code_u m m' (fun k x y => h k x (by omega)) (fun k x y => h' k x (by omega)) (by omega)
    refine ⟨by omega, fun k x y => ?_⟩
    by_cases z : k = m
    · rw [z]
      have : (m : Int) = m' := by omega
      have e3 : l m = l' m' := by omega
      rw [e3, this]
    · exact u.2 k x (by omega)
/-- the word that stands now -/
def te_wd (l : Int → Int) (m c : Int) : Prop := (1 ≤ m ∧ m ≤ 8) ∧ (∀ k, 0 ≤ k → k < m → 97 ≤ l k ∧ l k ≤ 122) ∧ c = te_code l m.toNat
/-- the token that stands now -/
def te_Tk (n : Int) (A B : tb_H) : Prop := A.1 1 6 = B.1 77 4 ∧ ((A.1 1 5 = 4 ∧ B.1 77 6 = 0) ∨ (A.1 1 5 = 0 ∧ B.1 77 6 = 1) ∨ ((A.1 1 4 = B.1 77 5 ∧ 0 ≤ A.1 1 4 ∧ A.1 1 4 ≤ n) ∧ ((A.1 1 5 = 1 ∧ B.1 77 6 = 2 ∧ te_wd (B.1 79) (B.1 77 8) (A.2.1 1 7)) ∨ (A.1 1 5 = 2 ∧ B.1 77 6 = 3 ∧ A.2.1 1 7 = B.1 77 7 ∧ 0 ≤ B.1 77 7 ∧ B.1 77 7 ≤ 999) ∨ (A.1 1 5 = 3 ∧ A.2.1 1 7 = B.1 77 6 ∧ (B.1 77 6 = 59 ∨ B.1 77 6 = 44)))))
theorem e11i {n i : Int} (hn : A.1 1 3 = n) (h9 : n ≤ 900) (i0 : 0 ≤ i) (i1 : i < n) : tb_Ci X 11 [tb_r 1, tb_i i] A K = K (A.1 2 i) A := tb_dei (q11 (by rw [if_neg (by omega), if_neg (by omega), if_pos (by omega)]; exact ⟨rfl, rfl⟩))
theorem e11n {n i : Int} (hn : A.1 1 3 = n) (i0 : 0 ≤ i) (i1 : n ≤ i) : tb_Ci X 11 [tb_r 1, tb_i i] A K = K (-1) A := tb_dei (q11 (by rw [if_neg (by omega), if_pos (by omega)]; exact ⟨rfl, rfl⟩))
theorem e205i {n i : Int} (hn : A.1 77 3 = n) (h9 : n ≤ 900) (i0 : 0 ≤ i) (i1 : i < n) : tb_Ci X 205 [tb_r 77, tb_i i] A K = K (A.1 78 i) A := tb_dei (q205 ⟨fun q => absurd q (by omega), fun _ => ⟨⟨i0, by omega⟩, rfl, rfl⟩⟩)
theorem e205n {n i : Int} (hn : A.1 77 3 = n) (i1 : n ≤ i) : tb_Ci X 205 [tb_r 77, tb_i i] A K = K (-1) A := tb_dei (q205 ⟨fun _ => ⟨rfl, rfl⟩, fun q => absurd q (by omega)⟩)
theorem e12t {x : Int} (h : 97 ≤ x ∧ x ≤ 122) : tb_Ci X 12 [tb_i x] A K = K 1 A := tb_dei (q12 (by rw [if_neg (by omega), if_neg (by omega)]; exact ⟨rfl, rfl⟩))
theorem e12f {x : Int} (h : ¬ (97 ≤ x ∧ x ≤ 122)) : tb_Ci X 12 [tb_i x] A K = K 0 A := tb_dei (q12 (by
  by_cases c : x < 97
  · rw [if_pos c]; exact ⟨rfl, rfl⟩
  · rw [if_neg c, if_pos (by omega)]; exact ⟨rfl, rfl⟩))
theorem e206t {x : Int} (h : 97 ≤ x ∧ x ≤ 122) : tb_Ci X 206 [tb_i x] A K = K 1 A := tb_dei (q206 (by rw [if_neg (by omega), if_neg (by omega)]; exact ⟨rfl, rfl⟩))
theorem e206f {x : Int} (h : ¬ (97 ≤ x ∧ x ≤ 122)) : tb_Ci X 206 [tb_i x] A K = K 0 A := tb_dei (q206 (by
  by_cases c : x < 97
  · rw [if_pos c]; exact ⟨rfl, rfl⟩
  · rw [if_neg c, if_pos (by omega)]; exact ⟨rfl, rfl⟩))
theorem e15t {x : Int} (h : 48 ≤ x ∧ x ≤ 57) : tb_Ci X 15 [tb_i x] A K = K 1 A := tb_dei (q15 (by rw [if_neg (by omega), if_neg (by omega)]; exact ⟨rfl, rfl⟩))
theorem e15f {x : Int} (h : ¬ (48 ≤ x ∧ x ≤ 57)) : tb_Ci X 15 [tb_i x] A K = K 0 A := tb_dei (q15 (by
  by_cases c : x < 48
  · rw [if_pos c]; exact ⟨rfl, rfl⟩
  · rw [if_neg c, if_pos (by omega)]; exact ⟨rfl, rfl⟩))
theorem e207t {x : Int} (h : 48 ≤ x ∧ x ≤ 57) : tb_Ci X 207 [tb_i x] A K = K 1 A := tb_dei (q207 (by rw [if_neg (by omega), if_neg (by omega)]; exact ⟨rfl, rfl⟩))
theorem e207f {x : Int} (h : ¬ (48 ≤ x ∧ x ≤ 57)) : tb_Ci X 207 [tb_i x] A K = K 0 A := tb_dei (q207 (by
  by_cases c : x < 48
  · rw [if_pos c]; exact ⟨rfl, rfl⟩
  · rw [if_neg c, if_pos (by omega)]; exact ⟨rfl, rfl⟩))
theorem e14 {c l : Int} (c0 : 0 ≤ c) (c1 : c < 34359738368) (l0 : 97 ≤ l ∧ l ≤ 122) {Kj : Int → tb_H → Prop} : tb_Cj X 14 [tb_j c, tb_i l] A Kj = Kj (c * 32 + (l - 96)) A := tb_dej (q14 (by
  rw [tb_W_id (x := c * 32) (by omega) (by omega), tb_W_id (x := c * 32 + l) (by omega) (by omega), tb_W_id (x := c * 32 + l - 97) (by omega) (by omega), tb_W_id (by omega) (by omega)]
  exact ⟨by omega, rfl⟩))
theorem e14g {c l : Int} {Kj : Int → tb_H → Prop} : tb_Cj X 14 [tb_j c, tb_i l] A Kj = Kj (tb_W ((tb_W ((tb_W ((tb_W (c * 32)) + l)) - 97)) + 1)) A := tb_dej (q14 ⟨rfl, rfl⟩)
end TETOK
