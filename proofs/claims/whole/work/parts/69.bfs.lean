/-! STEER 2: the class's queue of words -/
section TEBFS
variable {al : Int → Prop} {nx : Int → Int → Int} {s0 : Int}
def te_Q (cap : Int) (al : Int → Prop) (nx : Int → Int → Int) (s0 i t n : Int) (q d fr tu G : Int → Int) : Prop :=
  ((1 ≤ n ∧ n ≤ 800) ∧ 0 ≤ i ∧ i ≤ n) ∧ (q 0 = s0 ∧ G 0 = 1) ∧
  (∀ j, 0 ≤ j → j < n → (0 ≤ q j ∧ q j < 800) ∧ (0 ≤ d (q j) ∧ d (q j) ≤ cap ∧ d (q j) ≤ j) ∧ te_ok al (d (q j)).toNat (G j) ∧ te_W nx s0 (d (q j)).toNat (G j) = q j) ∧
  (∀ j k, 0 ≤ j → j < k → k < n → G j < G k) ∧ te_ct d = n ∧
  (∀ j, 1 ≤ j → j < n → ∃ p, (0 ≤ p ∧ p < j) ∧ fr (q j) = q p ∧ tu (q j) = G j % 3 ∧ G p = G j / 3 ∧ d (q j) = d (q p) + 1) ∧
  (i < n → ∀ j, 0 ≤ j → j < n → G j < 3 * G i + t) ∧
  (∀ j u, 0 ≤ j → 0 ≤ u → u ≤ 2 → (j < i ∨ (j = i ∧ u < t)) → j < n → d (q j) < cap → al u → ∃ k, (0 ≤ k ∧ k < n) ∧ q k = nx (q j) u ∧ G k ≤ 3 * G j + u) ∧
  (∀ s, 0 ≤ s → s < 800 → d s ≠ -1 → ∃ k, (0 ≤ k ∧ k < n) ∧ q k = s)
section
variable {i t n cap : Int} {q d fr tu G : Int → Int}
theorem te_Q.skip (h : te_Q cap al nx s0 i t n q d fr tu G) (a : ¬ al t) : te_Q cap al nx s0 i (t + 1) n q d fr tu G := by
  obtain ⟨h1, h2, h3, h4, h5, h6, h7, h8, h9⟩ := h
  refine ⟨h1, h2, h3, h4, h5, h6, fun a j j0 j1 => by have := h7 a j j0 j1; omega, fun j u j0 u0 u2 c jn dj au => ?_, h9⟩
  by_cases e : u = t
  · rw [e] at au; exact absurd au a
  · exact h8 j u j0 u0 u2 (by omega) jn dj au
theorem te_Q.seen (h : te_Q cap al nx s0 i t n q d fr tu G) (hi : i < n) (p0 : 0 ≤ nx (q i) t) (p1 : nx (q i) t < 800) (v : d (nx (q i) t) ≠ -1) : te_Q cap al nx s0 i (t + 1) n q d fr tu G := by
  obtain ⟨h1, h2, h3, h4, h5, h6, h7, h8, h9⟩ := h
  refine ⟨h1, h2, h3, h4, h5, h6, fun a j j0 j1 => by have := h7 a j j0 j1; omega, fun j u j0 u0 u2 c jn dj au => ?_, h9⟩
  by_cases e : j = i ∧ u = t
  · obtain ⟨k, hk, hq⟩ := h9 _ p0 p1 v
    rw [e.1, e.2]
    have := h7 hi k hk.1 hk.2
    exact ⟨k, hk, hq, by omega⟩
  · exact h8 j u j0 u0 u2 (by omega) jn dj au
theorem te_Q.next (h : te_Q cap al nx s0 i t n q d fr tu G) (hi : i < n) (t3 : t ≤ 3) (ht : t = 3 ∨ ¬ d (q i) < cap) : te_Q cap al nx s0 (i + 1) 0 n q d fr tu G := by
  obtain ⟨h1, h2, h3, h4, h5, h6, h7, h8, h9⟩ := h
  refine ⟨⟨h1.1, by omega, by omega⟩, h2, h3, h4, h5, h6, fun a j j0 j1 => ?_, fun j u j0 u0 u2 c jn dj au => ?_, h9⟩
  · have a1 := h7 hi j j0 j1
    have a2 := h4 i (i + 1) h1.2.1 (by omega) a
    omega
  · by_cases e : j = i
    · rcases ht with ht | ht
      · exact h8 j u j0 u0 u2 (Or.inr ⟨e, by omega⟩) jn dj au
      · rw [e] at dj; exact absurd dj ht
    · exact h8 j u j0 u0 u2 (by omega) jn dj au
theorem te_Q.push (h : te_Q cap al nx s0 i t n q d fr tu G) (hi : i < n) (t0 : 0 ≤ t) (t2 : t ≤ 2) (a : al t) (di : d (q i) < cap) {P : Int} (hP : P = nx (q i) t) (p0 : 0 ≤ P) (p1 : P < 800) (v : d P = -1) : n < 800 ∧ te_Q cap al nx s0 i (t + 1) (n + 1) (td_up q n P) (td_up d P (d (q i) + 1)) (td_up fr P (q i)) (td_up tu P t) (td_up G n (3 * G i + t)) := by
  obtain ⟨h1, h2, h3, h4, h5, h6, h7, h8, h9⟩ := h
  have n8 : n < 800 := by
    have := te_ct_b p0 p1 v
    omega
  have uq : ∀ j, j < n → td_up q n P j = q j := fun j c => if_neg (by omega)
  have uqn : td_up q n P n = P := if_pos rfl
  have uG : ∀ j, j < n → td_up G n (3 * G i + t) j = G j := fun j c => if_neg (by omega)
  have uGn : td_up G n (3 * G i + t) n = 3 * G i + t := if_pos rfl
  have ne : ∀ j, 0 ≤ j → j < n → q j ≠ P := by
    intro j j0 j1 e
    have := (h3 j j0 j1).2.1.1
    rw [e, v] at this
    omega
  have ud : ∀ j, 0 ≤ j → j < n → td_up d P (d (q i) + 1) (q j) = d (q j) := fun j j0 j1 => if_neg (ne j j0 j1)
  have udn : td_up d P (d (q i) + 1) P = d (q i) + 1 := if_pos rfl
  have ii := h3 i h1.2.1 hi
  refine ⟨n8, ⟨⟨by omega, by omega⟩, by omega, by omega⟩, ?_, ?_, ?_, ?_, ?_, ?_, ?_, ?_⟩
  · rw [uq 0 (by omega), uG 0 (by omega)]; exact h2
  · intro j j0 j1
    by_cases e : j = n
    · rw [e, uqn, udn, uGn]
      have z : (d (q i) + 1).toNat = (d (q i)).toNat + 1 := by omega
      refine ⟨⟨p0, p1⟩, by omega, ?_, ?_⟩
      · rw [z]; exact te_ok_c ii.2.2.1 t0 t2 a
      · rw [z, te_W_c t0 t2, ii.2.2.2, hP]
    · rw [uq j (by omega), uG j (by omega), ud j j0 (by omega)]
      exact h3 j j0 (by omega)
  · intro j k j0 jk k1
    by_cases e : k = n
    · rw [e, uGn, uG j (by omega)]
      exact h7 hi j j0 (by omega)
    · rw [uG k (by omega), uG j (by omega)]
      exact h4 j k j0 jk (by omega)
  · rw [te_ct_s (d := d) (d' := td_up d P (d (q i) + 1)) p0 p1 v (by rw [udn]; omega) (fun i _ _ ne => if_neg ne), h5]
  · intro j j0 j1
    by_cases e : j = n
    · refine ⟨i, by omega, ?_⟩
      rw [e, uqn, uGn, udn, uq i hi, uG i hi, ud i h1.2.1 hi]
      refine ⟨if_pos rfl, ?_, by omega, rfl⟩
      rw [show td_up tu P t P = t from if_pos rfl]
      omega
    · obtain ⟨p, pj, a1, a2, a3, a4⟩ := h6 j j0 (by omega)
      refine ⟨p, pj, ?_⟩
      rw [uq j (by omega), uG j (by omega), uq p (by omega), uG p (by omega), ud j (by omega) (by omega), ud p pj.1 (by omega)]
      refine ⟨?_, ?_, a3, a4⟩
      · rw [show td_up fr P (q i) (q j) = fr (q j) from if_neg (ne j (by omega) (by omega))]; exact a1
      · rw [show td_up tu P t (q j) = tu (q j) from if_neg (ne j (by omega) (by omega))]; exact a2
  · intro _ j j0 j1
    rw [uG i hi]
    by_cases e : j = n
    · rw [e, uGn]; omega
    · rw [uG j (by omega)]
      have := h7 hi j j0 (by omega)
      omega
  · intro j u j0 u0 u2 c jn dj au
    have jn' : j < n := by omega
    rw [uq j jn', ud j j0 jn'] at dj
    rw [uq j jn', uG j jn']
    by_cases e : j = i ∧ u = t
    · refine ⟨n, by omega, ?_⟩
      rw [uqn, uGn, e.1, e.2, hP]
      exact ⟨rfl, by omega⟩
    · obtain ⟨k, hk, b1, b2⟩ := h8 j u j0 u0 u2 (by omega) jn' dj au
      refine ⟨k, by omega, ?_⟩
      rw [uq k hk.2, uG k hk.2]
      exact ⟨b1, b2⟩
  · intro s s0' s1 ds
    by_cases e : s = P
    · exact ⟨n, by omega, by rw [uqn, e]⟩
    · rw [show td_up d P (d (q i) + 1) s = d s from if_neg e] at ds
      obtain ⟨k, hk, b⟩ := h9 s s0' s1 ds
      exact ⟨k, by omega, by rw [uq k hk.2]; exact b⟩
/-- every word ahead of the one that is looked at has its spot among those that were -/
theorem te_Q.all (h : te_Q cap al nx s0 i 0 n q d fr tu G) : ∀ (l : Nat) (m : Int), (l : Int) ≤ cap → te_ok al l m → (i < n → m < G i) → ∃ j, (0 ≤ j ∧ j < i) ∧ q j = te_W nx s0 l m ∧ G j ≤ m := by
  obtain ⟨h1, h2, h3, h4, h5, h6, h7, h8, h9⟩ := h
  intro l
  induction l with
  | zero =>
    intro m _ hm b
    have e : m = 1 := hm
    refine ⟨0, ⟨by decide, ?_⟩, h2.1, by rw [h2.2]; omega⟩
    by_cases z : i = 0
    · have := b (by omega)
      rw [z, h2.2] at this
      omega
    · omega
  | succ l ih =>
    intro m l4 hm b
    have p1 := te_ok_1 hm.1
    obtain ⟨j, ji, qj, gj⟩ := ih (m / 3) (by omega) hm.1 (fun c => by have := b c; omega)
    have jj := h3 j ji.1 (by omega)
    have le := te_ok_le jj.2.2.1 hm.1 gj
    obtain ⟨k, hk, qk, gk⟩ := h8 j (m % 3) ji.1 (by omega) (by omega) (Or.inl ji.2) (by omega) (by omega) hm.2
    refine ⟨k, ⟨hk.1, ?_⟩, ?_, by omega⟩
    · by_cases c : i < n
      · by_cases z : k < i
        · exact z
        · have b' := b c
          by_cases y : k = i
          · rw [y] at gk; omega
          · have := h4 i k h1.2.1 (by omega) hk.2
            omega
      · omega
    · rw [qk, qj]
      rfl
theorem te_Q.hit {Gl : Int → Prop} (h : te_Q 40 al nx s0 i 0 n q d fr tu G) (hi : i < n) (ng : ∀ j, 0 ≤ j → j < i → ¬ Gl (q j)) (g : Gl (q i)) : te_ST al nx s0 Gl (d (q i)) (G i) := by
  have ii := h.2.2.1 i h.1.2.1 hi
  refine Or.inr ⟨⟨ii.2.1.1, ii.2.1.2.1⟩, ii.2.2.1, by rw [ii.2.2.2]; exact g, fun l m l4 hm gm => ?_⟩
  by_cases c : G i ≤ m
  · exact c
  · obtain ⟨j, ji, qj, _⟩ := h.all l m (by omega) hm (fun _ => by omega)
    rw [← qj] at gm
    exact absurd gm (ng j ji.1 ji.2)
theorem te_Q.none {Gl : Int → Prop} (h : te_Q 40 al nx s0 i 0 n q d fr tu G) (hi : n ≤ i) (ng : ∀ j, 0 ≤ j → j < i → ¬ Gl (q j)) (m0 : Int) : te_ST al nx s0 Gl (-2) m0 := by
  refine Or.inl ⟨rfl, fun l m l4 hm gm => ?_⟩
  obtain ⟨j, ji, qj, _⟩ := h.all l m (by omega) hm (fun c => absurd c (by omega))
  rw [← qj] at gm
  exact ng j ji.1 ji.2 gm
theorem te_Q.z {d : Int → Int} (hc : 0 ≤ cap) (b0 : 0 ≤ s0) (b1 : s0 < 800) (hd : d s0 = 0) (hn : ∀ s, 0 ≤ s → s < 800 → s ≠ s0 → d s = -1) (hq : q 0 = s0) : te_Q cap al nx s0 0 0 1 q d fr tu (fun _ => 1) := by
  refine ⟨⟨by decide, by decide⟩, ⟨hq, rfl⟩, fun j j0 j1 => ?_, fun j k j0 jk k1 => absurd k1 (by omega), ?_, fun j j0 j1 => absurd j1 (by omega), fun _ j j0 j1 => by show (1 : Int) < 3 * 1 + 0; decide, fun j u j0 u0 u2 c => absurd c (by omega), fun s s0' s1 ds => ?_⟩
  · have e : j = 0 := by omega
    rw [e, hq, hd]
    exact ⟨⟨b0, b1⟩, ⟨by decide, hc, by decide⟩, rfl, rfl⟩
  · rw [te_ct_s (d := fun _ => -1) b0 b1 rfl (by rw [hd]; decide) hn, te_ct_0 (fun _ _ _ => rfl)]
    rfl
  · by_cases e : s = s0
    · exact ⟨0, by decide, by rw [hq, e]⟩
    · exact absurd (hn s s0' s1 e) ds
end
end TEBFS
