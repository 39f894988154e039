/-! STEER 4: how far, ways on, the least word -/
section TEDIST
variable {al : Int → Prop} {nx : Int → Int → Int} {s0 : Int} {Gl : Int → Prop}
/-- j turns lead from s to where one will -/
def te_rc (al : Int → Prop) (nx : Int → Int → Int) (Gl : Int → Prop) : Nat → Int → Prop
  | 0, s => Gl s
  | j + 1, s => ∃ t, (0 ≤ t ∧ t ≤ 2) ∧ al t ∧ te_rc al nx Gl j (nx s t)
def te_pr : Nat → Int → Int
  | 0, m => m
  | k + 1, m => te_pr k m / 3
theorem te_pr_ok : ∀ (k l : Nat) (m : Int), te_ok al (l + k) m → te_ok al l (te_pr k m)
  | 0, _, _, h => h
  | k + 1, l, m, h => by
    have e : l + (k + 1) = (l + 1) + k := by omega
    rw [e] at h
    exact (te_pr_ok k (l + 1) m h).1
theorem te_pr_al {k l : Nat} {m : Int} (h : te_ok al (l + (k + 1)) m) : al (te_pr k m % 3) := by
  have e : l + (k + 1) = (l + 1) + k := by omega
  rw [e] at h
  exact (te_pr_ok k (l + 1) m h).2
theorem te_pr_rc : ∀ (k l : Nat) (m : Int), te_ok al (l + k) m → Gl (te_W nx s0 (l + k) m) → te_rc al nx Gl k (te_W nx s0 l (te_pr k m))
  | 0, _, _, _, g => g
  | k + 1, l, m, h, g => by
    have e : l + (k + 1) = (l + 1) + k := by omega
    have a := te_pr_al h
    rw [e] at h g
    exact ⟨te_pr k m % 3, ⟨by omega, by omega⟩, a, te_pr_rc k (l + 1) m h g⟩
theorem te_rc_w : ∀ (j l : Nat) (m : Int), te_ok al l m → te_rc al nx Gl j (te_W nx s0 l m) → ∃ m', te_ok al (l + j) m' ∧ Gl (te_W nx s0 (l + j) m')
  | 0, _, m, h, g => ⟨m, h, g⟩
  | j + 1, l, m, h, g => by
    obtain ⟨t, t01, a, r⟩ := g
    have e : l + (j + 1) = (l + 1) + j := by omega
    rw [e]
    refine te_rc_w j (l + 1) (3 * m + t) (te_ok_c h t01.1 t01.2 a) ?_
    rw [te_W_c t01.1 t01.2]
    exact r
/-- d tells how far each spot is -/
def te_DS (al : Int → Prop) (nx : Int → Int → Int) (s0 : Int) (d : Int → Int) : Prop := (∀ (l : Nat) (m : Int), l ≤ 800 → te_ok al l m → (0 ≤ te_W nx s0 l m ∧ te_W nx s0 l m < 800) ∧ 0 ≤ d (te_W nx s0 l m) ∧ d (te_W nx s0 l m) ≤ l) ∧ ∀ s, 0 ≤ s → s < 800 → d s ≠ -1 → (0 ≤ d s ∧ d s ≤ 800) ∧ ∃ m, te_ok al (d s).toNat m ∧ te_W nx s0 (d s).toNat m = s
theorem te_Q.ds {n : Int} {q d fr tu G : Int → Int} (h : te_Q 800 al nx s0 n 0 n q d fr tu G) : te_DS al nx s0 d := by
  refine ⟨fun l m l8 hm => ?_, fun s b0 b1 ds => ?_⟩
  · obtain ⟨j, ji, qj, gj⟩ := h.all l m (by omega) hm (fun c => absurd c (by omega))
    have jj := h.2.2.1 j ji.1 ji.2
    have le := te_ok_le jj.2.2.1 hm gj
    rw [qj] at jj le
    exact ⟨jj.1, jj.2.1.1, by omega⟩
  · obtain ⟨k, hk, qk⟩ := h.2.2.2.2.2.2.2.2 s b0 b1 ds
    have jj := h.2.2.1 k hk.1 hk.2
    rw [qk] at jj
    exact ⟨⟨jj.2.1.1, jj.2.1.2.1⟩, G k, jj.2.2.1, jj.2.2.2⟩
/-- the least of d where one will -/
def te_mn (d : Int → Int) (Gl : Int → Prop) (n : Int) : Prop := (n = -2 ∧ ∀ s, 0 ≤ s → s < 800 → Gl s → d s = -1) ∨ (0 ≤ n ∧ (∃ s, (0 ≤ s ∧ s < 800) ∧ Gl s ∧ d s = n) ∧ ∀ s, 0 ≤ s → s < 800 → Gl s → d s = -1 ∨ n ≤ d s)
theorem te_mn.none {d : Int → Int} {n : Int} (h : te_mn d Gl n) (D : te_DS al nx s0 d) (c : n = -2 ∨ 40 < n) (m0 : Int) : te_ST al nx s0 Gl (-2) m0 := by
  refine Or.inl ⟨rfl, fun l m l4 hm g => ?_⟩
  have w := D.1 l m (by omega) hm
  rcases h with h | h
  · have := h.2 _ w.1.1 w.1.2 g
    omega
  · have := h.2.2 _ w.1.1 w.1.2 g
    omega
theorem te_mn.le {d : Int → Int} {n : Int} (h : te_mn d Gl n) (D : te_DS al nx s0 d) {l : Nat} {m : Int} (l8 : l ≤ 800) (hm : te_ok al l m) (g : Gl (te_W nx s0 l m)) : n ≤ l := by
  have w := D.1 l m l8 hm
  rcases h with h | h
  · have := h.2 _ w.1.1 w.1.2 g
    omega
  · have := h.2.2 _ w.1.1 w.1.2 g
    omega
/-- on the way: one nearer each day -/
theorem te_rc_d {d : Int → Int} {n i s t : Int} (h : te_mn d Gl n) (D : te_DS al nx s0 d) (hn : ∀ p t, 0 ≤ p → p < 800 → 0 ≤ t → t ≤ 2 → 0 ≤ nx p t ∧ nx p t < 800) (n40 : n ≤ 40) (i0 : 0 ≤ i) (i1 : i < n) (b0 : 0 ≤ s) (b1 : s < 800) (ds : d s = i) (t0 : 0 ≤ t) (t2 : t ≤ 2) (a : al t) (r : te_rc al nx Gl (n - i - 1).toNat (nx s t)) : d (nx s t) = i + 1 := by
  obtain ⟨_, m, hm, hw⟩ := D.2 s b0 b1 (by omega)
  rw [ds] at hm hw
  have w1 := te_ok_c hm t0 t2 a
  have e1 : te_W nx s0 (i.toNat + 1) (3 * m + t) = nx s t := by rw [te_W_c t0 t2, hw]
  have d1 := D.1 _ _ (by omega) w1
  rw [e1] at d1
  obtain ⟨_, m2, hm2, hw2⟩ := D.2 (nx s t) d1.1.1 d1.1.2 (by omega)
  rw [← hw2] at r
  obtain ⟨m', o', g'⟩ := te_rc_w _ _ _ hm2 r
  have := h.le D (by omega) o' g'
  omega
end TEDIST
