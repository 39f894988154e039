/-! was: the calls -/
section TBWAS3
variable {X : tb_X} {A B : tb_H} {K : Int → tb_H → Prop} {Kv : tb_H → Prop}
theorem sp9 {P Q : Nat} (pq : td_pq P Q) (f : tb_fr [46, 47] [] [42] A B) (hk : ∀ B1, tb_fr [46, 47] [] [42] A B1 → B1.2.2 = B.2.2 → B1.1 P = B.1 P → (∀ k, 0 ≤ k → k < 100 → B1.1 Q k = 0) → Kv B1) : tb_Cv X 9 [tb_r Q, tb_i 0] B Kv := by
  have k := td_pqk pq
  refine q9 k.2.1 ?_
  have key : ∀ B1, tb_fr [46, 47] [] [42] A B1 → B1.2.2 = B.2.2 → B1.1 P = B.1 P → (∀ k, 0 ≤ k → k < 0 → B1.1 Q k = 0) → tb_E X 9 5 [tb_r Q, tb_i 0, tb_i 0, tb_i 100] [] B1 (tb_Rv 9 Kv) := by
    refine tb_lp (E := fun i => ∀ B1, tb_fr [46, 47] [] [42] A B1 → B1.2.2 = B.2.2 → B1.1 P = B.1 P → (∀ k, 0 ≤ k → k < i → B1.1 Q k = 0) → tb_E X 9 5 [tb_r Q, tb_i 0, tb_i i, tb_i 100] [] B1 (tb_Rv 9 Kv)) (n := 100) (by decide) ?_ ?_
    · intro B1 f1 e1 e2 e3
      exact q9_5 k.2.1 ⟨fun _ => hk B1 f1 e1 e2 e3, fun q => absurd q (by decide)⟩
    · intro i i0 i1 ih B1 f1 e1 e2 e3
      refine q9_5 k.2.1 ⟨fun q => absurd q (by omega), fun _ => ⟨⟨i0, by show i < (100 : Int); omega⟩, ?_⟩⟩
      rw [tb_w_id (x := i + 1) (by omega) (by omega)]
      refine ih _ (td_pqu (td_pqs pq) f1) e1 ?_ (fun j j0 j1 => ?_)
      · rw [← e2]
        funext j
        exact if_neg (fun z => k.2.2 z.1)
      · by_cases e : j = i
        · rw [e]; exact if_pos ⟨rfl, rfl⟩
        · rw [show (tb_upI B1 Q i 0).1 Q j = B1.1 Q j from if_neg (fun z => e z.2)]
          exact e3 j j0 (by omega)
  exact key B f rfl rfl (fun k a b => absurd b (by omega))
def td_f1 (A : tb_H) (d c : Int) : Prop := ∃ h, (0 ≤ h ∧ h < 8) ∧ td_FA A d (c % 10) (c / 10) h = true ∧ td_gp A d.toNat ((c % 10 * 10 + c / 10) * 8 + h)
theorem td_rc_f {r : Int → Int} {d c : Int} (h : td_rc A r d) (c0 : 0 ≤ c) (c1 : c < 100) : r c ≠ 0 ↔ td_f1 A d c := by
  have hc := h (c % 10) (c / 10) (by omega) (by omega) (by omega) (by omega)
  rw [show c / 10 * 10 + c % 10 = c by omega] at hc
  rw [td_nz hc.1.1 hc.1.2]
  unfold td_f1
  constructor
  · rintro ⟨g, g1, g2⟩
    exact ⟨g, g1, (hc.2 g g1.1 g1.2).mp g2⟩
  · rintro ⟨g, g1, g2⟩
    exact ⟨g, g1, (hc.2 g g1.1 g1.2).mpr g2⟩
theorem td_xc_c {f g : Int → Prop} {co : Int → Int} {s i r : Int} (h : td_xc f co s i r) (e : ∀ c, 0 ≤ c → c < i → (f c ↔ g c)) : td_xc g co s i r := by
  rcases h with ⟨a, h⟩ | ⟨⟨c, c0, c1, c2, c3⟩, h⟩
  · exact Or.inl ⟨a, fun c c0 c1 z => h c c0 c1 ((e c c0 c1).mpr z)⟩
  · exact Or.inr ⟨⟨c, c0, c1, (e c c0 c1).mp c2, c3⟩, fun c c0 c1 z => h c c0 c1 ((e c c0 c1).mpr z)⟩
theorem sp176 (hG : tb_RG A) (hok : ∀ d, 0 ≤ d → d ≤ td_LA A → td_ok A (A.1 45) d) (pq0 : td_pq (A.2.2 42 4) (A.2.2 42 5)) {dd s : Int} (dd0 : 0 ≤ dd) (dd1 : dd ≤ td_LA A) (s0 : 0 ≤ s)
    (hk : ∀ B r, tb_fr [46, 47] [] [42] A B → td_pq (B.2.2 42 4) (B.2.2 42 5) → td_xc (td_f1 A dd) (td_c1 s) s 100 r → K r B) : tb_Ci X 176 [tb_r 42, tb_i dd, tb_i s] A K := by
  have l := td_LAb hG
  refine q176 ?_
  have days : ∀ B P Q x4, td_pq P Q → tb_fr [46, 47] [] [42] A B → B.2.2 42 4 = P → B.2.2 42 5 = Q → td_rc A (B.1 P) 0 → tb_E X 176 31 [tb_r 42, tb_i dd, tb_i s, tb_i 0, x4] [] B (tb_Ri 176 K) := by
    refine tb_lp (E := fun d => ∀ B P Q x4, td_pq P Q → tb_fr [46, 47] [] [42] A B → B.2.2 42 4 = P → B.2.2 42 5 = Q → td_rc A (B.1 P) d → tb_E X 176 31 [tb_r 42, tb_i dd, tb_i s, tb_i d, x4] [] B (tb_Ri 176 K)) (n := dd) dd0 ?_ ?_
    · intro B P Q x4 pq f p4 p5 hr
      refine q176_31 ⟨fun _ => ?_, fun q => absurd q (by omega)⟩
      rw [p4]
      refine ⟨(td_pqk pq).1, sp160 (td_pqk pq).1 s0 (fun r hx => hk B r f (by rw [p4, p5]; exact pq) (td_xc_c hx (fun c c0 c1 => td_rc_f hr c0 c1)))⟩
    · intro d d0 d1 ih B P Q x4 pq f p4 p5 hr
      refine q176_31 ⟨fun q => absurd q (by omega), fun _ => ⟨fun q => absurd q (by omega), fun _ => ?_⟩⟩
      rw [p5]
      refine ⟨(td_pqk pq).2.1, ?_⟩
      refine sp9 pq f (fun B1 f1 e1 e2 e3 => ?_)
      have row : ∀ B2, td_ff A B2 P Q d (B.1 P) 0 0 → tb_E X 176 53 [tb_r 42, tb_i dd, tb_i s, tb_i d, tb_i 0] [] B2 (tb_Ri 176 K) := by
        refine tb_lp (E := fun i => ∀ B2, td_ff A B2 P Q d (B.1 P) i 0 → tb_E X 176 53 [tb_r 42, tb_i dd, tb_i s, tb_i d, tb_i i] [] B2 (tb_Ri 176 K)) (n := 100) (by decide) ?_ ?_
        · intro B2 h2
          refine q176_53 ?_
          rw [h2.2.1.1, h2.2.1.2]
          refine ⟨(td_pqk pq).1, fun _ => ⟨(td_pqk pq).2.1, ?_⟩, fun q => absurd q (by decide)⟩
          rw [tb_w_id (x := d + 1) (by omega) (by omega)]
          refine ih _ Q P _ (td_pqs pq) (tb_fr.upP (tb_fr.upP h2.1 rfl) rfl) rfl rfl ?_
          exact td_next d0 (by omega) hr h2.2.2.2
        · intro i i0 i1 ih2 B2 h2
          refine q176_53 ?_
          rw [h2.2.1.1, h2.2.1.2]
          refine ⟨(td_pqk pq).1, fun q => absurd q (by omega), fun _ => ⟨⟨i0, i1⟩, ?_⟩⟩
          rw [e172, h2.2.2.1, tb_w_id (x := d + 1) (by omega) (by omega), tb_w_id (x := i + 1) (by omega) (by omega)]
          exact l177 hok pq d0 (by omega) l.2 i0 i1 (fun B3 h3 => ih2 B3 h3) B2 h2
      refine row B1 ⟨f1, ⟨by rw [e1]; exact p4, by rw [e1]; exact p5⟩, e2, fun x y x0 x1 y0 y1 => ?_⟩
      rw [e3 (y * 10 + x) (by omega) (by omega)]
      refine ⟨by decide, fun h h0 h1 => ?_⟩
      rw [(td_255 h0 h1).2]
      refine ⟨fun q => absurd q (by decide), fun q => ?_⟩
      obtain ⟨k1, c, g, k2, k3⟩ := q
      unfold td_qc at k2
      omega
  obtain ⟨P, hP⟩ : ∃ P, P = A.2.2 42 4 := ⟨_, rfl⟩
  obtain ⟨Q, hQ⟩ : ∃ Q, Q = A.2.2 42 5 := ⟨_, rfl⟩
  rw [← hP, ← hQ] at pq0
  have key : ∀ B x4, tb_fr [46, 47] [] [42] A B → B.2.2 = A.2.2 → (∀ k, 0 ≤ k → k < 0 → B.1 P k = A.1 45 k) → tb_E X 176 2 [tb_r 42, tb_i dd, tb_i s, tb_i 0, x4] [] B (tb_Ri 176 K) := by
    refine tb_lp (E := fun i => ∀ B x4, tb_fr [46, 47] [] [42] A B → B.2.2 = A.2.2 → (∀ k, 0 ≤ k → k < i → B.1 P k = A.1 45 k) → tb_E X 176 2 [tb_r 42, tb_i dd, tb_i s, tb_i i, x4] [] B (tb_Ri 176 K)) (n := 100) (by decide) ?_ ?_
    · intro B x4 f e1 e2
      refine q176_2 ?_
      rw [e1, ← hP]
      refine ⟨(td_pqk pq0).1, fun _ => ?_, fun q => absurd q (by decide)⟩
      refine days B P Q _ pq0 f (by rw [e1, hP]) (by rw [e1, hQ]) (fun x y x0 x1 y0 y1 => ?_)
      have o := hok 0 (Int.le_refl _) l.1 x y x0 x1 y0 y1
      rw [e2 (y * 10 + x) (by omega) (by omega)]
      unfold td_at at o
      rw [show (0 : Int) * 100 + (y * 10 + x) = y * 10 + x by omega] at o
      refine ⟨o.1, fun h h0 h1 => ?_⟩
      rw [o.2 h h0 h1]
      constructor
      · intro q
        have hF : td_FA A 0 x y h = true := by
          cases e : td_FA A 0 x y h
          · rw [e] at q; exact absurd q (by decide)
          · rfl
        refine ⟨hF, ?_⟩
        show td_ss A 0 ((x * 10 + y) * 8 + h) = true
        unfold td_ss
        rw [show ((x * 10 + y) * 8 + h) / 80 = x by omega, show ((x * 10 + y) * 8 + h) / 8 % 10 = y by omega]
        by_cases e : (0 : Int) = td_LA A
        · rw [e, td_FA_L] at hF
          rw [e]; exact hF
        · rw [td_FA_s (by omega), Bool.and_eq_true] at hF
          exact hF.1
      · intro q
        rw [q.1]; rfl
    · intro i i0 i1 ih B x4 f e1 e2
      refine q176_2 ?_
      rw [e1, ← hP]
      refine ⟨(td_pqk pq0).1, fun q => absurd q (by omega), fun _ => ?_⟩
      rw [e170 (by decide) (by decide) i0 (by omega), tb_w_id (x := i + 1) (by omega) (by omega), show (0 : Int) * 100 + i = i by omega]
      refine ⟨⟨i0, by omega⟩, ih _ _ (td_pqu pq0 f) e1 (fun k k0 k1 => ?_)⟩
      by_cases e : k = i
      · rw [e, show (tb_upI B P i (B.1 45 i)).1 P i = B.1 45 i from if_pos ⟨rfl, rfl⟩]
        exact f.1 45 i rfl rfl
      · rw [show (tb_upI B P i (B.1 45 i)).1 P k = B.1 P k from if_neg (fun z => e z.2)]
        exact e2 k k0 (by omega)
  exact key A _ tb_fr.refl rfl (fun k a b => absurd b (by omega))
def td_f2 (A : tb_H) (d c : Int) : Prop := ∃ h, (0 ≤ h ∧ h < 8) ∧ td_fs A d (8 * c + h) = true ∧ td_gp A d.toNat (8 * c + h)
theorem l307 {d s : Int} {x4 : tb_V} (l20 : td_LA A ≤ 20) (hb : td_bk A (B.1 99)) (hr : ∀ d, 0 ≤ d → d ≤ td_LA A → td_gr A (B.1 100) d) (d0 : 0 ≤ d) (d1 : d ≤ td_LA A) (s0 : 0 ≤ s)
    (hk : ∀ C r, tb_fr [98] [] [] B C → td_xc (td_f2 A d) (td_c2 s) s 100 r → K r C) : tb_E X 307 66 [tb_r 77, tb_i d, tb_i s, tb_i 0, x4] [] B (tb_Ri 307 K) := by
  have key : ∀ C x4, tb_fr [98] [] [] B C → (∀ c, 0 ≤ c → c < 0 → (C.1 98 c ≠ 0 ↔ td_f2 A d c)) → tb_E X 307 66 [tb_r 77, tb_i d, tb_i s, tb_i 0, x4] [] C (tb_Ri 307 K) := by
    refine tb_lp (E := fun i => ∀ C x4, tb_fr [98] [] [] B C → (∀ c, 0 ≤ c → c < i → (C.1 98 c ≠ 0 ↔ td_f2 A d c)) → tb_E X 307 66 [tb_r 77, tb_i d, tb_i s, tb_i i, x4] [] C (tb_Ri 307 K)) (n := 100) (by decide) ?_ ?_
    · intro C x4 f hc
      refine q307_66 ⟨fun _ => sp300 s0 (fun r hx => hk C r f (td_xc_c hx hc)), fun q => absurd q (by decide)⟩
    · intro i i0 i1 ih C x4 f hc
      refine q307_66 ⟨fun q => absurd q (by omega), fun _ => ⟨⟨i0, i1⟩, ?_⟩⟩
      have row : ∀ D, tb_fr [98] [] [] B D → (∀ c, 0 ≤ c → c < i → (D.1 98 c ≠ 0 ↔ td_f2 A d c)) → (D.1 98 i ≠ 0 ↔ ∃ h, (0 ≤ h ∧ h < 0) ∧ td_fs A d (8 * i + h) = true ∧ td_gp A d.toNat (8 * i + h)) → tb_E X 307 82 [tb_r 77, tb_i d, tb_i s, tb_i i, tb_i 0] [] D (tb_Ri 307 K) := by
        refine tb_lp (E := fun j => ∀ D, tb_fr [98] [] [] B D → (∀ c, 0 ≤ c → c < i → (D.1 98 c ≠ 0 ↔ td_f2 A d c)) → (D.1 98 i ≠ 0 ↔ ∃ h, (0 ≤ h ∧ h < j) ∧ td_fs A d (8 * i + h) = true ∧ td_gp A d.toNat (8 * i + h)) → tb_E X 307 82 [tb_r 77, tb_i d, tb_i s, tb_i i, tb_i j] [] D (tb_Ri 307 K)) (n := 8) (by decide) ?_ ?_
        · intro D fD hD hi
          refine q307_82 ⟨fun _ => ?_, fun q => absurd q (by decide)⟩
          rw [tb_w_id (x := i + 1) (by omega) (by omega)]
          refine ih D _ fD (fun c c0 c1 => ?_)
          by_cases e : c = i
          · subst e; exact hi
          · exact hD c c0 (by omega)
        · intro j j0 j1 ihj D fD hD hi
          have go : ∀ w, (w ≠ 0 ↔ (∃ h, (0 ≤ h ∧ h < j) ∧ td_fs A d (8 * i + h) = true ∧ td_gp A d.toNat (8 * i + h)) ∨ (td_fs A d (8 * i + j) = true ∧ td_gp A d.toNat (8 * i + j))) → tb_E X 307 82 [tb_r 77, tb_i d, tb_i s, tb_i i, tb_i (j + 1)] [] (tb_upI D 98 i w) (tb_Ri 307 K) := by
            intro w hw
            refine ihj _ (tb_fr.upI fD rfl) (fun c c0 c1 => ?_) ?_
            · rw [show (tb_upI D 98 i w).1 98 c = D.1 98 c from if_neg (fun z => by omega)]
              exact hD c c0 c1
            · rw [show (tb_upI D 98 i w).1 98 i = w from if_pos ⟨rfl, rfl⟩, hw]
              constructor
              · rintro (⟨h, h1, h2⟩ | h)
                · exact ⟨h, ⟨h1.1, by omega⟩, h2⟩
                · exact ⟨j, ⟨j0, by omega⟩, h⟩
              · rintro ⟨h, h1, h2⟩
                by_cases e : h = j
                · subst e; exact Or.inr h2
                · exact Or.inl ⟨h, ⟨h1.1, by omega⟩, h2⟩
          have b := hb d d0 d1 (8 * i + j) (by omega) (by omega)
          have g := hr d d0 d1 (8 * i + j) (by omega) (by omega)
          have ix : tb_w (tb_w (tb_w (800 * d) + tb_w (8 * i)) + j) = 800 * d + (8 * i + j) := by
            rw [tb_w_id (x := 800 * d) (by omega) (by omega), tb_w_id (x := 8 * i) (by omega) (by omega), tb_w_id (x := 800 * d + 8 * i) (by omega) (by omega), tb_w_id (by omega) (by omega)]
            omega
          rw [← fD.1 99 _ rfl rfl] at b
          rw [← fD.1 100 _ rfl rfl] at g
          refine q307_82 ⟨fun q => absurd q (by omega), fun _ => ⟨⟨i0, i1⟩, fun n => ⟨⟨i0, i1⟩, ?_⟩, fun n => ?_⟩⟩
          · rw [tb_w_id (x := j + 1) (by omega) (by omega)]
            exact go 1 ⟨fun _ => Or.inl (hi.mp n), fun _ => by decide⟩
          · have no : ¬ ∃ h, (0 ≤ h ∧ h < j) ∧ td_fs A d (8 * i + h) = true ∧ td_gp A d.toNat (8 * i + h) := fun z => hi.mpr z n
            rw [ix, tb_w_id (x := j + 1) (by omega) (by omega), b]
            refine ⟨⟨by omega, by omega⟩, fun z => ⟨⟨i0, i1⟩, go 0 ⟨fun q => absurd rfl q, fun q => ?_⟩⟩, fun z => ⟨⟨by omega, by omega⟩, ⟨i0, i1⟩, go _ ?_⟩⟩
            · rcases q with q | q
              · exact absurd q no
              · rw [q.1] at z; exact absurd z (by decide)
            · have ft : td_fs A d (8 * i + j) = true := by
                cases e : td_fs A d (8 * i + j)
                · rw [e] at z; exact absurd rfl z
                · rfl
              constructor
              · intro q
                refine Or.inr ⟨ft, g.mp (fun y => ?_)⟩
                rw [if_pos y] at q
                exact q rfl
              · rintro (q | q)
                · exact absurd q no
                · rw [if_neg (g.mpr q.2)]; decide
      refine row _ (tb_fr.upI f rfl) (fun c c0 c1 => ?_) ?_
      · rw [show (tb_upI C 98 i 0).1 98 c = C.1 98 c from if_neg (fun z => by omega)]
        exact hc c c0 c1
      · rw [show (tb_upI C 98 i 0).1 98 i = 0 from if_pos ⟨rfl, rfl⟩]
        refine ⟨fun q => absurd rfl q, fun q => ?_⟩
        obtain ⟨h, h1, _⟩ := q
        omega
  exact key B _ tb_fr.refl (fun c a b => absurd b (by omega))
/-- the reference's was, from a told state -/
theorem r307 (hG : tb_RG A) (t : A.1 77 14 ≠ 0) {d s : Int} (hs : 0 ≤ s ∧ s ≤ 3) (hd : 0 ≤ d ∧ d ≤ 20)
    (k6 : td_ls (A.1 87) (-1) (A.1 77 27).toNat < d → K (-1) (tb_upI (tb_upI (tb_upI A 77 0 0) 77 11 0) 77 11 6))
    (k7 : d ≤ td_ls (A.1 87) (-1) (A.1 77 27).toNat → tb_sum (td_cc A 0) 100 = 0 → ∀ C, tb_fr [98, 99, 100] [(77, 0), (77, 11), (77, 28), (77, 29), (77, 30)] [] A C → K (-1) (tb_upI C 77 11 6))
    (k8 : d ≤ td_ls (A.1 87) (-1) (A.1 77 27).toNat → tb_sum (td_cc A 0) 100 ≠ 0 → ∀ C r, tb_fr [98, 99, 100] [(77, 0), (77, 11), (77, 28), (77, 29), (77, 30)] [] A C → C.1 77 11 = 0 → td_xc (td_f2 A d) (td_c2 s) s 100 r → K r C) : tb_Ci X 307 [tb_r 77, tb_i d, tb_i s] A K := by
  have l := td_LAb hG
  have f1 : tb_fr [] [(77, 0), (77, 11)] [] A (tb_upI (tb_upI A 77 0 0) 77 11 0) := tb_fr.upI (tb_fr.upI tb_fr.refl rfl) rfl
  have cg : td_FA (tb_upI (tb_upI A 77 0 0) 77 11 0) = td_FA A ∧ td_sA (tb_upI (tb_upI A 77 0 0) 77 11 0) = td_sA A ∧ td_LA (tb_upI (tb_upI A 77 0 0) 77 11 0) = td_LA A ∧ td_cc (tb_upI (tb_upI A 77 0 0) 77 11 0) = td_cc A := ⟨rfl, rfl, rfl, rfl⟩
  refine q307 ?_
  rw [e201]
  refine ⟨fun q => absurd q t, fun _ => ?_⟩
  rw [e202t hs]
  refine ⟨fun _ => ?_, fun q => absurd q (by decide)⟩
  rw [e202t hd]
  refine ⟨fun _ => ?_, fun q => absurd q (by decide)⟩
  rw [e305 (hG.fr f1 rfl)]
  refine ⟨fun q => ?_, fun q => ?_⟩
  · rw [e203]
    exact k6 q
  · have q : d ≤ td_ls (A.1 87) (-1) (A.1 77 27).toNat := q
    have lb := td_ls_b (r := A.1 87) (A.1 77 27).toNat (fun i a b => (hG.2.2 i a (by have := hG.2.1; omega)).2.1)
    have q' : d ≤ td_LA A := by
      unfold td_LA
      rw [lb.2.1]
      unfold tb_mx2
      split <;> omega
    refine sp303 (hG.fr f1 rfl) (fun C fC hb hr => ?_)
    rw [cg.2.2.2]
    have f2 : tb_fr [98, 99, 100] [(77, 0), (77, 11), (77, 28), (77, 29), (77, 30)] [] A C := (f1.mono rfl rfl rfl).trans (fC.mono rfl rfl rfl)
    have z11 : C.1 77 11 = 0 := fC.1 77 11 rfl rfl
    refine ⟨fun n => ?_, fun n => ?_⟩
    · refine l307 (A := tb_upI (tb_upI A 77 0 0) 77 11 0) l.2 hb hr hd.1 q' hs.1 (fun D r fD hx => ?_)
      refine k8 q n D r (f2.trans (fD.mono rfl rfl rfl)) ((fD.1 77 11 rfl rfl).trans z11) (td_xc_c hx (fun c c0 c1 => ?_))
      have gp : ∀ n s, td_gp (tb_upI (tb_upI A 77 0 0) 77 11 0) n s ↔ td_gp A n s := by
        intro n
        induction n with
        | zero => intro s; exact Iff.rfl
        | succ n ih =>
          intro s
          show (td_ss A (n + 1) s = true ∧ ∃ s' t, (0 ≤ s' ∧ s' < 800) ∧ (0 ≤ t ∧ t ≤ 2) ∧ td_gp (tb_upI (tb_upI A 77 0 0) 77 11 0) n s' ∧ td_af s' t = s) ↔ (td_ss A (n + 1) s = true ∧ ∃ s' t, (0 ≤ s' ∧ s' < 800) ∧ (0 ≤ t ∧ t ≤ 2) ∧ td_gp A n s' ∧ td_af s' t = s)
          simp only [ih]
      unfold td_f2
      simp only [gp]
      exact Iff.rfl
    · rw [e203]
      exact k7 q n C f2
theorem td_gp_cg (e : td_sA B = td_sA A) : ∀ n s, td_gp B n s ↔ td_gp A n s := by
  intro n
  induction n with
  | zero =>
    intro s
    show td_ss B 0 s = true ↔ td_ss A 0 s = true
    unfold td_ss
    rw [e]
  | succ n ih =>
    intro s
    show (td_ss B (n + 1) s = true ∧ ∃ s' t, (0 ≤ s' ∧ s' < 800) ∧ (0 ≤ t ∧ t ≤ 2) ∧ td_gp B n s' ∧ td_af s' t = s) ↔ (td_ss A (n + 1) s = true ∧ ∃ s' t, (0 ≤ s' ∧ s' < 800) ∧ (0 ≤ t ∧ t ≤ 2) ∧ td_gp A n s' ∧ td_af s' t = s)
    unfold td_ss
    rw [e]
    simp only [ih]
theorem c175 (h : tb_Rel A) {d s : Int} : tb_Ci X 175 [tb_r 0, tb_i d, tb_i s] A (tb_A2 X 307 [tb_r 77, tb_i d, tb_i s]) := by
  have hG := h.2.2.2.2.2.2.2.1
  rcases h.t01 with t | t
  · refine q175 ⟨fun _ => r6n (by decide) ?_, fun q => absurd (h.told.trans t) q⟩
    refine q307 ?_
    rw [e201g]
    exact ⟨fun _ => tb_no h (by decide), fun q => absurd (tb_g14.trans t) q⟩
  · have t0 : A.1 77 14 ≠ 0 := by rw [t]; decide
    refine q175 ⟨fun q => absurd (h.told.symm.trans q) t0, fun _ => ?_⟩
    by_cases hs : 0 ≤ s ∧ s ≤ 3
    · rw [e5f hs]
      refine ⟨fun _ => ?_, fun q => absurd rfl q⟩
      by_cases hd : 0 ≤ d ∧ d ≤ 20
      · rw [e5f hd, if_pos rfl]
        refine r6z ?_
        rw [e164]
        have f0 : tb_fr [] [(0, 13)] [] A (tb_upI A 0 13 0) := tb_fr.upI tb_fr.refl rfl
        have hG0 : tb_RG (tb_upI A 0 13 0) := hG.fr f0 rfl
        have lb := td_ls_b (r := A.1 87) (A.1 77 27).toNat (fun i a b => (hG.2.2 i a (by have := hG.2.1; omega)).2.1)
        have n42 : (tb_upI A 0 13 0).1 42 2 = A.1 77 27 := hG.1
        have l := td_LAb hG
        have ref6 : td_ls (A.1 87) (-1) (A.1 77 27).toNat < d → tb_A2 X 307 [tb_r 77, tb_i d, tb_i s] (-1) (tb_upI A 0 13 6) := by
          intro q
          have f6 : tb_fr [] [(0, 13)] [] A (tb_upI A 0 13 6) := tb_fr.upI tb_fr.refl rfl
          refine r307 (hG.fr f6 rfl) t0 hs hd (fun _ => ⟨rfl, h.gk (by decide)⟩) (fun q' => ?_) (fun q' => ?_)
          · have q' : d ≤ td_ls (A.1 87) (-1) (A.1 77 27).toNat := q'
            omega
          · have q' : d ≤ td_ls (A.1 87) (-1) (A.1 77 27).toNat := q'
            omega
        rw [n42]
        refine ⟨fun q => r6n (by decide) ?_, fun q => ?_⟩
        · rw [tb_uu]
          refine ref6 ?_
          rw [q]
          show (-1 : Int) < d
          omega
        · rw [e167 hG0]
          have hl := lb.2.2 (by have := hG.2.1; omega)
          have el : td_ls ((tb_upI A 0 13 0).1 87) 0 ((tb_upI A 0 13 0).1 77 27).toNat = td_ls (A.1 87) (-1) (A.1 77 27).toNat := by
            show td_ls (A.1 87) 0 (A.1 77 27).toNat = _
            rw [lb.2.1]
            unfold tb_mx2
            split <;> omega
          have eL : td_LA A = td_ls (A.1 87) (-1) (A.1 77 27).toNat := el
          rw [el]
          refine ⟨fun q2 => r6n (by decide) ?_, fun q2 => ?_⟩
          · rw [tb_uu]
            exact ref6 q2
          · refine sp166 hG0 (fun B fB hB => ?_)
            have p0 := h.P
            unfold tb_RP at p0
            have fAB : tb_fr [45] [(0, 13)] [] A B := (f0.mono rfl rfl rfl).trans (fB.mono rfl rfl rfl)
            have cc0 : td_cc (tb_upI A 0 13 0) = td_cc A := rfl
            rw [cc0]
            by_cases cn : tb_sum (td_cc A 0) 100 = 0
            · rw [if_neg (show ¬ (tb_sum (td_cc A 0) 100 ≠ 0) from fun z => z cn), if_neg (by decide)]
              refine r6n (by decide) ?_
              have f6 : tb_fr [45] [(0, 13)] [] A (tb_upI B 0 13 6) := tb_fr.upI fAB rfl
              have cg := td_FA_cg (A := A) (B := tb_upI B 0 13 6) (funext fun k => f6.1 87 k rfl rfl) (funext fun k => f6.1 88 k rfl rfl) (funext fun k => f6.1 89 k rfl rfl) (f6.1 77 27 rfl rfl)
              have e87' : td_ls ((tb_upI B 0 13 6).1 87) (-1) ((tb_upI B 0 13 6).1 77 27).toNat = td_ls (A.1 87) (-1) (A.1 77 27).toNat := by
                rw [show (tb_upI B 0 13 6).1 87 = A.1 87 from funext fun k => f6.1 87 k rfl rfl, show (tb_upI B 0 13 6).1 77 27 = A.1 77 27 from f6.1 77 27 rfl rfl]
              refine r307 (hG.fr f6 rfl) (by rw [f6.1 77 14 rfl rfl]; exact t0) hs hd (fun z => ?_) (fun _ _ C fC => ⟨rfl, ?_⟩) (fun _ z => ?_)
              · rw [e87'] at z
                omega
              · have f2 : tb_fr [45, 98, 99, 100] [(0, 13), (77, 0), (77, 11), (77, 28), (77, 29), (77, 30)] [] A (tb_upI C 77 11 6) := tb_fr.upI ((f6.mono rfl rfl rfl).trans (fC.mono rfl rfl rfl)) rfl
                have z13 : (tb_upI C 77 11 6).1 0 13 = 6 := (fC.1 0 13 rfl rfl)
                have z11 : (tb_upI C 77 11 6).1 77 11 = 6 := rfl
                refine h.qy (f2.mono rfl rfl rfl) (by rw [z13, z11]) (by rw [z11]; decide) ?_
                unfold tb_RP
                rw [show (tb_upI C 77 11 6).2.2 38 = A.2.2 38 from funext fun k => f2.2.2 38 k rfl, show (tb_upI C 77 11 6).2.2 42 = A.2.2 42 from funext fun k => f2.2.2 42 k rfl]
                exact p0
              · rw [cg.2.2.2] at z
                exact absurd cn z
            · rw [if_pos (show tb_sum (td_cc A 0) 100 ≠ 0 from cn), if_pos rfl]
              refine r6z ?_
              have f6 : tb_fr [45] [(0, 13)] [] A (tb_upI B 0 13 0) := tb_fr.upI fAB rfl
              have cg := td_FA_cg (A := A) (B := tb_upI B 0 13 0) (funext fun k => f6.1 87 k rfl rfl) (funext fun k => f6.1 88 k rfl rfl) (funext fun k => f6.1 89 k rfl rfl) (f6.1 77 27 rfl rfl)
              have p1 : (tb_upI B 0 13 0).2.2 42 = A.2.2 42 := funext fun k => f6.2.2 42 k rfl
              refine sp176 (hG.fr f6 rfl) (fun d' a b => ?_) (by rw [p1]; exact p0.2) hd.1 (by rw [cg.2.1, eL]; exact q2) hs.1 (fun D r fD pD hx => ?_)
              · have o := hB d' a (by rw [cg.2.1] at b; exact b)
                unfold td_ok at o ⊢
                rw [cg.2.2.1]
                exact o
              · have f7 : tb_fr [45, 46, 47] [(0, 13)] [42] A D := (f6.mono rfl rfl rfl).trans (fD.mono rfl rfl rfl)
                have cgD := td_FA_cg (A := A) (B := D) (funext fun k => f7.1 87 k rfl rfl) (funext fun k => f7.1 88 k rfl rfl) (funext fun k => f7.1 89 k rfl rfl) (f7.1 77 27 rfl rfl)
                have e87' : td_ls (D.1 87) (-1) (D.1 77 27).toNat = td_ls (A.1 87) (-1) (A.1 77 27).toNat := by
                  rw [show D.1 87 = A.1 87 from funext fun k => f7.1 87 k rfl rfl, show D.1 77 27 = A.1 77 27 from f7.1 77 27 rfl rfl]
                refine r307 (hG.fr f7 rfl) (by rw [f7.1 77 14 rfl rfl]; exact t0) hs hd (fun z => ?_) (fun _ z => ?_) (fun _ _ C r2 fC z11 hx2 => ⟨?_, ?_⟩)
                · rw [e87'] at z
                  omega
                · rw [cgD.2.2.2] at z
                  exact absurd z cn
                · refine td_xc_u hx hx2 (fun c c0 c1 => ?_) (fun c c0 c1 => ?_)
                  · unfold td_f1 td_f2 td_fs
                    rw [cg.2.2.1, cgD.2.2.1]
                    simp only [td_gp_cg cg.1, td_gp_cg cgD.1]
                    have g : ∀ h, 0 ≤ h → h < 8 → (8 * (c % 10 * 10 + c / 10) + h) / 80 = c % 10 ∧ (8 * (c % 10 * 10 + c / 10) + h) / 8 % 10 = c / 10 ∧ (8 * (c % 10 * 10 + c / 10) + h) % 8 = h ∧ 8 * (c % 10 * 10 + c / 10) + h = (c % 10 * 10 + c / 10) * 8 + h := fun h a b => ⟨by omega, by omega, by omega, by omega⟩
                    constructor
                    · rintro ⟨h, h1, h2⟩
                      have gg := g h h1.1 h1.2
                      refine ⟨h, h1, ?_⟩
                      rw [gg.1, gg.2.1, gg.2.2.1, gg.2.2.2]
                      exact h2
                    · rintro ⟨h, h1, h2⟩
                      have gg := g h h1.1 h1.2
                      refine ⟨h, h1, ?_⟩
                      rw [gg.1, gg.2.1, gg.2.2.1, gg.2.2.2] at h2
                      exact h2
                  · unfold td_c1 td_c2
                    split <;> omega
                · have f2 : tb_fr [45, 46, 47, 98, 99, 100] [(0, 13), (77, 0), (77, 11), (77, 28), (77, 29), (77, 30)] [42] A C := (f7.mono rfl rfl rfl).trans (fC.mono rfl rfl rfl)
                  have z13 : C.1 0 13 = 0 := (fC.1 0 13 rfl rfl).trans (fD.1 0 13 rfl rfl)
                  refine h.qy (f2.mono rfl rfl rfl) (by rw [z13, z11]) (by rw [z11]; decide) ?_
                  unfold tb_RP
                  rw [show C.2.2 38 = A.2.2 38 from funext fun k => f2.2.2 38 k rfl, show C.2.2 42 = D.2.2 42 from funext fun k => fC.2.2 42 k rfl]
                  exact ⟨p0.1, pD⟩
      · rw [e5t hd, if_neg (by decide)]
        refine r6n (by decide) ?_
        refine q307 ?_
        rw [e201g]
        refine ⟨fun q => absurd (tb_g14.symm.trans q) t0, fun _ => ?_⟩
        rw [e202t hs]
        refine ⟨fun _ => ?_, fun q => absurd q (by decide)⟩
        rw [e202f hd]
        exact ⟨fun q => absurd rfl q, fun _ => tb_no h (by decide)⟩
    · rw [e5t hs]
      refine ⟨fun q => absurd q (by decide), fun _ => r6n (by decide) ?_⟩
      refine q307 ?_
      rw [e201g]
      refine ⟨fun q => absurd (tb_g14.symm.trans q) t0, fun _ => ?_⟩
      rw [e202f hs]
      exact ⟨fun q => absurd rfl q, fun _ => tb_no h (by decide)⟩
end TBWAS3
