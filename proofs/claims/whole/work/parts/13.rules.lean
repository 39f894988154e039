/-! RULES: a method is walked backwards from what is wanted, an instruction a rule -/
section TBRULES
variable {X : tb_X} {y pc : Nat} {lv st : List tb_V} {A : tb_H} {Q : tb_Q} {a b nx : Nat} {z : Int} {l : List Nat}
abbrev tb_E (X : tb_X) (y pc : Nat) (lv st : List tb_V) (A : tb_H) (Q : tb_Q) : Prop := tb_Ev tb_P X y pc lv st A Q
theorem tb_rs {o : tb_O} {pc' : Nat} {lv' st' : List tb_V} {A' : tb_H} (h : tb_at y pc = some o) (h1 : tb_isst o.1 = false) (h2 : (o.1 == 40 || o.1 == 41) = false) (hs : tb_step tb_P X o lv st A = some (pc', lv', st', A')) (k : tb_E X y pc' lv' st' A' Q) : tb_E X y pc lv st A Q := tb_ev_step (P := tb_P) h h1 (by rw [Bool.or_eq_false_iff, beq_eq_false_iff_ne, beq_eq_false_iff_ne] at h2; exact fun q => q.elim h2.1 h2.2) hs k
theorem tb_r1 (h : tb_at y pc = some (1, a, b, z, l, nx)) (k : tb_E X y nx lv (tb_i z :: st) A Q) : tb_E X y pc lv st A Q := tb_rs h rfl rfl tb_e1 k
theorem tb_r2 (h : tb_at y pc = some (2, a, b, z, l, nx)) (k : tb_E X y nx lv (tb_j z :: st) A Q) : tb_E X y pc lv st A Q := tb_rs h rfl rfl tb_e2 k
theorem tb_r3 {v : tb_V} (h : tb_at y pc = some (3, a, b, z, l, nx)) (hv : lv[a]? = some v) (hk : tb_isk b v = true) (k : tb_E X y nx lv (v :: st) A Q) : tb_E X y pc lv st A Q := tb_rs h rfl rfl (by rw [tb_e3, hv]; dsimp only; rw [if_pos hk]) k
theorem tb_r4 {v : tb_V} {lv' : List tb_V} (h : tb_at y pc = some (4, a, b, z, l, nx)) (hk : tb_isk b v = true) (hs : tb_set lv a v = some lv') (k : tb_E X y nx lv' st A Q) : tb_E X y pc lv (v :: st) A Q := tb_rs h rfl rfl (by rw [tb_e4]; dsimp only; rw [if_pos hk, hs]) k
theorem tb_r5 {x v : Int} {lv' : List tb_V} (h : tb_at y pc = some (5, a, b, z, l, nx)) (hv : lv[a]? = some (tb_i x)) (he : tb_w (x + z) = v) (hs : tb_set lv a (tb_i v) = some lv') (k : tb_E X y nx lv' st A Q) : tb_E X y pc lv st A Q := tb_rs h rfl rfl (by rw [tb_e5, hv]; dsimp only; rw [he, hs]) k
theorem tb_r6 {x y' r : Int} (h : tb_at y pc = some (6, a, b, z, l, nx)) (hr : tb_bin a x y' = some r) (k : tb_E X y nx lv (tb_i r :: st) A Q) : tb_E X y pc lv (tb_i y' :: tb_i x :: st) A Q := tb_rs h rfl rfl (by rw [tb_e6]; dsimp only; rw [hr]) k
theorem tb_rdiv {x y' : Int} (h : tb_at y pc = some (6, 9, b, z, l, nx)) (hy : y' ≠ 0) (k : tb_E X y nx lv (tb_i (tb_w (x.tdiv y')) :: st) A Q) : tb_E X y pc lv (tb_i y' :: tb_i x :: st) A Q := tb_r6 h (by unfold tb_bin; exact if_neg hy) k
theorem tb_rrem {x y' : Int} (h : tb_at y pc = some (6, 10, b, z, l, nx)) (hy : y' ≠ 0) (k : tb_E X y nx lv (tb_i (x.tmod y') :: st) A Q) : tb_E X y pc lv (tb_i y' :: tb_i x :: st) A Q := tb_r6 h (by unfold tb_bin; exact if_neg hy) k
theorem tb_r7 {v r : tb_V} (h : tb_at y pc = some (7, a, b, z, l, nx)) (hr : tb_un a v = some r) (k : tb_E X y nx lv (r :: st) A Q) : tb_E X y pc lv (v :: st) A Q := tb_rs h rfl rfl (by rw [tb_e7]; dsimp only; rw [hr]) k
theorem tb_r8 {x y' r : Int} (h : tb_at y pc = some (8, a, b, z, l, nx)) (hr : tb_lbin a x y' = some r) (k : tb_E X y nx lv (tb_j r :: st) A Q) : tb_E X y pc lv (tb_j y' :: tb_j x :: st) A Q := tb_rs h rfl rfl (by rw [tb_e8]; dsimp only; rw [hr]) k
theorem tb_r9 {x y' : Int} (h : tb_at y pc = some (9, a, b, z, l, nx)) (k : tb_E X y nx lv (tb_i (tb_lcmp x y') :: st) A Q) : tb_E X y pc lv (tb_j y' :: tb_j x :: st) A Q := tb_rs h rfl rfl tb_e9 k
theorem tb_r10 {v : tb_V} (h : tb_at y pc = some (10, a, b, z, l, nx)) (hc : tb_cat v = 1) (k : tb_E X y nx lv (v :: v :: st) A Q) : tb_E X y pc lv (v :: st) A Q := tb_rs h rfl rfl (by rw [tb_e10]; dsimp only; rw [if_pos hc]) k
theorem tb_r11 {v w : tb_V} (h : tb_at y pc = some (11, a, b, z, l, nx)) (hc : tb_cat v = 1) (hd : tb_cat w = 1) (k : tb_E X y nx lv (v :: w :: v :: w :: st) A Q) : tb_E X y pc lv (v :: w :: st) A Q := tb_rs h rfl rfl (by rw [tb_e11]; dsimp only; rw [if_pos ⟨hc, hd⟩]) k
theorem tb_r12 {v : tb_V} (h : tb_at y pc = some (12, a, b, z, l, nx)) (hc : tb_cat v = 1) (k : tb_E X y nx lv st A Q) : tb_E X y pc lv (v :: st) A Q := tb_rs h rfl rfl (by rw [tb_e12]; dsimp only; rw [if_pos hc]) k
theorem tb_r13 (h : tb_at y pc = some (13, a, b, z, l, nx)) (k : tb_E X y a lv st A Q) : tb_E X y pc lv st A Q := tb_rs h rfl rfl tb_e13 k
theorem tb_r14 {x : Int} (h : tb_at y pc = some (14, a, b, z, l, nx)) (k1 : tb_cmp b x 0 = true → tb_E X y a lv st A Q) (k2 : tb_cmp b x 0 = false → tb_E X y nx lv st A Q) : tb_E X y pc lv (tb_i x :: st) A Q := by
  cases hc : tb_cmp b x 0 with
  | true => exact tb_rs h rfl rfl (by rw [tb_e14]; dsimp only; rw [hc, if_pos rfl]) (k1 hc)
  | false => exact tb_rs h rfl rfl (by rw [tb_e14]; dsimp only; rw [hc, if_neg (by decide)]) (k2 hc)
theorem tb_r15 {x y' : Int} (h : tb_at y pc = some (15, a, b, z, l, nx)) (k1 : tb_cmp b x y' = true → tb_E X y a lv st A Q) (k2 : tb_cmp b x y' = false → tb_E X y nx lv st A Q) : tb_E X y pc lv (tb_i y' :: tb_i x :: st) A Q := by
  cases hc : tb_cmp b x y' with
  | true => exact tb_rs h rfl rfl (by rw [tb_e15]; dsimp only; rw [hc, if_pos rfl]) (k1 hc)
  | false => exact tb_rs h rfl rfl (by rw [tb_e15]; dsimp only; rw [hc, if_neg (by decide)]) (k2 hc)
theorem tb_q0 {x y' : Int} : tb_cmp 0 x y' = true → x = y' := by simp [tb_cmp]
theorem tb_q0f {x y' : Int} : tb_cmp 0 x y' = false → x ≠ y' := by simp [tb_cmp]
theorem tb_q1 {x y' : Int} : tb_cmp 1 x y' = true → x ≠ y' := by simp [tb_cmp]
theorem tb_q1f {x y' : Int} : tb_cmp 1 x y' = false → x = y' := by simp [tb_cmp]
theorem tb_q2 {x y' : Int} : tb_cmp 2 x y' = true → x < y' := by simp [tb_cmp]
theorem tb_q2f {x y' : Int} : tb_cmp 2 x y' = false → y' ≤ x := by simp [tb_cmp]
theorem tb_q3 {x y' : Int} : tb_cmp 3 x y' = true → y' ≤ x := by simp [tb_cmp]
theorem tb_q3f {x y' : Int} : tb_cmp 3 x y' = false → x < y' := by simp [tb_cmp]
theorem tb_q4 {x y' : Int} : tb_cmp 4 x y' = true → y' < x := by simp [tb_cmp]
theorem tb_q4f {x y' : Int} : tb_cmp 4 x y' = false → x ≤ y' := by simp [tb_cmp]
theorem tb_q5 {x y' : Int} : tb_cmp 5 x y' = true → x ≤ y' := by simp [tb_cmp]
theorem tb_q5f {x y' : Int} : tb_cmp 5 x y' = false → y' < x := by simp [tb_cmp]
theorem tb_r16 {q t : Nat} (h : tb_at y pc = some (16, a, b, z, l, nx)) (ht : (if b = 1 then a else nx) = t) (k : tb_E X y t lv st A Q) : tb_E X y pc lv (tb_r q :: st) A Q := tb_rs h rfl rfl (by rw [tb_e16, ← ht]) k
theorem tb_r16n {t : Nat} (h : tb_at y pc = some (16, a, b, z, l, nx)) (ht : (if b = 1 then nx else a) = t) (k : tb_E X y t lv st A Q) : tb_E X y pc lv (tb_s 0 :: st) A Q := tb_rs h rfl rfl (by rw [tb_e16, ← ht]; rfl) k
theorem tb_r17 {x c : Int} {t : Nat} (h : tb_at y pc = some (17, a, b, z, l, nx)) (hx : x = c) (ht : (if c < z ∨ z + l.length ≤ c then a else l.getD (c - z).toNat 0) = t) (k : tb_E X y t lv st A Q) : tb_E X y pc lv (tb_i x :: st) A Q := tb_rs h rfl rfl (by rw [tb_e17, hx]; dsimp only; rw [ht]) k
theorem tb_r17d {x : Int} (h : tb_at y pc = some (17, a, b, z, l, nx)) (hx : x < z ∨ z + l.length ≤ x) (k : tb_E X y a lv st A Q) : tb_E X y pc lv (tb_i x :: st) A Q := tb_rs h rfl rfl (by rw [tb_e17]; dsimp only; rw [if_pos hx]) k
theorem tb_r18 {q : Nat} {v : tb_V} (h : tb_at y pc = some (18, a, b, z, l, nx)) (hv : tb_getf tb_kd A q a b = some v) (k : tb_E X y nx lv (v :: st) A Q) : tb_E X y pc lv (tb_r q :: st) A Q := tb_rs h rfl rfl (by rw [tb_e18]; show (match tb_getf tb_kd A q a b with | some v => some (nx, lv, v :: st, A) | none => none) = _; rw [hv]) k
theorem tb_r19 {q : Nat} {v : tb_V} {A' : tb_H} (h : tb_at y pc = some (19, a, b, z, l, nx)) (hv : tb_putf tb_kd A q a b v = some A') (k : tb_E X y nx lv st A' Q) : tb_E X y pc lv (v :: tb_r q :: st) A Q := tb_rs h rfl rfl (by rw [tb_e19]; show (match tb_putf tb_kd A q a b v with | some A' => some (nx, lv, st, A') | none => none) = _; rw [hv]) k
theorem tb_r20 {v : tb_V} (h : tb_at y pc = some (20, a, b, z, l, nx)) (hv : (if b = 0 then tb_r a else if b = 1 then tb_i z else tb_s 2) = v) (k : tb_E X y nx lv (v :: st) A Q) : tb_E X y pc lv st A Q := tb_rs h rfl rfl (by rw [tb_e20, hv]) k
theorem tb_r21 (h : tb_at y pc = some (21, a, b, z, l, nx)) (k : tb_E X y nx lv (tb_r a :: st) A Q) : tb_E X y pc lv st A Q := tb_rs h rfl rfl tb_e21 k
theorem tb_r22 {q n : Nat} (h : tb_at y pc = some (22, a, b, z, l, nx)) (hv : tb_len tb_kd X q = some n) (k : tb_E X y nx lv (tb_i n :: st) A Q) : tb_E X y pc lv (tb_r q :: st) A Q := tb_rs h rfl rfl (by rw [tb_e22]; show (match tb_len tb_kd X q with | some n => some (nx, lv, tb_i n :: st, A) | none => none) = _; rw [hv]) k
theorem tb_r23 {q : Nat} {i : Int} {v : tb_V} (h : tb_at y pc = some (23, a, b, z, l, nx)) (hv : tb_ald tb_kd tb_cI X A a q i = some v) (k : tb_E X y nx lv (v :: st) A Q) : tb_E X y pc lv (tb_i i :: tb_r q :: st) A Q := tb_rs h rfl rfl (by rw [tb_e23]; show (match tb_ald tb_kd tb_cI X A a q i with | some v => some (nx, lv, v :: st, A) | none => none) = _; rw [hv]) k
theorem tb_r24 {q : Nat} {i : Int} {v : tb_V} {A' : tb_H} (h : tb_at y pc = some (24, a, b, z, l, nx)) (hv : tb_ast tb_kd A a q i v = some A') (k : tb_E X y nx lv st A' Q) : tb_E X y pc lv (v :: tb_i i :: tb_r q :: st) A Q := tb_rs h rfl rfl (by rw [tb_e24]; show (match tb_ast tb_kd A a q i v with | some A' => some (nx, lv, st, A') | none => none) = _; rw [hv]) k
theorem tb_r25 {q : Nat} {i : Int} {v : tb_V} (h : tb_at y pc = some (25, a, b, z, l, nx)) (hv : tb_aald tb_kd q i = some v) (k : tb_E X y nx lv (v :: st) A Q) : tb_E X y pc lv (tb_i i :: tb_r q :: st) A Q := tb_rs h rfl rfl (by rw [tb_e25]; show (match tb_aald tb_kd q i with | some v => some (nx, lv, v :: st, A) | none => none) = _; rw [hv]) k
theorem tb_r26 (h : tb_at y pc = some (26, a, b, z, l, nx)) (k : tb_E X y nx lv (tb_s 0 :: st) A Q) : tb_E X y pc lv st A Q := tb_rs h rfl rfl tb_e26 k
theorem tb_r42 {o q : Nat} {sp dp n : Int} {A' : tb_H} (h : tb_at y pc = some (42, a, b, z, l, nx)) (h8 : (st.map tb_cat).sum ≤ 8) (hv : tb_acpy tb_kd A o sp q dp n = some A') (k : tb_E X y nx lv st A' Q) : tb_E X y pc lv (tb_i n :: tb_i dp :: tb_r q :: tb_i sp :: tb_r o :: st) A Q := tb_rs h rfl rfl (by rw [tb_e42]; dsimp only; rw [if_pos h8]; show (match tb_acpy tb_kd A o sp q dp n with | some A' => some (nx, lv, st, A') | none => none) = _; rw [hv]) k
theorem tb_rmin {x y' : Int} (h : tb_at y pc = some (43, 0, b, z, l, nx)) (h8 : (st.map tb_cat).sum ≤ 8) (k : tb_E X y nx lv (tb_i (if y' < x then y' else x) :: st) A Q) : tb_E X y pc lv (tb_i y' :: tb_i x :: st) A Q := tb_rs h rfl rfl (by rw [tb_e43]; exact if_pos h8) k
theorem tb_rmax {x y' : Int} (h : tb_at y pc = some (43, 1, b, z, l, nx)) (h8 : (st.map tb_cat).sum ≤ 8) (k : tb_E X y nx lv (tb_i (if x < y' then y' else x) :: st) A Q) : tb_E X y pc lv (tb_i y' :: tb_i x :: st) A Q := tb_rs h rfl rfl (by rw [tb_e43]; exact if_pos h8) k
theorem tb_rabs {x : Int} (h : tb_at y pc = some (43, 2, b, z, l, nx)) (h8 : (st.map tb_cat).sum ≤ 8) (k : tb_E X y nx lv (tb_i (if 0 ≤ x then x else tb_w (0 - x)) :: st) A Q) : tb_E X y pc lv (tb_i x :: st) A Q := tb_rs h rfl rfl (by rw [tb_e43]; exact if_pos h8) k
/-- reading and writing with an index that is a name -/
theorem tb_ai {q n : Nat} {i : Int} (hk : tb_kd q = (1, n, [0])) (h : 0 ≤ i ∧ i < n) : tb_ald tb_kd tb_cI X A 0 q i = some (tb_i (A.1 q i)) := by unfold tb_ald; rw [hk]; exact (if_pos ⟨rfl, h.1, h.2⟩).trans rfl
theorem tb_az {q n : Nat} {i : Int} (hk : tb_kd q = (1, n, [1])) (h : 0 ≤ i ∧ i < n) : tb_ald tb_kd tb_cI X A 2 q i = some (tb_i (A.1 q i)) := by unfold tb_ald; rw [hk]; exact (if_pos ⟨rfl, h.1, h.2⟩).trans rfl
theorem tb_ab {q n : Nat} {i : Int} (hk : tb_kd q = (1, n, [2])) (h : 0 ≤ i ∧ i < n) : tb_ald tb_kd tb_cI X A 2 q i = some (tb_i (A.1 q i)) := by unfold tb_ald; rw [hk]; exact (if_pos ⟨rfl, h.1, h.2⟩).trans rfl
theorem tb_aj {q n : Nat} {i : Int} (hk : tb_kd q = (1, n, [3])) (h : 0 ≤ i ∧ i < n) : tb_ald tb_kd tb_cI X A 3 q i = some (tb_j (A.2.1 q i)) := by unfold tb_ald; rw [hk]; exact (if_pos ⟨rfl, h.1, h.2⟩).trans rfl
theorem tb_ac0 {q n : Nat} {i : Int} (hk : tb_kd q = (3, n, [0])) (h : 0 ≤ i ∧ i < n) : tb_ald tb_kd tb_cI X A 0 q i = some (tb_i (tb_cI q i)) := by unfold tb_ald; rw [hk]; exact (if_pos ⟨rfl, by decide, h.1, h.2⟩).trans rfl
theorem tb_ac2 {q n : Nat} {i : Int} (hk : tb_kd q = (3, n, [2])) (h : 0 ≤ i ∧ i < n) : tb_ald tb_kd tb_cI X A 2 q i = some (tb_i (tb_cI q i)) := by unfold tb_ald; rw [hk]; exact (if_pos ⟨rfl, by decide, h.1, h.2⟩).trans rfl
theorem tb_as {q c : Nat} {l0 : List Nat} {i : Int} (hk : tb_kd q = (5, c, l0)) (h : 0 ≤ i ∧ i < X.2) : tb_ald tb_kd tb_cI X A 0 q i = some (tb_i (X.1 i)) := by unfold tb_ald; rw [hk]; exact (if_pos ⟨rfl, h.1, h.2⟩).trans rfl
theorem tb_wi {q n : Nat} {i x : Int} (hk : tb_kd q = (1, n, [0])) (h : 0 ≤ i ∧ i < n) : tb_ast tb_kd A 0 q i (tb_i x) = some (tb_upI A q i x) := by unfold tb_ast; rw [hk]; exact (if_pos ⟨rfl, h.1, h.2⟩).trans rfl
theorem tb_wz {q n : Nat} {i x : Int} (hk : tb_kd q = (1, n, [1])) (h : 0 ≤ i ∧ i < n) (hx : x = 0 ∨ x = 1) : tb_ast tb_kd A 2 q i (tb_i x) = some (tb_upI A q i x) := by unfold tb_ast; rw [hk]; exact (if_pos ⟨rfl, h.1, h.2⟩).trans (if_pos hx)
theorem tb_wb {q n : Nat} {i x : Int} (hk : tb_kd q = (1, n, [2])) (h : 0 ≤ i ∧ i < n) : tb_ast tb_kd A 2 q i (tb_i x) = some (tb_upI A q i (tb_b8 x)) := by unfold tb_ast; rw [hk]; exact (if_pos ⟨rfl, h.1, h.2⟩).trans rfl
theorem tb_wj {q n : Nat} {i x : Int} (hk : tb_kd q = (1, n, [3])) (h : 0 ≤ i ∧ i < n) : tb_ast tb_kd A 3 q i (tb_j x) = some (tb_upL A q i x) := by unfold tb_ast; rw [hk]; exact (if_pos ⟨rfl, h.1, h.2⟩).trans rfl
theorem tb_im {i : Int} (h : 0 ≤ i ∧ i < 4) : tb_aald tb_kd 16 i = some (tb_r (53 + 6 * i.toNat)) := by
  obtain ⟨h0, h1⟩ := h
  have : i = 0 ∨ i = 1 ∨ i = 2 ∨ i = 3 := by omega
  rcases this with rfl | rfl | rfl | rfl <;> decide +kernel
/-- a return: K is what the caller wants -/
theorem tb_rr {o : tb_O} {K : List tb_V → tb_H → Prop} (h : tb_at y pc = some o) (ht : (o.1 == 30 || o.1 == 31 || o.1 == 32 || o.1 == 33) = true) (hs : tb_stop o st = true) (k : K st A) : tb_E X y pc lv st A (tb_R tb_P y K) := by
  obtain ⟨t, w⟩ := o
  refine tb_ev_stop (P := tb_P) h ?_ hs ⟨?_, k⟩
  · show tb_isst t = true
    have ht' : (t == 30 || t == 31 || t == 32 || t == 33) = true := ht
    unfold tb_isst
    rw [ht']
    rfl
  · unfold tb_isre
    have h' : tb_P.1 y pc = some (t, w) := h
    rw [h']
    exact ht
theorem tb_stz {x : Int} (hx : x = 0 ∨ x = 1) : tb_stop (31, 1, b, z, l, nx) [tb_i x] = true := by rcases hx with rfl | rfl <;> rfl
theorem tb_stb {x : Int} (hx : -128 ≤ x ∧ x < 128) : tb_stop (31, 2, b, z, l, nx) [tb_i x] = true := by simp [tb_stop, hx]
theorem tb_stc {x : Int} (hx : 0 ≤ x ∧ x < 65536) : tb_stop (31, 5, b, z, l, nx) [tb_i x] = true := by simp [tb_stop, hx]
/-- a stop that is no return: the law's own -/
theorem tb_rx {o : tb_O} (h : tb_at y pc = some o) (ht : o.1 = 44) (k : Q pc lv st A) : tb_E X y pc lv st A Q := by
  obtain ⟨t, a, b, z, l, nx⟩ := o
  have ht' : t = 44 := ht
  subst ht'
  exact tb_ev_stop (P := tb_P) h rfl rfl k
/-- calls, by what comes back -/
def tb_Ci (X : tb_X) (w : Nat) (as : List tb_V) (A : tb_H) (K : Int → tb_H → Prop) : Prop := tb_Cl tb_P X w as A (fun r A1 => ∃ v, r = [tb_i v] ∧ K v A1)
def tb_Cj (X : tb_X) (w : Nat) (as : List tb_V) (A : tb_H) (K : Int → tb_H → Prop) : Prop := tb_Cl tb_P X w as A (fun r A1 => ∃ v, r = [tb_j v] ∧ K v A1)
def tb_Cr (X : tb_X) (w : Nat) (as : List tb_V) (A : tb_H) (K : tb_V → tb_H → Prop) : Prop := tb_Cl tb_P X w as A (fun r A1 => ∃ v, r = [v] ∧ K v A1)
def tb_Cv (X : tb_X) (w : Nat) (as : List tb_V) (A : tb_H) (K : tb_H → Prop) : Prop := tb_Cl tb_P X w as A (fun r A1 => r = [] ∧ K A1)
theorem tb_Ci.imp {w : Nat} {as : List tb_V} {K K' : Int → tb_H → Prop} (h : tb_Ci X w as A K) (hK : ∀ v A1, K v A1 → K' v A1) : tb_Ci X w as A K' := tb_cl_imp (fun r A1 ⟨v, h1, h2⟩ => ⟨v, h1, hK v A1 h2⟩) h
theorem tb_Cj.imp {w : Nat} {as : List tb_V} {K K' : Int → tb_H → Prop} (h : tb_Cj X w as A K) (hK : ∀ v A1, K v A1 → K' v A1) : tb_Cj X w as A K' := tb_cl_imp (fun r A1 ⟨v, h1, h2⟩ => ⟨v, h1, hK v A1 h2⟩) h
theorem tb_Cr.imp {w : Nat} {as : List tb_V} {K K' : tb_V → tb_H → Prop} (h : tb_Cr X w as A K) (hK : ∀ v A1, K v A1 → K' v A1) : tb_Cr X w as A K' := tb_cl_imp (fun r A1 ⟨v, h1, h2⟩ => ⟨v, h1, hK v A1 h2⟩) h
theorem tb_Cv.imp {w : Nat} {as : List tb_V} {K K' : tb_H → Prop} (h : tb_Cv X w as A K) (hK : ∀ A1, K A1 → K' A1) : tb_Cv X w as A K' := tb_cl_imp (fun r A1 ⟨h1, h2⟩ => ⟨h1, hK A1 h2⟩) h
theorem tb_rcl {w : Nat} {as rest : List tb_V} {t n : Nat} (h : tb_at y pc = some (t, w, b, z, l, nx)) (ht : t = 40 ∨ t = 41) (hb : b ≤ st.length) (hr : st.drop b = rest) (h8 : (rest.map tb_cat).sum ≤ 8) (ha : (st.take b).reverse = as) (hn : tb_mx w = n) (hm : (as.map tb_cat).sum ≤ n) (hc : t = 40 → 1 ≤ b ∧ tb_rcv tb_P st b z.toNat = true)
    (k : tb_Cl tb_P X w as A (fun r A1 => tb_E X y nx lv (r ++ rest) A1 Q)) : tb_E X y pc lv st A Q := by
  subst hr; subst ha
  refine tb_ev_call (P := tb_P) h ?_ ht ?_ k
  · rcases ht with rfl | rfl <;> rfl
  · unfold tb_cok
    simp only [Bool.and_eq_true, decide_eq_true_eq]
    refine ⟨⟨⟨hb, h8⟩, ?_⟩, ?_⟩
    · rw [List.map_reverse, List.sum_reverse] at hm
      show _ ≤ tb_mx w
      omega
    · by_cases h40 : t = 40
      · rw [if_pos h40]
        simp only [Bool.and_eq_true, decide_eq_true_eq]
        exact hc h40
      · rw [if_neg h40]
theorem tb_rci {w : Nat} {as rest : List tb_V} {t n : Nat} (h : tb_at y pc = some (t, w, b, z, l, nx)) (ht : t = 40 ∨ t = 41) (hb : b ≤ st.length) (hr : st.drop b = rest) (h8 : (rest.map tb_cat).sum ≤ 8) (ha : (st.take b).reverse = as) (hn : tb_mx w = n) (hm : (as.map tb_cat).sum ≤ n) (hc : t = 40 → 1 ≤ b ∧ tb_rcv tb_P st b z.toNat = true)
    (k : tb_Ci X w as A (fun v A1 => tb_E X y nx lv (tb_i v :: rest) A1 Q)) : tb_E X y pc lv st A Q := tb_rcl h ht hb hr h8 ha hn hm hc (tb_cl_imp (fun r A1 ⟨v, h1, h2⟩ => by rw [h1]; exact h2) k)
theorem tb_rcj {w : Nat} {as rest : List tb_V} {t n : Nat} (h : tb_at y pc = some (t, w, b, z, l, nx)) (ht : t = 40 ∨ t = 41) (hb : b ≤ st.length) (hr : st.drop b = rest) (h8 : (rest.map tb_cat).sum ≤ 8) (ha : (st.take b).reverse = as) (hn : tb_mx w = n) (hm : (as.map tb_cat).sum ≤ n) (hc : t = 40 → 1 ≤ b ∧ tb_rcv tb_P st b z.toNat = true)
    (k : tb_Cj X w as A (fun v A1 => tb_E X y nx lv (tb_j v :: rest) A1 Q)) : tb_E X y pc lv st A Q := tb_rcl h ht hb hr h8 ha hn hm hc (tb_cl_imp (fun r A1 ⟨v, h1, h2⟩ => by rw [h1]; exact h2) k)
theorem tb_rcr {w : Nat} {as rest : List tb_V} {t n : Nat} (h : tb_at y pc = some (t, w, b, z, l, nx)) (ht : t = 40 ∨ t = 41) (hb : b ≤ st.length) (hr : st.drop b = rest) (h8 : (rest.map tb_cat).sum ≤ 8) (ha : (st.take b).reverse = as) (hn : tb_mx w = n) (hm : (as.map tb_cat).sum ≤ n) (hc : t = 40 → 1 ≤ b ∧ tb_rcv tb_P st b z.toNat = true)
    (k : tb_Cr X w as A (fun v A1 => tb_E X y nx lv (v :: rest) A1 Q)) : tb_E X y pc lv st A Q := tb_rcl h ht hb hr h8 ha hn hm hc (tb_cl_imp (fun r A1 ⟨v, h1, h2⟩ => by rw [h1]; exact h2) k)
theorem tb_rcv0 {w : Nat} {as rest : List tb_V} {t n : Nat} (h : tb_at y pc = some (t, w, b, z, l, nx)) (ht : t = 40 ∨ t = 41) (hb : b ≤ st.length) (hr : st.drop b = rest) (h8 : (rest.map tb_cat).sum ≤ 8) (ha : (st.take b).reverse = as) (hn : tb_mx w = n) (hm : (as.map tb_cat).sum ≤ n) (hc : t = 40 → 1 ≤ b ∧ tb_rcv tb_P st b z.toNat = true)
    (k : tb_Cv X w as A (fun A1 => tb_E X y nx lv rest A1 Q)) : tb_E X y pc lv st A Q := tb_rcl h ht hb hr h8 ha hn hm hc (tb_cl_imp (fun r A1 ⟨h1, h2⟩ => by rw [h1]; exact h2) k)
/-- into a method -/
theorem tb_in {w n : Nat} {as lv0 : List tb_V} {K : List tb_V → tb_H → Prop} (hn : tb_mx w = n) (he : tb_entry n as = lv0) (k : tb_E X w 0 lv0 [] A (tb_R tb_P w K)) : tb_Cl tb_P X w as A K := by
  unfold tb_Cl
  have : tb_P.2.1 w = n := hn
  rw [this, he]
  exact k
theorem tb_rcv_of {st : List tb_V} {b q c : Nat} {ci : Nat} {fts : List Nat} (hq : st[b - 1]? = some (tb_r q)) (hk : tb_kd q = (0, c, fts)) (hc : c = ci) : tb_rcv tb_P st b ci = true := by
  unfold tb_rcv
  rw [hq]
  show (match tb_kd q with | (0, c, _) => c == ci | (4, _, _) => ci == 99 | _ => false) = true
  rw [hk, hc]
  simp
theorem tb_rcv_str {st : List tb_V} {b q c : Nat} {fts : List Nat} (hq : st[b - 1]? = some (tb_r q)) (hk : tb_kd q = (4, c, fts)) : tb_rcv tb_P st b 99 = true := by
  unfold tb_rcv
  rw [hq]
  show (match tb_kd q with | (0, c, _) => c == 99 | (4, _, _) => 99 == 99 | _ => false) = true
  rw [hk]
  rfl
/-- a loop that counts -/
def tb_fold {σ : Type} (f : Int → σ → σ) : Nat → Int → σ → σ
  | 0, _, s => s
  | k + 1, i, s => tb_fold f k (i + 1) (f i s)
theorem tb_for {σ : Type} {E : Int → σ → Prop} {f : Int → σ → σ} {i0 n : Int} (step : ∀ (i : Int) (s : σ), i0 ≤ i → i < n → E (i + 1) (f i s) → E i s) : ∀ (k : Nat) (i : Int) (s : σ), i0 ≤ i → i + k = n → E n (tb_fold f k i s) → E i s
  | 0, i, s, _, h, hE => by
    have : i = n := by omega
    subst this
    exact hE
  | k + 1, i, s, h0, h, hE => step i s h0 (by omega) (tb_for step k (i + 1) (f i s) (by omega) (by omega) hE)
end TBRULES
