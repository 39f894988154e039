/-! the least rope of a scute -/
section TBHOUSE
variable {X : tb_X} {A : tb_H} {K : Int → tb_H → Prop}
def td_rp (r s : Int → Int) (n : Int) : Int := if s (21 + n) = 0 then r (45 + n) else 0
def td_lm (m v : Int) : Int := if m < 0 then v else if m ≤ v then m else v
def td_hm (r s : Int → Int) (x : Int) : Nat → Int
  | 0 => -2
  | n + 1 => if s (15 + n) = 0 ∧ r (33 + n) = x then td_lm (td_hm r s x n) (td_rp r s n) else td_hm r s x n
theorem td_hm_s {r s : Int → Int} {x i : Int} (h : 0 ≤ i) : td_hm r s x (i + 1).toNat = if s (15 + i) = 0 ∧ r (33 + i) = x then td_lm (td_hm r s x i.toNat) (td_rp r s i) else td_hm r s x i.toNat := by
  obtain ⟨n, rfl⟩ := Int.eq_ofNat_of_zero_le h
  rfl
theorem e131 (L : tb_L A) {x : Int} : tb_Ci X 131 [tb_r 4, tb_i x] A K = K (td_hm (A.1 80) (A.1 82) x (A.1 80 113).toNat) A := by
  have c3 := L.M.c113
  refine tb_dei (q131 ⟨L.b, ?_⟩)
  have key : ∀ x5, tb_E X 131 11 [tb_r 4, tb_i x, tb_r (A.2.2 4 1), tb_i (td_hm (A.1 80) (A.1 82) x (0 : Int).toNat), tb_i 0, x5] [] A (tb_Ri 131 (fun v A' => v = td_hm (A.1 80) (A.1 82) x (A.1 80 113).toNat ∧ A' = A)) := by
    refine tb_lp (E := fun i => ∀ x5, tb_E X 131 11 [tb_r 4, tb_i x, tb_r (A.2.2 4 1), tb_i (td_hm (A.1 80) (A.1 82) x i.toNat), tb_i i, x5] [] A (tb_Ri 131 (fun v A' => v = td_hm (A.1 80) (A.1 82) x (A.1 80 113).toNat ∧ A' = A))) (n := A.1 80 113) c3.1 ?_ ?_
    · intro x5
      refine q131_11 L.b ?_
      rw [e28_3 L]
      exact ⟨fun _ => ⟨rfl, rfl⟩, fun q => absurd q (by omega)⟩
    · intro i i0 i1 e x5
      rw [td_hm_s i0] at e
      refine q131_11 L.b ?_
      rw [e28_3 L]
      refine ⟨fun q => absurd q (by omega), fun _ => ?_⟩
      rw [e64 L i0 (by omega), tb_w_id (x := i + 1) (by omega) (by omega)]
      by_cases t : A.1 82 (15 + i) = 0
      · rw [if_pos ⟨i1, t⟩]
        refine ⟨fun q => absurd q (by decide), fun _ => ?_⟩
        rw [e66 L i0 i1]
        refine ⟨fun q => ?_, fun q => ?_⟩
        · rw [if_pos ⟨t, q⟩] at e
          rw [e101 L i0 (by omega)]
          refine ⟨fun z => ?_, fun z => ?_⟩
          · rw [e41_32 L i0 i1]
            rw [show td_rp (A.1 80) (A.1 82) i = A.1 80 (45 + i) from if_pos z] at e
            unfold td_lm at e
            refine ⟨fun a => ?_, fun a => ⟨fun b => ?_, fun b => ?_⟩⟩
            · rw [if_pos a] at e; exact e _
            · rw [if_neg (by omega), if_pos b] at e; exact e _
            · rw [if_neg (by omega), if_neg (by omega)] at e; exact e _
          · rw [show td_rp (A.1 80) (A.1 82) i = 0 from if_neg z] at e
            unfold td_lm at e
            refine ⟨fun a => ?_, fun a => ⟨fun b => ?_, fun b => ?_⟩⟩
            · rw [if_pos a] at e; exact e _
            · rw [if_neg (by omega), if_pos b] at e; exact e _
            · rw [if_neg (by omega), if_neg (by omega)] at e; exact e _
        · rw [if_neg (fun z => q z.2)] at e
          exact e _
      · rw [if_neg (fun z => t z.2)]
        rw [if_neg (fun z => t z.1)] at e
        exact ⟨fun _ => e _, fun q => absurd rfl q⟩
  exact key _
end TBHOUSE
