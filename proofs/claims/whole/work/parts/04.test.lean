theorem is01_ite (P : Prop) {i : Decidable P} : is01 (if P then (1 : Int32) else 0) := by by_cases h : P <;> simp [h, is01]
def b2 (P : Prop) [Decidable P] : Int32 := if P then 1 else 0
theorem b2_t {P : Prop} [Decidable P] (h : P) : b2 P = 1 := if_pos h
theorem b2_f {P : Prop} [Decidable P] (h : ¬ P) : b2 P = 0 := if_neg h
theorem is01_b2 (P : Prop) [Decidable P] : is01 (b2 P) := by by_cases h : P <;> simp [h, is01, b2]
theorem w_m_bitOf (d : Nat) (s : Int32) (k : Int32) (M : Mm)  (Q : Po) (hQ : Q (some (.int (b2 (((s >>> (k &&& 31)) &&& (nI 1)) = (nI 1))))) M) : Wn (d + 0) 47 Q (0, lv_args 0 [.int s, .int k], [], M) := by
  refine Wn.run (tab := tb_m_bitOf) rfl 7 (c' := (if ¬ ((s >>> (k &&& 31)) &&& (nI 1)) = (nI 1) then 13 else 9, [(0, .int s), (1, .int k)], [], M)) (o := []) rfl trivial ?_
  refine Wn.br (fun h1 => ?_) (fun h1 => ?_)
  · refine Wn.run (tab := tb_m_bitOf) rfl 1 (c' := (14, [(0, .int s), (1, .int k)], [.int (nI 0)], M)) (o := []) rfl trivial ?_
    exact Wn.zret rfl (Or.inl rfl) (by first | (rw [b2_t (by first | assumption | exact Classical.not_not.mp (by assumption))] at hQ; exact hQ) | (rw [b2_f (by assumption)] at hQ; exact hQ))
  · refine Wn.run (tab := tb_m_bitOf) rfl 2 (c' := (14, [(0, .int s), (1, .int k)], [.int (nI 1)], M)) (o := []) rfl trivial ?_
    exact Wn.zret rfl (Or.inr rfl) (by first | (rw [b2_t (by first | assumption | exact Classical.not_not.mp (by assumption))] at hQ; exact hQ) | (rw [b2_f (by assumption)] at hQ; exact hQ))

