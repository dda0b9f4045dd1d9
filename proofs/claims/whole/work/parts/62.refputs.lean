def PPt (M0 : Mm) (g : Nat → Int32) (T : Nat → Nat) (L mo p : Nat) (δ : Nat → Nat) : Po := fun r0 M' => r0 = some (.int (nI 1)) ∧ TkM M' T L mo p ∧ (∀ k, k < 90 → M'.1 117 k = nI (δ k)) ∧ Gx [4, 11, 12, 13, 14, 18] g (M'.1 114) ∧ (∀ k, ¬ k = 17 → M'.2.1 114 k = M0.2.1 114 k) ∧ Fr [114, 117] M0 M'
set_option maxRecDepth 20000 in
theorem c_m_putsV (d : Nat) (M : Mm) (g : Nat → Int32) (T : Nat → Nat) (L mo p : Nat) (hg : M.1 114 = g) (hK : TkM M T L mo p) (δ : Nat → Nat) (hh : ∀ k, k < 90 → M.1 117 k = nI (δ k)) (to lo hi : Nat) (hto : to < 90) (hlo : lo < 1000) (hhi : hi < 1000) (x9 p9 : Nat) (hv : tkN T L mo p lo hi = .inr (x9, p9)) : Wn (d + 3) 64 (PPt M g T L mo p9 (su δ to x9)) (0, lv_args 0 [.ref 114, .int (nI to), .int (nI lo), .int (nI hi)], [], M) := by
  have hF := fr_rf [114, 117] M
  have hO : ∀ k, ¬ k = 17 → M.2.1 114 k = M.2.1 114 k := fun _ _ => rfl
  have bx : x9 < 1000 := by obtain ⟨q1, q2, q3⟩ := tkN_inr hv; cases q3; omega
  refine Wn.run (tab := tb_m_puts) rfl 3 (c' := (3, [(0, .ref 114), (1, .int (nI to)), (2, .int (nI lo)), (3, .int (nI hi))], [.int (nI hi), .int (nI lo), .ref 114], M)) (o := []) rfl trivial ?_
  refine Wn.callV (p := 114) (n := 3) (ix := 201) (ci := (10)) (PTm M g T L mo p9 [4, 11, 12, 13, 14, 18] (nI x9) (some (.int (nI 1)))) [.int (nI lo), .int (nI hi)] [] rfl rfl rfl rfl (Nat.le_of_ble_eq_true rfl) (Nat.le_of_ble_eq_true rfl) (c_m_takesV _ M g T L mo p hg hK lo hi hlo hhi (x9, p9) hv) ?_
  rintro _ M6 ⟨rfl, ht1, h182, hx3, hj4, hF5⟩
  show Wn _ 64 _ (6, [(0, .ref 114), (1, .int (nI to)), (2, .int (nI lo)), (3, .int (nI hi))], [.int (nI 1)], M6)
  obtain ⟨g7, hg8⟩ : ∃ g9, M6.1 114 = g9 := ⟨_, rfl⟩
  have hx9 := hx3
  rw [hg8] at hx9
  have hf10 : g7 18 = nI x9 := by rw [← hg8]; exact h182
  have hk11 := fr_row hF5 (by decide) hh
  have ho12 := jo_tr hO hj4
  have hF13 := fr_tr hF hF5 (by decide)
  refine Wn.run (tab := tb_m_puts) rfl 1 (c' := (if ¬ (nI 1) = 0 then 11 else 9, [(0, .ref 114), (1, .int (nI to)), (2, .int (nI lo)), (3, .int (nI hi))], [], M6)) (o := []) rfl trivial ?_
  rw [if_pos (show ¬ (nI 1) = 0 by decide)]
  show Wn _ 64 _ (11, [(0, .ref 114), (1, .int (nI to)), (2, .int (nI lo)), (3, .int (nI hi))], [], M6)
  refine Wn.run (tab := tb_m_puts) rfl 6 (c' := (21, [(0, .ref 114), (1, .int (nI to)), (2, .int (nI lo)), (3, .int (nI hi))], [], (mI M6 117 (upd (M6.1 117) ((nI to)).toNatClampNeg (M6.1 114 18))))) (o := [shp 114 = (0, 10), shp 114 = (0, 10), aok shp 117 0 (nI to)]) rfl ⟨rfl, rfl, (ak1 (n := 90) rfl rfl rfl (by omega))⟩ ?_
  rw [show (M6.1 114 18) = (nI x9) from (fr_eq hg8 (show g7 18 = (nI x9) from hf10))]
  generalize hM15 : (mI M6 117 (upd (M6.1 117) ((nI to)).toNatClampNeg (nI x9))) = M14
  have ht16 := TkM_fr (fr_1I hM15) (by decide) ht1
  have hk17 := fI_ne hM15 (by decide) hg8
  have hk18 : ∀ k, k < 90 → M14.1 117 k = nI ((su δ to x9) k) := row_up hM15 hk11 (cl1 rfl (by omega)) rfl
  have ho19 := jo_stI hM15 ho12
  have hF20 := fr_sI hF13 hM15 (by decide)
  show Wn _ 64 _ (21, [(0, .ref 114), (1, .int (nI to)), (2, .int (nI lo)), (3, .int (nI hi))], [], M14)
  refine Wn.run (tab := tb_m_puts) rfl 1 (c' := (22, [(0, .ref 114), (1, .int (nI to)), (2, .int (nI lo)), (3, .int (nI hi))], [.int (nI 1)], M14)) (o := []) rfl trivial ?_
  exact Wn.zret rfl (Or.inr rfl) ⟨rfl, ht16, hk18, by rw [hk17]; exact (Gx_tr (Gx_rf _ _) (Gx_mono hx9 (by decide))), ho19, hF20⟩
set_option maxRecDepth 20000 in
theorem c_m_putsE (d : Nat) (M : Mm) (g : Nat → Int32) (T : Nat → Nat) (L mo p : Nat) (hg : M.1 114 = g) (hK : TkM M T L mo p) (δ : Nat → Nat) (hh : ∀ k, k < 90 → M.1 117 k = nI (δ k)) (to lo hi : Nat) (hto : to < 90) (hlo : lo < 1000) (hhi : hi < 1000) (f9 : Flt) (hv : tkN T L mo p lo hi = .inl f9) : Wn (d + 3) 64 (PFm M g f9.1 f9.2 (some (.int (nI 0)))) (0, lv_args 0 [.ref 114, .int (nI to), .int (nI lo), .int (nI hi)], [], M) := by
  have hF := fr_rf [114] M
  refine Wn.run (tab := tb_m_puts) rfl 3 (c' := (3, [(0, .ref 114), (1, .int (nI to)), (2, .int (nI lo)), (3, .int (nI hi))], [.int (nI hi), .int (nI lo), .ref 114], M)) (o := []) rfl trivial ?_
  refine Wn.callV (p := 114) (n := 3) (ix := 201) (ci := (10)) (PFm M g f9.1 f9.2 (some (.int (nI 0)))) [.int (nI lo), .int (nI hi)] [] rfl rfl rfl rfl (Nat.le_of_ble_eq_true rfl) (Nat.le_of_ble_eq_true rfl) (c_m_takesE _ M g T L mo p hg hK lo hi hlo hhi f9 hv) ?_
  rintro r0 M9 ⟨rfl, q1, q2, q3, q4⟩
  show Wn _ 64 _ (6, [(0, .ref 114), (1, .int (nI to)), (2, .int (nI lo)), (3, .int (nI hi))], [.int (nI 0)], M9)
  refine Wn.run (tab := tb_m_puts) rfl 1 (c' := (if ¬ (nI 0) = 0 then 11 else 9, [(0, .ref 114), (1, .int (nI to)), (2, .int (nI lo)), (3, .int (nI hi))], [], M9)) (o := []) rfl trivial ?_
  rw [if_neg (show ¬ (¬ (nI 0) = 0) by decide)]
  show Wn _ 64 _ (9, [(0, .ref 114), (1, .int (nI to)), (2, .int (nI lo)), (3, .int (nI hi))], [], M9)
  refine Wn.run (tab := tb_m_puts) rfl 1 (c' := (10, [(0, .ref 114), (1, .int (nI to)), (2, .int (nI lo)), (3, .int (nI hi))], [.int (nI 0)], M9)) (o := []) rfl trivial ?_
  exact Wn.zret rfl (Or.inl rfl) ⟨rfl, q1, q2, q3, q4⟩
