/-! Ways, by the reference: one may not set out. -/
set_option maxRecDepth 20000 in
theorem c_m_bowsX (d : Nat) (M : Mm) (g : Nat → Int32) (hg : M.1 114 = g) (σ : Nat → Nat) (hM : Ms M σ) (p x y : Int32) (hn : ¬ cso σ p x y) : Wn (d + 2) 111 (PO M g (nI 0) (some (.int (-1)))) (0, lv_args 0 [.ref 114, .int p, .int x, .int y], [], M) := by
  have b6 := Bd_2 hM.2
  refine Wn.run (tab := tb_m_bows) rfl 3 (c' := (5, [(0, .ref 114), (1, .int p), (2, .int x), (3, .int y)], [], (mI M 114 (upd (M.1 114) 0 (nI 0))))) (o := [shp 114 = (0, 10)]) rfl rfl ?_
  rw [hg]
  generalize hM0 : (mI M 114 (upd g 0 (nI 0))) = M0
  have f0 := fr_1I hM0
  have g0 : M0.1 114 = upd g 0 (nI 0) := mI_eq hM0
  have hMs : Ms M0 σ := Ms_fr f0 (by decide) hM
  have z30 : ∀ p : Int32, Wn (d + 2) 111 (PO M g (nI 0) (some (.int (-1)))) (30, [(0, .ref 114), (1, .int p), (2, .int x), (3, .int y)], [], M0) := by
    intro p
    refine Wn.run (tab := tb_m_bows) rfl 1 (c' := (31, [(0, .ref 114), (1, .int p), (2, .int x), (3, .int y)], [.int (-1 : Int32)], M0)) (o := []) rfl trivial ?_
    exact Wn.iret rfl ⟨rfl, by rw [g0, pk_us], by rw [g0]; exact Gx_up (Gx_rf _ _) (by decide), f0⟩
  refine Wn.run (tab := tb_m_bows) rfl 2 (c' := (7, [(0, .ref 114), (1, .int p), (2, .int x), (3, .int y)], [.int p, .ref 114], M0)) (o := []) rfl trivial ?_
  refine Wn.callV (p := 114) (n := 2) (ix := 290) (ci := (10)) (fun r0 M1 => r0 = some (.int (b2 (0 ≤ p.toInt ∧ p.toInt < (σ 2 : Int)))) ∧ M0 = M1) [.int p] [] rfl rfl rfl rfl (Nat.le_of_ble_eq_true rfl) (Nat.le_of_ble_eq_true rfl) (w_m_isPerson _ p M0 σ hMs _ ⟨rfl, rfl⟩) ?_
  rintro _ _ ⟨rfl, rfl⟩
  show Wn _ 111 _ (10, [(0, .ref 114), (1, .int p), (2, .int x), (3, .int y)], [.int (b2 (0 ≤ p.toInt ∧ p.toInt < (σ 2 : Int)))], M0)
  refine Wn.run (tab := tb_m_bows) rfl 1 (c' := (if (b2 (0 ≤ p.toInt ∧ p.toInt < (σ 2 : Int))) = 0 then 30 else 13, [(0, .ref 114), (1, .int p), (2, .int x), (3, .int y)], [], M0)) (o := []) rfl trivial ?_
  by_cases hp : 0 ≤ p.toInt ∧ p.toInt < (σ 2 : Int)
  rotate_left
  · rw [if_pos (b2_e0.mpr hp)]
    exact z30 p
  rw [if_neg (b2_n0.mpr hp)]
  refine Wn.run (tab := tb_m_bows) rfl 3 (c' := (16, [(0, .ref 114), (1, .int p), (2, .int x), (3, .int y)], [.int y, .int x, .ref 114], M0)) (o := []) rfl trivial ?_
  refine Wn.callV (p := 114) (n := 3) (ix := 266) (ci := (10)) (fun r0 M1 => r0 = some (.int (b2 (0 ≤ x.toInt ∧ x.toInt < (σ 0 : Int) ∧ 0 ≤ y.toInt ∧ y.toInt < (σ 1 : Int)))) ∧ M0 = M1) [.int x, .int y] [] rfl rfl rfl rfl (Nat.le_of_ble_eq_true rfl) (Nat.le_of_ble_eq_true rfl) (w_m_isCell _ x y M0 σ hMs _ ⟨rfl, rfl⟩) ?_
  rintro _ _ ⟨rfl, rfl⟩
  show Wn _ 111 _ (19, [(0, .ref 114), (1, .int p), (2, .int x), (3, .int y)], [.int (b2 (0 ≤ x.toInt ∧ x.toInt < (σ 0 : Int) ∧ 0 ≤ y.toInt ∧ y.toInt < (σ 1 : Int)))], M0)
  refine Wn.run (tab := tb_m_bows) rfl 1 (c' := (if (b2 (0 ≤ x.toInt ∧ x.toInt < (σ 0 : Int) ∧ 0 ≤ y.toInt ∧ y.toInt < (σ 1 : Int))) = 0 then 30 else 22, [(0, .ref 114), (1, .int p), (2, .int x), (3, .int y)], [], M0)) (o := []) rfl trivial ?_
  by_cases hc : 0 ≤ x.toInt ∧ x.toInt < (σ 0 : Int) ∧ 0 ≤ y.toInt ∧ y.toInt < (σ 1 : Int)
  rotate_left
  · rw [if_pos (b2_e0.mpr hc)]
    exact z30 p
  rw [if_neg (b2_n0.mpr hc)]
  obtain ⟨k, hk, rfl⟩ : ∃ k, k < σ 2 ∧ p = nI k := pI_n hp (by omega)
  have ek : (nI k).toNatClampNeg = k := nI_clamp (by omega)
  unfold cso at hn
  rw [ek] at hn
  refine Wn.run (tab := tb_m_bows) rfl 2 (c' := (24, [(0, .ref 114), (1, .int (nI k)), (2, .int x), (3, .int y)], [.int (nI k), .ref 114], M0)) (o := []) rfl trivial ?_
  refine Wn.callV (p := 114) (n := 2) (ix := 260) (ci := (10)) (fun r0 M1 => r0 = some (.int (b2 (fal σ k = true))) ∧ M0 = M1) [.int (nI k)] [] rfl rfl rfl rfl (Nat.le_of_ble_eq_true rfl) (Nat.le_of_ble_eq_true rfl) (w_m_hasFallen _ k (by omega) M0 σ hMs _ ⟨rfl, rfl⟩) ?_
  rintro _ _ ⟨rfl, rfl⟩
  show Wn _ 111 _ (27, [(0, .ref 114), (1, .int (nI k)), (2, .int x), (3, .int y)], [.int (b2 (fal σ k = true))], M0)
  refine Wn.run (tab := tb_m_bows) rfl 1 (c' := (if (b2 (fal σ k = true)) = 0 then 32 else 30, [(0, .ref 114), (1, .int (nI k)), (2, .int x), (3, .int y)], [], M0)) (o := []) rfl trivial ?_
  have hf : fal σ k = true := Classical.byContradiction (fun h => hn ⟨hp, hc, h⟩)
  rw [if_neg (b2_n0.mpr hf)]
  exact z30 _
set_option maxRecDepth 20000 in
theorem c_m_firmX (d : Nat) (M : Mm) (g : Nat → Int32) (hg : M.1 114 = g) (σ : Nat → Nat) (hM : Ms M σ) (p x y : Int32) (hn : ¬ cso σ p x y) : Wn (d + 2) 112 (PO M g (nI 0) (some (.int (-1)))) (0, lv_args 0 [.ref 114, .int p, .int x, .int y], [], M) := by
  have b6 := Bd_2 hM.2
  refine Wn.run (tab := tb_m_firm) rfl 3 (c' := (5, [(0, .ref 114), (1, .int p), (2, .int x), (3, .int y)], [], (mI M 114 (upd (M.1 114) 0 (nI 0))))) (o := [shp 114 = (0, 10)]) rfl rfl ?_
  rw [hg]
  generalize hM0 : (mI M 114 (upd g 0 (nI 0))) = M0
  have f0 := fr_1I hM0
  have g0 : M0.1 114 = upd g 0 (nI 0) := mI_eq hM0
  have hMs : Ms M0 σ := Ms_fr f0 (by decide) hM
  have z30 : ∀ p : Int32, Wn (d + 2) 112 (PO M g (nI 0) (some (.int (-1)))) (30, [(0, .ref 114), (1, .int p), (2, .int x), (3, .int y)], [], M0) := by
    intro p
    refine Wn.run (tab := tb_m_firm) rfl 1 (c' := (31, [(0, .ref 114), (1, .int p), (2, .int x), (3, .int y)], [.int (-1 : Int32)], M0)) (o := []) rfl trivial ?_
    exact Wn.iret rfl ⟨rfl, by rw [g0, pk_us], by rw [g0]; exact Gx_up (Gx_rf _ _) (by decide), f0⟩
  refine Wn.run (tab := tb_m_firm) rfl 2 (c' := (7, [(0, .ref 114), (1, .int p), (2, .int x), (3, .int y)], [.int p, .ref 114], M0)) (o := []) rfl trivial ?_
  refine Wn.callV (p := 114) (n := 2) (ix := 290) (ci := (10)) (fun r0 M1 => r0 = some (.int (b2 (0 ≤ p.toInt ∧ p.toInt < (σ 2 : Int)))) ∧ M0 = M1) [.int p] [] rfl rfl rfl rfl (Nat.le_of_ble_eq_true rfl) (Nat.le_of_ble_eq_true rfl) (w_m_isPerson _ p M0 σ hMs _ ⟨rfl, rfl⟩) ?_
  rintro _ _ ⟨rfl, rfl⟩
  show Wn _ 112 _ (10, [(0, .ref 114), (1, .int p), (2, .int x), (3, .int y)], [.int (b2 (0 ≤ p.toInt ∧ p.toInt < (σ 2 : Int)))], M0)
  refine Wn.run (tab := tb_m_firm) rfl 1 (c' := (if (b2 (0 ≤ p.toInt ∧ p.toInt < (σ 2 : Int))) = 0 then 30 else 13, [(0, .ref 114), (1, .int p), (2, .int x), (3, .int y)], [], M0)) (o := []) rfl trivial ?_
  by_cases hp : 0 ≤ p.toInt ∧ p.toInt < (σ 2 : Int)
  rotate_left
  · rw [if_pos (b2_e0.mpr hp)]
    exact z30 p
  rw [if_neg (b2_n0.mpr hp)]
  refine Wn.run (tab := tb_m_firm) rfl 3 (c' := (16, [(0, .ref 114), (1, .int p), (2, .int x), (3, .int y)], [.int y, .int x, .ref 114], M0)) (o := []) rfl trivial ?_
  refine Wn.callV (p := 114) (n := 3) (ix := 266) (ci := (10)) (fun r0 M1 => r0 = some (.int (b2 (0 ≤ x.toInt ∧ x.toInt < (σ 0 : Int) ∧ 0 ≤ y.toInt ∧ y.toInt < (σ 1 : Int)))) ∧ M0 = M1) [.int x, .int y] [] rfl rfl rfl rfl (Nat.le_of_ble_eq_true rfl) (Nat.le_of_ble_eq_true rfl) (w_m_isCell _ x y M0 σ hMs _ ⟨rfl, rfl⟩) ?_
  rintro _ _ ⟨rfl, rfl⟩
  show Wn _ 112 _ (19, [(0, .ref 114), (1, .int p), (2, .int x), (3, .int y)], [.int (b2 (0 ≤ x.toInt ∧ x.toInt < (σ 0 : Int) ∧ 0 ≤ y.toInt ∧ y.toInt < (σ 1 : Int)))], M0)
  refine Wn.run (tab := tb_m_firm) rfl 1 (c' := (if (b2 (0 ≤ x.toInt ∧ x.toInt < (σ 0 : Int) ∧ 0 ≤ y.toInt ∧ y.toInt < (σ 1 : Int))) = 0 then 30 else 22, [(0, .ref 114), (1, .int p), (2, .int x), (3, .int y)], [], M0)) (o := []) rfl trivial ?_
  by_cases hc : 0 ≤ x.toInt ∧ x.toInt < (σ 0 : Int) ∧ 0 ≤ y.toInt ∧ y.toInt < (σ 1 : Int)
  rotate_left
  · rw [if_pos (b2_e0.mpr hc)]
    exact z30 p
  rw [if_neg (b2_n0.mpr hc)]
  obtain ⟨k, hk, rfl⟩ : ∃ k, k < σ 2 ∧ p = nI k := pI_n hp (by omega)
  have ek : (nI k).toNatClampNeg = k := nI_clamp (by omega)
  unfold cso at hn
  rw [ek] at hn
  refine Wn.run (tab := tb_m_firm) rfl 2 (c' := (24, [(0, .ref 114), (1, .int (nI k)), (2, .int x), (3, .int y)], [.int (nI k), .ref 114], M0)) (o := []) rfl trivial ?_
  refine Wn.callV (p := 114) (n := 2) (ix := 260) (ci := (10)) (fun r0 M1 => r0 = some (.int (b2 (fal σ k = true))) ∧ M0 = M1) [.int (nI k)] [] rfl rfl rfl rfl (Nat.le_of_ble_eq_true rfl) (Nat.le_of_ble_eq_true rfl) (w_m_hasFallen _ k (by omega) M0 σ hMs _ ⟨rfl, rfl⟩) ?_
  rintro _ _ ⟨rfl, rfl⟩
  show Wn _ 112 _ (27, [(0, .ref 114), (1, .int (nI k)), (2, .int x), (3, .int y)], [.int (b2 (fal σ k = true))], M0)
  refine Wn.run (tab := tb_m_firm) rfl 1 (c' := (if (b2 (fal σ k = true)) = 0 then 32 else 30, [(0, .ref 114), (1, .int (nI k)), (2, .int x), (3, .int y)], [], M0)) (o := []) rfl trivial ?_
  have hf : fal σ k = true := Classical.byContradiction (fun h => hn ⟨hp, hc, h⟩)
  rw [if_neg (b2_n0.mpr hf)]
  exact z30 _
set_option maxRecDepth 20000 in
theorem c_m_wayX (d : Nat) (M : Mm) (g : Nat → Int32) (hg : M.1 114 = g) (σ : Nat → Nat) (hM : Ms M σ) (p x y : Int32) (hn : ¬ cso σ p x y) : Wn (d + 2) 109 (PO M g (nI 0) (some (.int (-1)))) (0, lv_args 0 [.ref 114, .int p, .int x, .int y], [], M) := by
  have b6 := Bd_2 hM.2
  refine Wn.run (tab := tb_m_way) rfl 3 (c' := (5, [(0, .ref 114), (1, .int p), (2, .int x), (3, .int y)], [], (mI M 114 (upd (M.1 114) 0 (nI 0))))) (o := [shp 114 = (0, 10)]) rfl rfl ?_
  rw [hg]
  generalize hM0 : (mI M 114 (upd g 0 (nI 0))) = M0
  have f0 := fr_1I hM0
  have g0 : M0.1 114 = upd g 0 (nI 0) := mI_eq hM0
  have hMs : Ms M0 σ := Ms_fr f0 (by decide) hM
  have z30 : ∀ p : Int32, Wn (d + 2) 109 (PO M g (nI 0) (some (.int (-1)))) (30, [(0, .ref 114), (1, .int p), (2, .int x), (3, .int y)], [], M0) := by
    intro p
    refine Wn.run (tab := tb_m_way) rfl 1 (c' := (31, [(0, .ref 114), (1, .int p), (2, .int x), (3, .int y)], [.int (-1 : Int32)], M0)) (o := []) rfl trivial ?_
    exact Wn.iret rfl ⟨rfl, by rw [g0, pk_us], by rw [g0]; exact Gx_up (Gx_rf _ _) (by decide), f0⟩
  refine Wn.run (tab := tb_m_way) rfl 2 (c' := (7, [(0, .ref 114), (1, .int p), (2, .int x), (3, .int y)], [.int p, .ref 114], M0)) (o := []) rfl trivial ?_
  refine Wn.callV (p := 114) (n := 2) (ix := 290) (ci := (10)) (fun r0 M1 => r0 = some (.int (b2 (0 ≤ p.toInt ∧ p.toInt < (σ 2 : Int)))) ∧ M0 = M1) [.int p] [] rfl rfl rfl rfl (Nat.le_of_ble_eq_true rfl) (Nat.le_of_ble_eq_true rfl) (w_m_isPerson _ p M0 σ hMs _ ⟨rfl, rfl⟩) ?_
  rintro _ _ ⟨rfl, rfl⟩
  show Wn _ 109 _ (10, [(0, .ref 114), (1, .int p), (2, .int x), (3, .int y)], [.int (b2 (0 ≤ p.toInt ∧ p.toInt < (σ 2 : Int)))], M0)
  refine Wn.run (tab := tb_m_way) rfl 1 (c' := (if (b2 (0 ≤ p.toInt ∧ p.toInt < (σ 2 : Int))) = 0 then 30 else 13, [(0, .ref 114), (1, .int p), (2, .int x), (3, .int y)], [], M0)) (o := []) rfl trivial ?_
  by_cases hp : 0 ≤ p.toInt ∧ p.toInt < (σ 2 : Int)
  rotate_left
  · rw [if_pos (b2_e0.mpr hp)]
    exact z30 p
  rw [if_neg (b2_n0.mpr hp)]
  refine Wn.run (tab := tb_m_way) rfl 3 (c' := (16, [(0, .ref 114), (1, .int p), (2, .int x), (3, .int y)], [.int y, .int x, .ref 114], M0)) (o := []) rfl trivial ?_
  refine Wn.callV (p := 114) (n := 3) (ix := 266) (ci := (10)) (fun r0 M1 => r0 = some (.int (b2 (0 ≤ x.toInt ∧ x.toInt < (σ 0 : Int) ∧ 0 ≤ y.toInt ∧ y.toInt < (σ 1 : Int)))) ∧ M0 = M1) [.int x, .int y] [] rfl rfl rfl rfl (Nat.le_of_ble_eq_true rfl) (Nat.le_of_ble_eq_true rfl) (w_m_isCell _ x y M0 σ hMs _ ⟨rfl, rfl⟩) ?_
  rintro _ _ ⟨rfl, rfl⟩
  show Wn _ 109 _ (19, [(0, .ref 114), (1, .int p), (2, .int x), (3, .int y)], [.int (b2 (0 ≤ x.toInt ∧ x.toInt < (σ 0 : Int) ∧ 0 ≤ y.toInt ∧ y.toInt < (σ 1 : Int)))], M0)
  refine Wn.run (tab := tb_m_way) rfl 1 (c' := (if (b2 (0 ≤ x.toInt ∧ x.toInt < (σ 0 : Int) ∧ 0 ≤ y.toInt ∧ y.toInt < (σ 1 : Int))) = 0 then 30 else 22, [(0, .ref 114), (1, .int p), (2, .int x), (3, .int y)], [], M0)) (o := []) rfl trivial ?_
  by_cases hc : 0 ≤ x.toInt ∧ x.toInt < (σ 0 : Int) ∧ 0 ≤ y.toInt ∧ y.toInt < (σ 1 : Int)
  rotate_left
  · rw [if_pos (b2_e0.mpr hc)]
    exact z30 p
  rw [if_neg (b2_n0.mpr hc)]
  obtain ⟨k, hk, rfl⟩ : ∃ k, k < σ 2 ∧ p = nI k := pI_n hp (by omega)
  have ek : (nI k).toNatClampNeg = k := nI_clamp (by omega)
  unfold cso at hn
  rw [ek] at hn
  refine Wn.run (tab := tb_m_way) rfl 2 (c' := (24, [(0, .ref 114), (1, .int (nI k)), (2, .int x), (3, .int y)], [.int (nI k), .ref 114], M0)) (o := []) rfl trivial ?_
  refine Wn.callV (p := 114) (n := 2) (ix := 260) (ci := (10)) (fun r0 M1 => r0 = some (.int (b2 (fal σ k = true))) ∧ M0 = M1) [.int (nI k)] [] rfl rfl rfl rfl (Nat.le_of_ble_eq_true rfl) (Nat.le_of_ble_eq_true rfl) (w_m_hasFallen _ k (by omega) M0 σ hMs _ ⟨rfl, rfl⟩) ?_
  rintro _ _ ⟨rfl, rfl⟩
  show Wn _ 109 _ (27, [(0, .ref 114), (1, .int (nI k)), (2, .int x), (3, .int y)], [.int (b2 (fal σ k = true))], M0)
  refine Wn.run (tab := tb_m_way) rfl 1 (c' := (if (b2 (fal σ k = true)) = 0 then 32 else 30, [(0, .ref 114), (1, .int (nI k)), (2, .int x), (3, .int y)], [], M0)) (o := []) rfl trivial ?_
  have hf : fal σ k = true := Classical.byContradiction (fun h => hn ⟨hp, hc, h⟩)
  rw [if_neg (b2_n0.mpr hf)]
  exact z30 _
