def PCe (M0 : Mm) (g : Nat → Int32) (r : Nat) (K : Mm → Prop) : Po := fun r0 M' => r0 = some (.int (nI r)) ∧ K M' ∧ M'.1 78 = upd g 7 (nI 1) ∧ M'.2.1 78 = M0.2.1 78 ∧ Fr [77, 78] M0 M'
set_option maxRecDepth 20000 in
theorem c_tl_takeCell_ok (d : Nat) (M : Mm) (T : Nat → Nat) (L mo p ta : Nat) (hR : RdL M T L mo p ta) (g gl : Nat → Int32) (ht : M.1 78 = g) (hl : M.1 16 = gl) (w h : Nat) (h0 : gl 0 = nI w) (h1 : gl 1 = nI h) (hw : 2 ≤ w ∧ w ≤ 8) (hh : 2 ≤ h ∧ h ≤ 8) (x p1 : Nat) (hx : tkN T L mo p 0 (w - 1) = .inr (x, p1)) (hx9 : x < 8) (y p2 : Nat) (hy : tkN T L mo p1 0 (h - 1) = .inr (y, p2)) (hy9 : y < 8) : Wn (d + 3) 233 (PCe M g (8 * y + x) (fun M9 => RdL M9 T L mo p2 (tAt T L mo p1))) (0, lv_args 0 [.ref 78], [], M) := by
  have hF := fr_rf [77, 78] M
  have hj : M.2.1 78 = M.2.1 78 := rfl
  refine Wn.run (tab := tb_tl_takeCell) rfl 3 (c' := (5, [(0, .ref 78)], [], (mI M 78 (upd (M.1 78) 7 (nI 1))))) (o := [shp 78 = (0, 6), is01 (nI 1)]) rfl ⟨rfl, (Or.inr rfl)⟩ ?_
  generalize hM2 : (mI M 78 (upd (M.1 78) 7 (nI 1))) = M1
  have hq3 := RdL_fr (fr_1I hM2) (by decide) hR
  have hk4 := fI_up hM2 ht
  have hk5 := fI_ne hM2 (by decide) hl
  have hF6 := fr_sI hF hM2 (by decide)
  have hk7 := fJ_oI hM2 hj
  show Wn _ 233 _ (5, [(0, .ref 78)], [], M1)
  refine Wn.run (tab := tb_tl_takeCell) rfl 9 (c' := (22, [(0, .ref 78)], [.int ((M1.1 16 0) - (nI 1)), .int (nI 0), .ref 77], M1)) (o := [shp 78 = (0, 6), shp 78 = (0, 6), shp 15 = (0, 8), shp 16 = (0, 2)]) rfl ⟨rfl, rfl, rfl, rfl⟩ ?_
  rw [show (M1.1 16 0) = (nI w) from (fr_eq hk5 (show gl 0 = (nI w) from h0))]
  rw [show ((nI w) - (nI 1)) = (nI (w - 1)) from (n_sub rfl rfl (by omega))]
  refine Wn.callV (p := 77) (n := 3) (ix := 99) (ci := (3)) (PLv M1 T L mo p1 (tAt T L mo p) (some (.int (nI x)))) [.int (nI 0), .int (nI (w - 1))] [] rfl rfl rfl rfl (Nat.le_of_ble_eq_true rfl) (Nat.le_of_ble_eq_true rfl) (c_rd_takeV _ M1 T L mo p ta hq3 0 (w - 1) (by omega) (by omega) (x, p1) hx) ?_
  rintro _ M8 ⟨rfl, hq9, hF10⟩
  show Wn _ 233 _ (25, [(0, .ref 78)], [.int (nI x)], M8)
  have hk11 := frI_fun hF10 (by decide) hk4
  have hk12 := frI_fun hF10 (by decide) hk5
  have hF13 := fr_tr hF6 hF10 (by decide)
  have hk14 := frJ_fun hF10 (by decide) hk7
  refine Wn.run (tab := tb_tl_takeCell) rfl 10 (c' := (43, [(1, .int (nI x)), (0, .ref 78)], [.int ((M8.1 16 1) - (nI 1)), .int (nI 0), .ref 77], M8)) (o := [shp 78 = (0, 6), shp 78 = (0, 6), shp 15 = (0, 8), shp 16 = (0, 2)]) rfl ⟨rfl, rfl, rfl, rfl⟩ ?_
  rw [show (M8.1 16 1) = (nI h) from (fr_eq hk12 (show gl 1 = (nI h) from h1))]
  rw [show ((nI h) - (nI 1)) = (nI (h - 1)) from (n_sub rfl rfl (by omega))]
  refine Wn.callV (p := 77) (n := 3) (ix := 99) (ci := (3)) (PLv M8 T L mo p2 (tAt T L mo p1) (some (.int (nI y)))) [.int (nI 0), .int (nI (h - 1))] [] rfl rfl rfl rfl (Nat.le_of_ble_eq_true rfl) (Nat.le_of_ble_eq_true rfl) (c_rd_takeV _ M8 T L mo p1 (tAt T L mo p) hq9 0 (h - 1) (by omega) (by omega) (y, p2) hy) ?_
  rintro _ M15 ⟨rfl, hq16, hF17⟩
  show Wn _ 233 _ (46, [(1, .int (nI x)), (0, .ref 78)], [.int (nI y)], M15)
  have hk18 := frI_fun hF17 (by decide) hk11
  have hk19 := frI_fun hF17 (by decide) hk12
  have hF20 := fr_tr hF13 hF17 (by decide)
  have hk21 := frJ_fun hF17 (by decide) hk14
  refine Wn.run (tab := tb_tl_takeCell) rfl 6 (c' := (53, [(2, .int (nI y)), (1, .int (nI x)), (0, .ref 78)], [.int (((nI 8) * (nI y)) + (nI x))], M15)) (o := []) rfl trivial ?_
  rw [show (((nI 8) * (nI y)) + (nI x)) = (nI ((8 * y) + x)) from (n_add (n_mul rfl rfl) rfl)]
  have e9 : (nI ((8 * y) + x)) = nI (8 * y + x) := (rfl).trans (congrArg nI (by omega))
  rw [e9]
  exact Wn.iret rfl ⟨rfl, hq16, hk18, hk21, hF20⟩
set_option maxRecDepth 20000 in
theorem c_tl_takeCell_e2 (d : Nat) (M : Mm) (T : Nat → Nat) (L mo p ta : Nat) (hR : RdL M T L mo p ta) (g gl : Nat → Int32) (ht : M.1 78 = g) (hl : M.1 16 = gl) (w h : Nat) (h0 : gl 0 = nI w) (h1 : gl 1 = nI h) (hw : 2 ≤ w ∧ w ≤ 8) (hh : 2 ≤ h ∧ h ≤ 8) (x p1 : Nat) (hx : tkN T L mo p 0 (w - 1) = .inr (x, p1)) (hx9 : x < 8) (f : Flt) (hf : tkN T L mo p1 0 (h - 1) = .inl f) : Wn (d + 3) 233 (PCe M g x (fun M9 => RdD M9 f.1 f.2)) (0, lv_args 0 [.ref 78], [], M) := by
  have hF := fr_rf [77, 78] M
  have hj : M.2.1 78 = M.2.1 78 := rfl
  refine Wn.run (tab := tb_tl_takeCell) rfl 3 (c' := (5, [(0, .ref 78)], [], (mI M 78 (upd (M.1 78) 7 (nI 1))))) (o := [shp 78 = (0, 6), is01 (nI 1)]) rfl ⟨rfl, (Or.inr rfl)⟩ ?_
  generalize hM2 : (mI M 78 (upd (M.1 78) 7 (nI 1))) = M1
  have hq3 := RdL_fr (fr_1I hM2) (by decide) hR
  have hk4 := fI_up hM2 ht
  have hk5 := fI_ne hM2 (by decide) hl
  have hF6 := fr_sI hF hM2 (by decide)
  have hk7 := fJ_oI hM2 hj
  show Wn _ 233 _ (5, [(0, .ref 78)], [], M1)
  refine Wn.run (tab := tb_tl_takeCell) rfl 9 (c' := (22, [(0, .ref 78)], [.int ((M1.1 16 0) - (nI 1)), .int (nI 0), .ref 77], M1)) (o := [shp 78 = (0, 6), shp 78 = (0, 6), shp 15 = (0, 8), shp 16 = (0, 2)]) rfl ⟨rfl, rfl, rfl, rfl⟩ ?_
  rw [show (M1.1 16 0) = (nI w) from (fr_eq hk5 (show gl 0 = (nI w) from h0))]
  rw [show ((nI w) - (nI 1)) = (nI (w - 1)) from (n_sub rfl rfl (by omega))]
  refine Wn.callV (p := 77) (n := 3) (ix := 99) (ci := (3)) (PLv M1 T L mo p1 (tAt T L mo p) (some (.int (nI x)))) [.int (nI 0), .int (nI (w - 1))] [] rfl rfl rfl rfl (Nat.le_of_ble_eq_true rfl) (Nat.le_of_ble_eq_true rfl) (c_rd_takeV _ M1 T L mo p ta hq3 0 (w - 1) (by omega) (by omega) (x, p1) hx) ?_
  rintro _ M8 ⟨rfl, hq9, hF10⟩
  show Wn _ 233 _ (25, [(0, .ref 78)], [.int (nI x)], M8)
  have hk11 := frI_fun hF10 (by decide) hk4
  have hk12 := frI_fun hF10 (by decide) hk5
  have hF13 := fr_tr hF6 hF10 (by decide)
  have hk14 := frJ_fun hF10 (by decide) hk7
  refine Wn.run (tab := tb_tl_takeCell) rfl 10 (c' := (43, [(1, .int (nI x)), (0, .ref 78)], [.int ((M8.1 16 1) - (nI 1)), .int (nI 0), .ref 77], M8)) (o := [shp 78 = (0, 6), shp 78 = (0, 6), shp 15 = (0, 8), shp 16 = (0, 2)]) rfl ⟨rfl, rfl, rfl, rfl⟩ ?_
  rw [show (M8.1 16 1) = (nI h) from (fr_eq hk12 (show gl 1 = (nI h) from h1))]
  rw [show ((nI h) - (nI 1)) = (nI (h - 1)) from (n_sub rfl rfl (by omega))]
  refine Wn.callV (p := 77) (n := 3) (ix := 99) (ci := (3)) (PFl M8 f.1 f.2 (some (.int (nI 0)))) [.int (nI 0), .int (nI (h - 1))] [] rfl rfl rfl rfl (Nat.le_of_ble_eq_true rfl) (Nat.le_of_ble_eq_true rfl) (c_rd_takeE _ M8 T L mo p1 (tAt T L mo p) hq9 0 (h - 1) (by omega) (by omega) f hf) ?_
  rintro _ M15 ⟨rfl, hq16, hF17⟩
  show Wn _ 233 _ (46, [(1, .int (nI x)), (0, .ref 78)], [.int (nI 0)], M15)
  have hk18 := frI_fun hF17 (by decide) hk11
  have hk19 := frI_fun hF17 (by decide) hk12
  have hF20 := fr_tr hF13 hF17 (by decide)
  have hk21 := frJ_fun hF17 (by decide) hk14
  refine Wn.run (tab := tb_tl_takeCell) rfl 6 (c' := (53, [(2, .int (nI 0)), (1, .int (nI x)), (0, .ref 78)], [.int (((nI 8) * (nI 0)) + (nI x))], M15)) (o := []) rfl trivial ?_
  rw [show (((nI 8) * (nI 0)) + (nI x)) = (nI ((8 * 0) + x)) from (n_add (n_mul rfl rfl) rfl)]
  have e9 : (nI ((8 * 0) + x)) = nI x := (rfl).trans (congrArg nI (by omega))
  rw [e9]
  exact Wn.iret rfl ⟨rfl, hq16, hk18, hk21, hF20⟩
set_option maxRecDepth 20000 in
theorem c_tl_takeCell_D (d : Nat) (M : Mm) (g gl : Nat → Int32) (ht : M.1 78 = g) (hl : M.1 16 = gl) (w h : Nat) (h0 : gl 0 = nI w) (h1 : gl 1 = nI h) (hw : 2 ≤ w ∧ w ≤ 8) (hh : 2 ≤ h ∧ h ≤ 8) (fk fp : Nat) (hR : RdD M fk fp) : Wn (d + 3) 233 (PCe M g 0 (fun M9 => RdD M9 fk fp)) (0, lv_args 0 [.ref 78], [], M) := by
  have hF := fr_rf [77, 78] M
  have hj : M.2.1 78 = M.2.1 78 := rfl
  refine Wn.run (tab := tb_tl_takeCell) rfl 3 (c' := (5, [(0, .ref 78)], [], (mI M 78 (upd (M.1 78) 7 (nI 1))))) (o := [shp 78 = (0, 6), is01 (nI 1)]) rfl ⟨rfl, (Or.inr rfl)⟩ ?_
  generalize hM2 : (mI M 78 (upd (M.1 78) 7 (nI 1))) = M1
  have hq3 := RdD_fr (fr_1I hM2) (by decide) hR
  have hk4 := fI_up hM2 ht
  have hk5 := fI_ne hM2 (by decide) hl
  have hF6 := fr_sI hF hM2 (by decide)
  have hk7 := fJ_oI hM2 hj
  show Wn _ 233 _ (5, [(0, .ref 78)], [], M1)
  refine Wn.run (tab := tb_tl_takeCell) rfl 9 (c' := (22, [(0, .ref 78)], [.int ((M1.1 16 0) - (nI 1)), .int (nI 0), .ref 77], M1)) (o := [shp 78 = (0, 6), shp 78 = (0, 6), shp 15 = (0, 8), shp 16 = (0, 2)]) rfl ⟨rfl, rfl, rfl, rfl⟩ ?_
  rw [show (M1.1 16 0) = (nI w) from (fr_eq hk5 (show gl 0 = (nI w) from h0))]
  rw [show ((nI w) - (nI 1)) = (nI (w - 1)) from (n_sub rfl rfl (by omega))]
  refine Wn.callV (p := 77) (n := 3) (ix := 99) (ci := (3)) (fun r0 M9 => r0 = some (.int (nI 0)) ∧ M9 = M1) [.int (nI 0), .int (nI (w - 1))] [] rfl rfl rfl rfl (Nat.le_of_ble_eq_true rfl) (Nat.le_of_ble_eq_true rfl) (c_rd_takeNumberD _ M1 fk fp hq3 (nI 0) (nI (w - 1))) ?_
  rintro _ M9 ⟨rfl, hsm⟩
  obtain rfl := hsm.symm
  show Wn _ 233 _ (25, [(0, .ref 78)], [.int (nI 0)], M1)
  refine Wn.run (tab := tb_tl_takeCell) rfl 10 (c' := (43, [(1, .int (nI 0)), (0, .ref 78)], [.int ((M1.1 16 1) - (nI 1)), .int (nI 0), .ref 77], M1)) (o := [shp 78 = (0, 6), shp 78 = (0, 6), shp 15 = (0, 8), shp 16 = (0, 2)]) rfl ⟨rfl, rfl, rfl, rfl⟩ ?_
  rw [show (M1.1 16 1) = (nI h) from (fr_eq hk5 (show gl 1 = (nI h) from h1))]
  rw [show ((nI h) - (nI 1)) = (nI (h - 1)) from (n_sub rfl rfl (by omega))]
  refine Wn.callV (p := 77) (n := 3) (ix := 99) (ci := (3)) (fun r0 M9 => r0 = some (.int (nI 0)) ∧ M9 = M1) [.int (nI 0), .int (nI (h - 1))] [] rfl rfl rfl rfl (Nat.le_of_ble_eq_true rfl) (Nat.le_of_ble_eq_true rfl) (c_rd_takeNumberD _ M1 fk fp hq3 (nI 0) (nI (h - 1))) ?_
  rintro _ M9 ⟨rfl, hsm⟩
  obtain rfl := hsm.symm
  show Wn _ 233 _ (46, [(1, .int (nI 0)), (0, .ref 78)], [.int (nI 0)], M1)
  refine Wn.run (tab := tb_tl_takeCell) rfl 6 (c' := (53, [(2, .int (nI 0)), (1, .int (nI 0)), (0, .ref 78)], [.int (((nI 8) * (nI 0)) + (nI 0))], M1)) (o := []) rfl trivial ?_
  rw [show (((nI 8) * (nI 0)) + (nI 0)) = (nI ((8 * 0) + 0)) from (n_add (n_mul rfl rfl) rfl)]
  have e9 : (nI ((8 * 0) + 0)) = nI 0 := (rfl).trans (congrArg nI (by omega))
  rw [e9]
  exact Wn.iret rfl ⟨rfl, hq3, hk4, hk7, hF6⟩
set_option maxRecDepth 20000 in
theorem c_tl_takeCell_e1 (d : Nat) (M : Mm) (T : Nat → Nat) (L mo p ta : Nat) (hR : RdL M T L mo p ta) (g gl : Nat → Int32) (ht : M.1 78 = g) (hl : M.1 16 = gl) (w h : Nat) (h0 : gl 0 = nI w) (h1 : gl 1 = nI h) (hw : 2 ≤ w ∧ w ≤ 8) (hh : 2 ≤ h ∧ h ≤ 8) (f : Flt) (hf : tkN T L mo p 0 (w - 1) = .inl f) : Wn (d + 3) 233 (PCe M g 0 (fun M9 => RdD M9 f.1 f.2)) (0, lv_args 0 [.ref 78], [], M) := by
  have hF := fr_rf [77, 78] M
  have hj : M.2.1 78 = M.2.1 78 := rfl
  refine Wn.run (tab := tb_tl_takeCell) rfl 3 (c' := (5, [(0, .ref 78)], [], (mI M 78 (upd (M.1 78) 7 (nI 1))))) (o := [shp 78 = (0, 6), is01 (nI 1)]) rfl ⟨rfl, (Or.inr rfl)⟩ ?_
  generalize hM2 : (mI M 78 (upd (M.1 78) 7 (nI 1))) = M1
  have hq3 := RdL_fr (fr_1I hM2) (by decide) hR
  have hk4 := fI_up hM2 ht
  have hk5 := fI_ne hM2 (by decide) hl
  have hF6 := fr_sI hF hM2 (by decide)
  have hk7 := fJ_oI hM2 hj
  show Wn _ 233 _ (5, [(0, .ref 78)], [], M1)
  refine Wn.run (tab := tb_tl_takeCell) rfl 9 (c' := (22, [(0, .ref 78)], [.int ((M1.1 16 0) - (nI 1)), .int (nI 0), .ref 77], M1)) (o := [shp 78 = (0, 6), shp 78 = (0, 6), shp 15 = (0, 8), shp 16 = (0, 2)]) rfl ⟨rfl, rfl, rfl, rfl⟩ ?_
  rw [show (M1.1 16 0) = (nI w) from (fr_eq hk5 (show gl 0 = (nI w) from h0))]
  rw [show ((nI w) - (nI 1)) = (nI (w - 1)) from (n_sub rfl rfl (by omega))]
  refine Wn.callV (p := 77) (n := 3) (ix := 99) (ci := (3)) (PFl M1 f.1 f.2 (some (.int (nI 0)))) [.int (nI 0), .int (nI (w - 1))] [] rfl rfl rfl rfl (Nat.le_of_ble_eq_true rfl) (Nat.le_of_ble_eq_true rfl) (c_rd_takeE _ M1 T L mo p ta hq3 0 (w - 1) (by omega) (by omega) f hf) ?_
  rintro _ M8 ⟨rfl, hq9, hF10⟩
  show Wn _ 233 _ (25, [(0, .ref 78)], [.int (nI 0)], M8)
  have hk11 := frI_fun hF10 (by decide) hk4
  have hk12 := frI_fun hF10 (by decide) hk5
  have hF13 := fr_tr hF6 hF10 (by decide)
  have hk14 := frJ_fun hF10 (by decide) hk7
  refine Wn.run (tab := tb_tl_takeCell) rfl 10 (c' := (43, [(1, .int (nI 0)), (0, .ref 78)], [.int ((M8.1 16 1) - (nI 1)), .int (nI 0), .ref 77], M8)) (o := [shp 78 = (0, 6), shp 78 = (0, 6), shp 15 = (0, 8), shp 16 = (0, 2)]) rfl ⟨rfl, rfl, rfl, rfl⟩ ?_
  rw [show (M8.1 16 1) = (nI h) from (fr_eq hk12 (show gl 1 = (nI h) from h1))]
  rw [show ((nI h) - (nI 1)) = (nI (h - 1)) from (n_sub rfl rfl (by omega))]
  refine Wn.callV (p := 77) (n := 3) (ix := 99) (ci := (3)) (fun r0 M9 => r0 = some (.int (nI 0)) ∧ M9 = M8) [.int (nI 0), .int (nI (h - 1))] [] rfl rfl rfl rfl (Nat.le_of_ble_eq_true rfl) (Nat.le_of_ble_eq_true rfl) (c_rd_takeNumberD _ M8 f.1 f.2 hq9 (nI 0) (nI (h - 1))) ?_
  rintro _ M9 ⟨rfl, hsm⟩
  obtain rfl := hsm.symm
  show Wn _ 233 _ (46, [(1, .int (nI 0)), (0, .ref 78)], [.int (nI 0)], M8)
  refine Wn.run (tab := tb_tl_takeCell) rfl 6 (c' := (53, [(2, .int (nI 0)), (1, .int (nI 0)), (0, .ref 78)], [.int (((nI 8) * (nI 0)) + (nI 0))], M8)) (o := []) rfl trivial ?_
  rw [show (((nI 8) * (nI 0)) + (nI 0)) = (nI ((8 * 0) + 0)) from (n_add (n_mul rfl rfl) rfl)]
  have e9 : (nI ((8 * 0) + 0)) = nI 0 := (rfl).trans (congrArg nI (by omega))
  rw [e9]
  exact Wn.iret rfl ⟨rfl, hq9, hk11, hk14, hF13⟩
