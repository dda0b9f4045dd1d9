set_option maxRecDepth 20000 in
theorem c_tl_takeOnce_ok (d : Nat) (M : Mm) (T : Nat → Nat) (L mo p ta : Nat) (hR : RdL M T L mo p ta) (h0 : ¬ tKd T L mo p = 0) (h36 : ¬ tKd T L mo p = 36) : Wn (d + 2) 230 (PLv M T L mo (tNx T L p) (tAt T L mo p) (some (.int (nI 1)))) (0, lv_args 0 [.ref 78, .int (nI 0)], [], M) := by
  have hF := fr_rf [77] M
  refine Wn.run (tab := tb_tl_takeOnce) rfl 2 (c' := (if (nI 0) = 0 then 15 else 4, [(0, .ref 78), (1, .int (nI 0))], [], M)) (o := []) rfl trivial ?_
  rw [if_pos (show (nI 0) = 0 by decide)]
  show Wn _ 230 _ (15, [(0, .ref 78), (1, .int (nI 0))], [], M)
  refine Wn.run (tab := tb_tl_takeOnce) rfl 2 (c' := (19, [(0, .ref 78), (1, .int (nI 0))], [.ref 77], M)) (o := [shp 78 = (0, 6)]) rfl rfl ?_
  refine Wn.callV (p := 77) (n := 1) (ix := 125) (ci := (3)) (PLv M T L mo (tNx T L p) (tAt T L mo p) none) [] [] rfl rfl rfl rfl (Nat.le_of_ble_eq_true rfl) (Nat.le_of_ble_eq_true rfl) (c_rd_adv _ M T L mo p ta hR (by omega) (by omega)) ?_
  rintro _ M1 ⟨rfl, hq2, hF3⟩
  show Wn _ 230 _ (22, [(0, .ref 78), (1, .int (nI 0))], [], M1)
  have hF4 := fr_tr hF hF3 (by decide)
  refine Wn.run (tab := tb_tl_takeOnce) rfl 1 (c' := (23, [(0, .ref 78), (1, .int (nI 0))], [.int (nI 1)], M1)) (o := []) rfl trivial ?_
  exact Wn.zret rfl (Or.inr rfl) ⟨rfl, hq2, hF4⟩
set_option maxRecDepth 20000 in
theorem c_tl_takeOnce_no (d : Nat) (M : Mm) (T : Nat → Nat) (L mo p ta : Nat) (hR : RdL M T L mo p ta)  : Wn (d + 2) 230 (PFl M 3 (tAt T L mo p) (some (.int (nI 1)))) (0, lv_args 0 [.ref 78, .int (nI 1)], [], M) := by
  have hF := fr_rf [77] M
  refine Wn.run (tab := tb_tl_takeOnce) rfl 2 (c' := (if (nI 1) = 0 then 15 else 4, [(0, .ref 78), (1, .int (nI 1))], [], M)) (o := []) rfl trivial ?_
  rw [if_neg (show ¬ ((nI 1) = 0) by decide)]
  show Wn _ 230 _ (4, [(0, .ref 78), (1, .int (nI 1))], [], M)
  refine Wn.run (tab := tb_tl_takeOnce) rfl 3 (c' := (9, [(0, .ref 78), (1, .int (nI 1))], [.int (nI 3), .ref 77], M)) (o := [shp 78 = (0, 6)]) rfl rfl ?_
  refine Wn.callV (p := 77) (n := 2) (ix := 121) (ci := (3)) (PFl M 3 (tAt T L mo p) none) [.int (nI 3)] [] rfl rfl rfl rfl (Nat.le_of_ble_eq_true rfl) (Nat.le_of_ble_eq_true rfl) (c_rd_fail _ M T L mo p ta hR.1 3 (by omega)) ?_
  rintro _ M1 ⟨rfl, hd2, hF3⟩
  show Wn _ 230 _ (12, [(0, .ref 78), (1, .int (nI 1))], [], M1)
  have hF4 := fr_tr hF hF3 (by decide)
  refine Wn.run (tab := tb_tl_takeOnce) rfl 2 (c' := (23, [(0, .ref 78), (1, .int (nI 1))], [.int (nI 1)], M1)) (o := []) rfl trivial ?_
  exact Wn.zret rfl (Or.inr rfl) ⟨rfl, hd2, hF4⟩
