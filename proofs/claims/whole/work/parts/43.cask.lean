/-! What is asked of the class. -/
def PN (M0 : Mm) (r : Option Value) : Po := fun r0 M' => r0 = r ∧ M' = M0
set_option maxRecDepth 20000 in
theorem c_i_cell (d : Nat) (M : Mm) (σ : Nat → Nat) (hS : StC M 6 σ) (hV : Inv σ) (x y : Nat) (what : Int32) (hx : x < σ 0) (hy : y < σ 1) : Wn (d + 2) 6 (PN M (some (.int (celN σ (8 * y + x) what)))) (0, lv_args 0 [.ref 0, .int (nI x), .int (nI y), .int what], [], M) := by
  have hB := hV.1
  have hI := hV.2.1
  have c9_2 := Bd_2 hB
  have k90 := Bd_90 hB
  have l6 : lkp 6 = 3 := rfl
  have k0 := Bd_0 hB
  have k1 := Bd_1 hB
  have hin : inL σ (8 * y + x) := by unfold inL; omega
  refine Wn.run (tab := tb_i_cell) rfl 5 (c' := (9, [(0, .ref 0), (1, .int (nI x)), (2, .int (nI y)), (3, .int what)], [.int (nI y), .int (nI x), .ref 3], M)) (o := [shp 0 = (0, 9), shp 2 = (0, 8)]) rfl ⟨rfl, rfl⟩ ?_
  refine Wn.callV (p := 3) (n := 3) (ix := 173) (ci := (2)) (fun r0 M0 => r0 = some (.int (nI 1)) ∧ M = M0) [.int (nI x), .int (nI y)] [] rfl rfl rfl rfl (Nat.le_of_ble_eq_true rfl) (Nat.le_of_ble_eq_true rfl) (w_lk_isCellT _ M 3 σ hS.2.1 hB x y (by omega) (by omega) _ ⟨rfl, rfl⟩) ?_
  rintro _ _ ⟨rfl, rfl⟩
  show Wn _ 6 _ (12, [(0, .ref 0), (1, .int (nI x)), (2, .int (nI y)), (3, .int what)], [.int (nI 1)], M)
  refine Wn.run (tab := tb_i_cell) rfl 1 (c' := (if ¬ (nI 1) = 0 then 17 else 15, [(0, .ref 0), (1, .int (nI x)), (2, .int (nI y)), (3, .int what)], [], M)) (o := []) rfl trivial ?_
  rw [if_pos (show ¬ (nI 1) = 0 by decide)]
  show Wn _ 6 _ (17, [(0, .ref 0), (1, .int (nI x)), (2, .int (nI y)), (3, .int what)], [], M)
  refine Wn.run (tab := tb_i_cell) rfl 8 (c' := (tsw [0, 2, 93, 52, 66, 80] what, [(4, .int (((nI 8) * (nI y)) + (nI x))), (0, .ref 0), (1, .int (nI x)), (2, .int (nI y)), (3, .int what)], [], M)) (o := []) rfl trivial ?_
  by_cases h1 : what = (nI 0)
  · rw [show tsw [0, 2, 93, 52, 66, 80] what = 52 from by rw [h1]; rfl]
    show Wn _ 6 _ (52, [(4, .int (((nI 8) * (nI y)) + (nI x))), (0, .ref 0), (1, .int (nI x)), (2, .int (nI y)), (3, .int what)], [], M)
    refine Wn.run (tab := tb_i_cell) rfl 6 (c' := (65, [(4, .int (((nI 8) * (nI y)) + (nI x))), (0, .ref 0), (1, .int (nI x)), (2, .int (nI y)), (3, .int what)], [.int (M.1 7 ((((nI 8) * (nI y)) + (nI x))).toNatClampNeg)], M)) (o := [shp 0 = (0, 9), shp 2 = (0, 8), shp 6 = (0, 5), aok shp 7 0 (((nI 8) * (nI y)) + (nI x))]) rfl ⟨rfl, rfl, rfl, (ak1 (n := 64) rfl rfl (n_add (n_mul rfl rfl) rfl) (by omega))⟩ ?_
    have g9 := Bd_c hB ((8 * y) + x) (by omega)
    rw [show (M.1 7 ((((nI 8) * (nI y)) + (nI x))).toNatClampNeg) = (nI (σ (96 + ((8 * y) + x)))) from (rdc hS.2.2.2.1 (n_add (n_mul rfl rfl) rfl) (by omega) hin)]
    rw [show (((nI 8) * (nI y)) + (nI x)) = (nI ((8 * y) + x)) from (n_add (n_mul rfl rfl) rfl)]
    exact Wn.iret rfl ⟨by unfold celN; rw [if_pos h1], rfl⟩
  by_cases h2 : what = (nI 1)
  · rw [show tsw [0, 2, 93, 52, 66, 80] what = 66 from by rw [h2]; rfl]
    show Wn _ 6 _ (66, [(4, .int (((nI 8) * (nI y)) + (nI x))), (0, .ref 0), (1, .int (nI x)), (2, .int (nI y)), (3, .int what)], [], M)
    refine Wn.run (tab := tb_i_cell) rfl 5 (c' := (76, [(4, .int (((nI 8) * (nI y)) + (nI x))), (0, .ref 0), (1, .int (nI x)), (2, .int (nI y)), (3, .int what)], [.int (-1 : Int32), .int (((nI 8) * (nI y)) + (nI x)), .ref 6], M)) (o := [shp 0 = (0, 9), shp 2 = (0, 8)]) rfl ⟨rfl, rfl⟩ ?_
    rw [show (((nI 8) * (nI y)) + (nI x)) = (nI ((8 * y) + x)) from (n_add (n_mul rfl rfl) rfl)]
    refine Wn.callV (p := 6) (n := 3) (ix := 180) (ci := (5)) (fun r0 M0 => r0 = some (.int (nI (ld σ ((8 * y) + x)))) ∧ M = M0) [.int (nI ((8 * y) + x)), .int (-1 : Int32)] [] rfl rfl rfl rfl (Nat.le_of_ble_eq_true rfl) (Nat.le_of_ble_eq_true rfl) (w_st_loadOnN _ M 6 σ hS hB ((8 * y) + x) (by omega) _ ⟨rfl, rfl⟩) ?_
    rintro _ _ ⟨rfl, rfl⟩
    show Wn _ 6 _ (79, [(4, .int (nI ((8 * y) + x))), (0, .ref 0), (1, .int (nI x)), (2, .int (nI y)), (3, .int what)], [.int (nI (ld σ ((8 * y) + x)))], M)
    have r9 := ld_le hB ((8 * y) + x)
    exact Wn.iret rfl ⟨by unfold celN; rw [if_neg h1, if_pos h2], rfl⟩
  by_cases h3 : what = (nI 2)
  · rw [show tsw [0, 2, 93, 52, 66, 80] what = 80 from by rw [h3]; rfl]
    show Wn _ 6 _ (80, [(4, .int (((nI 8) * (nI y)) + (nI x))), (0, .ref 0), (1, .int (nI x)), (2, .int (nI y)), (3, .int what)], [], M)
    refine Wn.run (tab := tb_i_cell) rfl 4 (c' := (89, [(4, .int (((nI 8) * (nI y)) + (nI x))), (0, .ref 0), (1, .int (nI x)), (2, .int (nI y)), (3, .int what)], [.int (((nI 8) * (nI y)) + (nI x)), .ref 6], M)) (o := [shp 0 = (0, 9), shp 2 = (0, 8)]) rfl ⟨rfl, rfl⟩ ?_
    rw [show (((nI 8) * (nI y)) + (nI x)) = (nI ((8 * y) + x)) from (n_add (n_mul rfl rfl) rfl)]
    refine Wn.callV (p := 6) (n := 2) (ix := 184) (ci := (5)) (fun r0 M0 => r0 = some (.int (nI (pon σ ((8 * y) + x)))) ∧ M = M0) [.int (nI ((8 * y) + x))] [] rfl rfl rfl rfl (Nat.le_of_ble_eq_true rfl) (Nat.le_of_ble_eq_true rfl) (w_st_personsOn _ M 6 σ hS hB ((8 * y) + x) (by omega) _ ⟨rfl, rfl⟩) ?_
    rintro _ _ ⟨rfl, rfl⟩
    show Wn _ 6 _ (92, [(4, .int (nI ((8 * y) + x))), (0, .ref 0), (1, .int (nI x)), (2, .int (nI y)), (3, .int what)], [.int (nI (pon σ ((8 * y) + x)))], M)
    have pl9 := pon_lt hB ((8 * y) + x)
    exact Wn.iret rfl ⟨by unfold celN; rw [if_neg h1, if_neg h2, if_pos h3], rfl⟩
  rw [show tsw [0, 2, 93, 52, 66, 80] what = 93 from tsw_miss (by have zh1 := ne_toInt h1 (by decide); have zh2 := ne_toInt h2 (by decide); have zh3 := ne_toInt h3 (by decide); omega)]
  show Wn _ 6 _ (93, [(4, .int (((nI 8) * (nI y)) + (nI x))), (0, .ref 0), (1, .int (nI x)), (2, .int (nI y)), (3, .int what)], [], M)
  refine Wn.run (tab := tb_i_cell) rfl 1 (c' := (94, [(4, .int (((nI 8) * (nI y)) + (nI x))), (0, .ref 0), (1, .int (nI x)), (2, .int (nI y)), (3, .int what)], [.int (-1 : Int32)], M)) (o := []) rfl trivial ?_
  rw [show (((nI 8) * (nI y)) + (nI x)) = (nI ((8 * y) + x)) from (n_add (n_mul rfl rfl) rfl)]
  exact Wn.iret rfl ⟨by unfold celN; rw [if_neg h1, if_neg h2, if_neg h3], rfl⟩
set_option maxRecDepth 20000 in
theorem c_i_cellC (d : Nat) (M : Mm) (σ : Nat → Nat) (hS : StC M 6 σ) (hV : Inv σ) (x y what : Int32) (hnc : ¬ cI σ x y) : Wn (d + 1) 6 (PN M (some (.int (-1)))) (0, lv_args 0 [.ref 0, .int x, .int y, .int what], [], M) := by
  have hB := hV.1
  have hI := hV.2.1
  have c9_2 := Bd_2 hB
  have k90 := Bd_90 hB
  have l6 : lkp 6 = 3 := rfl
  refine Wn.run (tab := tb_i_cell) rfl 5 (c' := (9, [(0, .ref 0), (1, .int x), (2, .int y), (3, .int what)], [.int y, .int x, .ref 3], M)) (o := [shp 0 = (0, 9), shp 2 = (0, 8)]) rfl ⟨rfl, rfl⟩ ?_
  refine Wn.callV (p := 3) (n := 3) (ix := 173) (ci := (2)) (fun r0 M0 => r0 = some (.int (nI 0)) ∧ M = M0) [.int x, .int y] [] rfl rfl rfl rfl (Nat.le_of_ble_eq_true rfl) (Nat.le_of_ble_eq_true rfl) (w_lk_isCellF _ M 3 σ hS.2.1 hB x y hnc _ ⟨rfl, rfl⟩) ?_
  rintro _ _ ⟨rfl, rfl⟩
  show Wn _ 6 _ (12, [(0, .ref 0), (1, .int x), (2, .int y), (3, .int what)], [.int (nI 0)], M)
  refine Wn.run (tab := tb_i_cell) rfl 1 (c' := (if ¬ (nI 0) = 0 then 17 else 15, [(0, .ref 0), (1, .int x), (2, .int y), (3, .int what)], [], M)) (o := []) rfl trivial ?_
  rw [if_neg (show ¬ (¬ (nI 0) = 0) by decide)]
  show Wn _ 6 _ (15, [(0, .ref 0), (1, .int x), (2, .int y), (3, .int what)], [], M)
  refine Wn.run (tab := tb_i_cell) rfl 1 (c' := (16, [(0, .ref 0), (1, .int x), (2, .int y), (3, .int what)], [.int (-1 : Int32)], M)) (o := []) rfl trivial ?_
  exact Wn.iret rfl ⟨rfl, rfl⟩
set_option maxRecDepth 20000 in
theorem c_i_now (d : Nat) (M : Mm) (σ : Nat → Nat) (hS : StC M 6 σ) (hV : Inv σ) (what : Int32) : Wn (d + 3) 7 (PN M (some (.int (nowA σ what)))) (0, lv_args 0 [.ref 0, .int what], [], M) := by
  have hB := hV.1
  have hI := hV.2.1
  have c9_2 := Bd_2 hB
  have k90 := Bd_90 hB
  have l6 : lkp 6 = 3 := rfl
  refine Wn.run (tab := tb_i_now) rfl 6 (c' := (tsw [0, 7, 96, 56, 61, 66, 71, 76, 81, 86, 91] what, [(2, .ref 6), (0, .ref 0), (1, .int what)], [], M)) (o := [shp 0 = (0, 9), shp 2 = (0, 8)]) rfl ⟨rfl, rfl⟩ ?_
  by_cases h1 : what = (nI 0)
  · rw [show tsw [0, 7, 96, 56, 61, 66, 71, 76, 81, 86, 91] what = 56 from by rw [h1]; rfl]
    show Wn _ 7 _ (56, [(2, .ref 6), (0, .ref 0), (1, .int what)], [], M)
    refine Wn.run (tab := tb_i_now) rfl 2 (c' := (60, [(2, .ref 6), (0, .ref 0), (1, .int what)], [.int (M.1 6 7)], M)) (o := [shp 6 = (0, 5)]) rfl rfl ?_
    have c9_90 := Bd_90 hB
    rw [show (M.1 6 7) = (nI (σ 90)) from hS.2.2.1.2.2.1]
    exact Wn.iret rfl ⟨by unfold nowA; rw [if_pos h1], rfl⟩
  by_cases h2 : what = (nI 1)
  · rw [show tsw [0, 7, 96, 56, 61, 66, 71, 76, 81, 86, 91] what = 61 from by rw [h2]; rfl]
    show Wn _ 7 _ (61, [(2, .ref 6), (0, .ref 0), (1, .int what)], [], M)
    refine Wn.run (tab := tb_i_now) rfl 2 (c' := (65, [(2, .ref 6), (0, .ref 0), (1, .int what)], [.int (M.1 6 5)], M)) (o := [shp 6 = (0, 5)]) rfl rfl ?_
    have c9_91 := Bd_91 hB
    rw [show (M.1 6 5) = (nI (σ 91)) from hS.2.2.1.1]
    exact Wn.iret rfl ⟨by unfold nowA; rw [if_neg h1, if_pos h2], rfl⟩
  by_cases h3 : what = (nI 2)
  · rw [show tsw [0, 7, 96, 56, 61, 66, 71, 76, 81, 86, 91] what = 66 from by rw [h3]; rfl]
    show Wn _ 7 _ (66, [(2, .ref 6), (0, .ref 0), (1, .int what)], [], M)
    refine Wn.run (tab := tb_i_now) rfl 2 (c' := (70, [(2, .ref 6), (0, .ref 0), (1, .int what)], [.int (M.1 6 6)], M)) (o := [shp 6 = (0, 5)]) rfl rfl ?_
    have c9_92 := Bd_92 hB
    rw [show (M.1 6 6) = (nI (σ 92)) from hS.2.2.1.2.1]
    exact Wn.iret rfl ⟨by unfold nowA; rw [if_neg h1, if_neg h2, if_pos h3], rfl⟩
  by_cases h4 : what = (nI 3)
  · rw [show tsw [0, 7, 96, 56, 61, 66, 71, 76, 81, 86, 91] what = 71 from by rw [h4]; rfl]
    show Wn _ 7 _ (71, [(2, .ref 6), (0, .ref 0), (1, .int what)], [], M)
    refine Wn.run (tab := tb_i_now) rfl 1 (c' := (72, [(2, .ref 6), (0, .ref 0), (1, .int what)], [.ref 6], M)) (o := []) rfl trivial ?_
    refine Wn.callV (p := 6) (n := 1) (ix := 196) (ci := (5)) (fun r0 M0 => r0 = some (.int (nI (alI σ 64))) ∧ M = M0) [] [] rfl rfl rfl rfl (Nat.le_of_ble_eq_true rfl) (Nat.le_of_ble_eq_true rfl) (w_st_allIce _ M 6 σ hS hB  _ ⟨rfl, rfl⟩) ?_
    rintro _ _ ⟨rfl, rfl⟩
    show Wn _ 7 _ (75, [(2, .ref 6), (0, .ref 0), (1, .int what)], [.int (nI (alI σ 64))], M)
    exact Wn.iret rfl ⟨by unfold nowA; rw [if_neg h1, if_neg h2, if_neg h3, if_pos h4], rfl⟩
  by_cases h5 : what = (nI 4)
  · rw [show tsw [0, 7, 96, 56, 61, 66, 71, 76, 81, 86, 91] what = 76 from by rw [h5]; rfl]
    show Wn _ 7 _ (76, [(2, .ref 6), (0, .ref 0), (1, .int what)], [], M)
    refine Wn.run (tab := tb_i_now) rfl 1 (c' := (77, [(2, .ref 6), (0, .ref 0), (1, .int what)], [.ref 6], M)) (o := []) rfl trivial ?_
    refine Wn.callV (p := 6) (n := 1) (ix := 199) (ci := (5)) (fun r0 M0 => r0 = some (.int (nI (brN σ 64))) ∧ M = M0) [] [] rfl rfl rfl rfl (Nat.le_of_ble_eq_true rfl) (Nat.le_of_ble_eq_true rfl) (w_st_bareCells _ M 6 σ hS hB  _ ⟨rfl, rfl⟩) ?_
    rintro _ _ ⟨rfl, rfl⟩
    show Wn _ 7 _ (80, [(2, .ref 6), (0, .ref 0), (1, .int what)], [.int (nI (brN σ 64))], M)
    exact Wn.iret rfl ⟨by unfold nowA; rw [if_neg h1, if_neg h2, if_neg h3, if_neg h4, if_pos h5], rfl⟩
  by_cases h6 : what = (nI 5)
  · rw [show tsw [0, 7, 96, 56, 61, 66, 71, 76, 81, 86, 91] what = 81 from by rw [h6]; rfl]
    show Wn _ 7 _ (81, [(2, .ref 6), (0, .ref 0), (1, .int what)], [], M)
    refine Wn.run (tab := tb_i_now) rfl 2 (c' := (85, [(2, .ref 6), (0, .ref 0), (1, .int what)], [.int (M.1 6 8)], M)) (o := [shp 6 = (0, 5)]) rfl rfl ?_
    rw [show (M.1 6 8) = (nI (σ 93)) from hS.2.2.1.2.2.2.1]
    exact Wn.iret rfl ⟨by unfold nowA; rw [if_neg h1, if_neg h2, if_neg h3, if_neg h4, if_neg h5, if_pos h6], rfl⟩
  by_cases h7 : what = (nI 6)
  · rw [show tsw [0, 7, 96, 56, 61, 66, 71, 76, 81, 86, 91] what = 86 from by rw [h7]; rfl]
    show Wn _ 7 _ (86, [(2, .ref 6), (0, .ref 0), (1, .int what)], [], M)
    refine Wn.run (tab := tb_i_now) rfl 2 (c' := (90, [(2, .ref 6), (0, .ref 0), (1, .int what)], [.int (M.1 6 9)], M)) (o := [shp 6 = (0, 5)]) rfl rfl ?_
    rw [show (M.1 6 9) = (nI (σ 94)) from hS.2.2.1.2.2.2.2.1]
    exact Wn.iret rfl ⟨by unfold nowA; rw [if_neg h1, if_neg h2, if_neg h3, if_neg h4, if_neg h5, if_neg h6, if_pos h7], rfl⟩
  by_cases h8 : what = (nI 7)
  · rw [show tsw [0, 7, 96, 56, 61, 66, 71, 76, 81, 86, 91] what = 91 from by rw [h8]; rfl]
    show Wn _ 7 _ (91, [(2, .ref 6), (0, .ref 0), (1, .int what)], [], M)
    refine Wn.run (tab := tb_i_now) rfl 2 (c' := (95, [(2, .ref 6), (0, .ref 0), (1, .int what)], [.int (M.1 6 10)], M)) (o := [shp 6 = (0, 5)]) rfl rfl ?_
    rw [show (M.1 6 10) = (nI (σ 95)) from hS.2.2.1.2.2.2.2.2.1]
    exact Wn.iret rfl ⟨by unfold nowA; rw [if_neg h1, if_neg h2, if_neg h3, if_neg h4, if_neg h5, if_neg h6, if_neg h7, if_pos h8], rfl⟩
  rw [show tsw [0, 7, 96, 56, 61, 66, 71, 76, 81, 86, 91] what = 96 from tsw_miss (by have zh1 := ne_toInt h1 (by decide); have zh2 := ne_toInt h2 (by decide); have zh3 := ne_toInt h3 (by decide); have zh4 := ne_toInt h4 (by decide); have zh5 := ne_toInt h5 (by decide); have zh6 := ne_toInt h6 (by decide); have zh7 := ne_toInt h7 (by decide); have zh8 := ne_toInt h8 (by decide); omega)]
  show Wn _ 7 _ (96, [(2, .ref 6), (0, .ref 0), (1, .int what)], [], M)
  refine Wn.run (tab := tb_i_now) rfl 1 (c' := (97, [(2, .ref 6), (0, .ref 0), (1, .int what)], [.int (-1 : Int32)], M)) (o := []) rfl trivial ?_
  exact Wn.iret rfl ⟨by unfold nowA; rw [if_neg h1, if_neg h2, if_neg h3, if_neg h4, if_neg h5, if_neg h6, if_neg h7, if_neg h8], rfl⟩
set_option maxRecDepth 20000 in
theorem c_i_count (d : Nat) (M : Mm) (σ : Nat → Nat) (hS : StC M 6 σ) (hV : Inv σ) (what : Int32) : Wn (d + 0) 8 (PN M (some (.int (cntA σ (M.1 0 1) what)))) (0, lv_args 0 [.ref 0, .int what], [], M) := by
  have hB := hV.1
  have hI := hV.2.1
  have c9_2 := Bd_2 hB
  have k90 := Bd_90 hB
  have l6 : lkp 6 = 3 := rfl
  refine Wn.run (tab := tb_i_count) rfl 6 (c' := (tsw [0, 8, 105, 60, 65, 70, 75, 80, 85, 90, 95, 100] what, [(2, .ref 3), (0, .ref 0), (1, .int what)], [], M)) (o := [shp 0 = (0, 9), shp 2 = (0, 8)]) rfl ⟨rfl, rfl⟩ ?_
  by_cases h1 : what = (nI 0)
  · rw [show tsw [0, 8, 105, 60, 65, 70, 75, 80, 85, 90, 95, 100] what = 60 from by rw [h1]; rfl]
    show Wn _ 8 _ (60, [(2, .ref 3), (0, .ref 0), (1, .int what)], [], M)
    refine Wn.run (tab := tb_i_count) rfl 2 (c' := (64, [(2, .ref 3), (0, .ref 0), (1, .int what)], [.int (M.1 3 0)], M)) (o := [shp 3 = (0, 2)]) rfl rfl ?_
    have c9_0 := Bd_0 hB
    rw [show (M.1 3 0) = (nI (σ 0)) from (hS.2.1.2.2.2.1 0 (by decide))]
    exact Wn.iret rfl ⟨by unfold cntA; rw [if_neg (by rw [h1]; decide), if_pos h1], rfl⟩
  by_cases h2 : what = (nI 1)
  · rw [show tsw [0, 8, 105, 60, 65, 70, 75, 80, 85, 90, 95, 100] what = 65 from by rw [h2]; rfl]
    show Wn _ 8 _ (65, [(2, .ref 3), (0, .ref 0), (1, .int what)], [], M)
    refine Wn.run (tab := tb_i_count) rfl 2 (c' := (69, [(2, .ref 3), (0, .ref 0), (1, .int what)], [.int (M.1 3 1)], M)) (o := [shp 3 = (0, 2)]) rfl rfl ?_
    have c9_1 := Bd_1 hB
    rw [show (M.1 3 1) = (nI (σ 1)) from (hS.2.1.2.2.2.1 1 (by decide))]
    exact Wn.iret rfl ⟨by unfold cntA; rw [if_neg (by rw [h2]; decide), if_neg h1, if_pos h2], rfl⟩
  by_cases h3 : what = (nI 2)
  · rw [show tsw [0, 8, 105, 60, 65, 70, 75, 80, 85, 90, 95, 100] what = 70 from by rw [h3]; rfl]
    show Wn _ 8 _ (70, [(2, .ref 3), (0, .ref 0), (1, .int what)], [], M)
    refine Wn.run (tab := tb_i_count) rfl 2 (c' := (74, [(2, .ref 3), (0, .ref 0), (1, .int what)], [.int (M.1 3 2)], M)) (o := [shp 3 = (0, 2)]) rfl rfl ?_
    have c9_2 := Bd_2 hB
    rw [show (M.1 3 2) = (nI (σ 2)) from (hS.2.1.2.2.2.1 2 (by decide))]
    exact Wn.iret rfl ⟨by unfold cntA; rw [if_neg (by rw [h3]; decide), if_neg h1, if_neg h2, if_pos h3], rfl⟩
  by_cases h4 : what = (nI 3)
  · rw [show tsw [0, 8, 105, 60, 65, 70, 75, 80, 85, 90, 95, 100] what = 75 from by rw [h4]; rfl]
    show Wn _ 8 _ (75, [(2, .ref 3), (0, .ref 0), (1, .int what)], [], M)
    refine Wn.run (tab := tb_i_count) rfl 2 (c' := (79, [(2, .ref 3), (0, .ref 0), (1, .int what)], [.int (M.1 3 3)], M)) (o := [shp 3 = (0, 2)]) rfl rfl ?_
    have c9_3 := Bd_3 hB
    rw [show (M.1 3 3) = (nI (σ 3)) from (hS.2.1.2.2.2.1 3 (by decide))]
    exact Wn.iret rfl ⟨by unfold cntA; rw [if_neg (by rw [h4]; decide), if_neg h1, if_neg h2, if_neg h3, if_pos h4], rfl⟩
  by_cases h5 : what = (nI 4)
  · rw [show tsw [0, 8, 105, 60, 65, 70, 75, 80, 85, 90, 95, 100] what = 80 from by rw [h5]; rfl]
    show Wn _ 8 _ (80, [(2, .ref 3), (0, .ref 0), (1, .int what)], [], M)
    refine Wn.run (tab := tb_i_count) rfl 2 (c' := (84, [(2, .ref 3), (0, .ref 0), (1, .int what)], [.int (M.1 3 4)], M)) (o := [shp 3 = (0, 2)]) rfl rfl ?_
    have c9_4 := Bd_4 hB
    rw [show (M.1 3 4) = (nI (σ 4)) from (hS.2.1.2.2.2.1 4 (by decide))]
    exact Wn.iret rfl ⟨by unfold cntA; rw [if_neg (by rw [h5]; decide), if_neg h1, if_neg h2, if_neg h3, if_neg h4, if_pos h5], rfl⟩
  by_cases h6 : what = (nI 5)
  · rw [show tsw [0, 8, 105, 60, 65, 70, 75, 80, 85, 90, 95, 100] what = 85 from by rw [h6]; rfl]
    show Wn _ 8 _ (85, [(2, .ref 3), (0, .ref 0), (1, .int what)], [], M)
    refine Wn.run (tab := tb_i_count) rfl 2 (c' := (89, [(2, .ref 3), (0, .ref 0), (1, .int what)], [.int (M.1 3 5)], M)) (o := [shp 3 = (0, 2)]) rfl rfl ?_
    have c9_5 := Bd_5 hB
    rw [show (M.1 3 5) = (nI (σ 5)) from (hS.2.1.2.2.2.1 5 (by decide))]
    exact Wn.iret rfl ⟨by unfold cntA; rw [if_neg (by rw [h6]; decide), if_neg h1, if_neg h2, if_neg h3, if_neg h4, if_neg h5, if_pos h6], rfl⟩
  by_cases h7 : what = (nI 6)
  · rw [show tsw [0, 8, 105, 60, 65, 70, 75, 80, 85, 90, 95, 100] what = 90 from by rw [h7]; rfl]
    show Wn _ 8 _ (90, [(2, .ref 3), (0, .ref 0), (1, .int what)], [], M)
    refine Wn.run (tab := tb_i_count) rfl 2 (c' := (94, [(2, .ref 3), (0, .ref 0), (1, .int what)], [.int (M.1 3 6)], M)) (o := [shp 3 = (0, 2)]) rfl rfl ?_
    have c9_6 := Bd_6 hB
    rw [show (M.1 3 6) = (nI (σ 6)) from (hS.2.1.2.2.2.1 6 (by decide))]
    exact Wn.iret rfl ⟨by unfold cntA; rw [if_neg (by rw [h7]; decide), if_neg h1, if_neg h2, if_neg h3, if_neg h4, if_neg h5, if_neg h6, if_pos h7], rfl⟩
  by_cases h8 : what = (nI 7)
  · rw [show tsw [0, 8, 105, 60, 65, 70, 75, 80, 85, 90, 95, 100] what = 95 from by rw [h8]; rfl]
    show Wn _ 8 _ (95, [(2, .ref 3), (0, .ref 0), (1, .int what)], [], M)
    refine Wn.run (tab := tb_i_count) rfl 2 (c' := (99, [(2, .ref 3), (0, .ref 0), (1, .int what)], [.int (M.1 3 7)], M)) (o := [shp 3 = (0, 2)]) rfl rfl ?_
    have c9_7 := Bd_7 hB
    rw [show (M.1 3 7) = (nI (σ 7)) from (hS.2.1.2.2.2.1 7 (by decide))]
    exact Wn.iret rfl ⟨by unfold cntA; rw [if_neg (by rw [h8]; decide), if_neg h1, if_neg h2, if_neg h3, if_neg h4, if_neg h5, if_neg h6, if_neg h7, if_pos h8], rfl⟩
  by_cases h9 : what = (nI 8)
  · rw [show tsw [0, 8, 105, 60, 65, 70, 75, 80, 85, 90, 95, 100] what = 100 from by rw [h9]; rfl]
    show Wn _ 8 _ (100, [(2, .ref 3), (0, .ref 0), (1, .int what)], [], M)
    refine Wn.run (tab := tb_i_count) rfl 2 (c' := (104, [(2, .ref 3), (0, .ref 0), (1, .int what)], [.int (M.1 0 1)], M)) (o := [shp 0 = (0, 9)]) rfl rfl ?_
    exact Wn.iret rfl ⟨by unfold cntA; rw [if_pos h9], rfl⟩
  rw [show tsw [0, 8, 105, 60, 65, 70, 75, 80, 85, 90, 95, 100] what = 105 from tsw_miss (by have zh1 := ne_toInt h1 (by decide); have zh2 := ne_toInt h2 (by decide); have zh3 := ne_toInt h3 (by decide); have zh4 := ne_toInt h4 (by decide); have zh5 := ne_toInt h5 (by decide); have zh6 := ne_toInt h6 (by decide); have zh7 := ne_toInt h7 (by decide); have zh8 := ne_toInt h8 (by decide); have zh9 := ne_toInt h9 (by decide); omega)]
  show Wn _ 8 _ (105, [(2, .ref 3), (0, .ref 0), (1, .int what)], [], M)
  refine Wn.run (tab := tb_i_count) rfl 1 (c' := (106, [(2, .ref 3), (0, .ref 0), (1, .int what)], [.int (-1 : Int32)], M)) (o := []) rfl trivial ?_
  exact Wn.iret rfl ⟨by unfold cntA; rw [if_neg h9, if_neg h1, if_neg h2, if_neg h3, if_neg h4, if_neg h5, if_neg h6, if_neg h7, if_neg h8], rfl⟩
set_option maxRecDepth 20000 in
theorem c_i_stands (d : Nat) (M : Mm) (σ : Nat → Nat) (hS : StC M 6 σ) (hV : Inv σ) (q : Nat) (hq : q < σ 2) : Wn (d + 2) 25 (PN M (some (.int (if fal σ q = true then -1 else nI (stdA σ q))))) (0, lv_args 0 [.ref 0, .int (nI q)], [], M) := by
  have hB := hV.1
  have hI := hV.2.1
  have c9_2 := Bd_2 hB
  have k90 := Bd_90 hB
  have l6 : lkp 6 = 3 := rfl
  have f9 := Bd_q hB q (by omega)
  have g9 := Bd_c hB (σ (160 + q)) (by omega)
  have k6 := Bd_6 hB
  have hbr : ¬ fal σ q = true → ld σ (σ (160 + q)) ≤ σ (96 + σ (160 + q)) := hV.2.2.2 q hq
  refine Wn.run (tab := tb_i_stands) rfl 4 (c' := (8, [(0, .ref 0), (1, .int (nI q))], [.int (nI q), .ref 3], M)) (o := [shp 0 = (0, 9), shp 2 = (0, 8)]) rfl ⟨rfl, rfl⟩ ?_
  refine Wn.callV (p := 3) (n := 2) (ix := 133) (ci := (2)) (fun r0 M0 => r0 = some (.int (nI 1)) ∧ M = M0) [.int (nI q)] [] rfl rfl rfl rfl (Nat.le_of_ble_eq_true rfl) (Nat.le_of_ble_eq_true rfl) (w_lk_isPersonT _ M 3 σ hS.2.1 hB q (by omega) _ ⟨rfl, rfl⟩) ?_
  rintro _ _ ⟨rfl, rfl⟩
  show Wn _ 25 _ (11, [(0, .ref 0), (1, .int (nI q))], [.int (nI 1)], M)
  refine Wn.run (tab := tb_i_stands) rfl 1 (c' := (if (nI 1) = 0 then 28 else 14, [(0, .ref 0), (1, .int (nI q))], [], M)) (o := []) rfl trivial ?_
  rw [if_neg (show ¬ ((nI 1) = 0) by decide)]
  show Wn _ 25 _ (14, [(0, .ref 0), (1, .int (nI q))], [], M)
  refine Wn.run (tab := tb_i_stands) rfl 4 (c' := (22, [(0, .ref 0), (1, .int (nI q))], [.int (nI q), .ref 6], M)) (o := [shp 0 = (0, 9), shp 2 = (0, 8)]) rfl ⟨rfl, rfl⟩ ?_
  refine Wn.callV (p := 6) (n := 2) (ix := 158) (ci := (5)) (fun r0 M0 => r0 = some (.int (b2 (fal σ q = true))) ∧ M = M0) [.int (nI q)] [] rfl rfl rfl rfl (Nat.le_of_ble_eq_true rfl) (Nat.le_of_ble_eq_true rfl) (w_st_isFallen _ M 6 σ hS hB q (by omega) _ ⟨rfl, rfl⟩) ?_
  rintro _ _ ⟨rfl, rfl⟩
  show Wn _ 25 _ (25, [(0, .ref 0), (1, .int (nI q))], [.int (b2 (fal σ q = true))], M)
  refine Wn.run (tab := tb_i_stands) rfl 1 (c' := (if (b2 (fal σ q = true)) = 0 then 30 else 28, [(0, .ref 0), (1, .int (nI q))], [], M)) (o := []) rfl trivial ?_
  refine Wn.br (fun h1 => ?_) (fun h1 => ?_)
  · show Wn _ 25 _ (30, [(0, .ref 0), (1, .int (nI q))], [], M)
    have h1 := b2_neg h1
    have hb9 := hbr h1
    have f9 := Bd_q hB q (by omega)
    refine Wn.run (tab := tb_i_stands) rfl 18 (c' := (64, [(2, .int (M.1 8 ((nI q)).toNatClampNeg)), (0, .ref 0), (1, .int (nI q))], [.int (-1 : Int32), .int (M.1 8 ((nI q)).toNatClampNeg), .ref 6, .int (M.1 7 ((M.1 8 ((nI q)).toNatClampNeg)).toNatClampNeg)], M)) (o := [shp 0 = (0, 9), shp 2 = (0, 8), shp 6 = (0, 5), aok shp 8 0 (nI q), shp 0 = (0, 9), shp 2 = (0, 8), shp 6 = (0, 5), aok shp 7 0 (M.1 8 ((nI q)).toNatClampNeg), shp 0 = (0, 9), shp 2 = (0, 8)]) rfl ⟨rfl, rfl, rfl, (ak1 (n := 6) rfl rfl rfl (by omega)), rfl, rfl, rfl, (ak1 (n := 64) rfl rfl (rdq (v := fun z9 => σ (160 + z9)) hS.2.2.2.2.1 rfl (by omega) (by omega)) (by omega)), rfl, rfl⟩ ?_
    have f9 := Bd_q hB q (by omega)
    rw [show (M.1 8 ((nI q)).toNatClampNeg) = (nI (σ (160 + q))) from (rdq (v := fun z9 => σ (160 + z9)) hS.2.2.2.2.1 rfl (by omega) (by omega))]
    have f9 := Bd_q hB q (by omega)
    have g9 := Bd_c hB (σ (160 + q)) (by omega)
    rw [show (M.1 7 ((nI (σ (160 + q)))).toNatClampNeg) = (nI (σ (96 + (σ (160 + q))))) from (rdc hS.2.2.2.1 rfl (by omega) (hI q (by omega)))]
    refine Wn.callV (p := 6) (n := 3) (ix := 180) (ci := (5)) (fun r0 M0 => r0 = some (.int (nI (ld σ (σ (160 + q))))) ∧ M = M0) [.int (nI (σ (160 + q))), .int (-1 : Int32)] [.int (nI (σ (96 + (σ (160 + q)))))] rfl rfl rfl rfl (Nat.le_of_ble_eq_true rfl) (Nat.le_of_ble_eq_true rfl) (w_st_loadOnN _ M 6 σ hS hB (σ (160 + q)) (by omega) _ ⟨rfl, rfl⟩) ?_
    rintro _ _ ⟨rfl, rfl⟩
    show Wn _ 25 _ (67, [(2, .int (nI (σ (160 + q)))), (0, .ref 0), (1, .int (nI q))], [.int (nI (ld σ (σ (160 + q)))), .int (nI (σ (96 + (σ (160 + q)))))], M)
    have r9 := ld_le hB (σ (160 + q))
    refine Wn.run (tab := tb_i_stands) rfl 17 (c' := (98, [(3, .int ((nI (σ (96 + (σ (160 + q))))) - (nI (ld σ (σ (160 + q)))))), (2, .int (nI (σ (160 + q)))), (0, .ref 0), (1, .int (nI q))], [.int ((if (nI 0) < ((M.1 3 6) - (M.1 10 ((nI q)).toNatClampNeg)) then ((M.1 3 6) - (M.1 10 ((nI q)).toNatClampNeg)) else (nI 0)) + ((nI (σ (96 + (σ (160 + q))))) - (nI (ld σ (σ (160 + q))))))], M)) (o := [shp 0 = (0, 9), shp 2 = (0, 8), shp 3 = (0, 2), shp 0 = (0, 9), shp 2 = (0, 8), shp 6 = (0, 5), aok shp 10 0 (nI q), ct [] ≤ 8]) rfl ⟨rfl, rfl, rfl, rfl, rfl, rfl, (ak1 (n := 6) rfl rfl rfl (by omega)), (Nat.le_of_ble_eq_true rfl)⟩ ?_
    have c9_6 := Bd_6 hB
    rw [show (M.1 3 6) = (nI (σ 6)) from (hS.2.1.2.2.2.1 6 (by decide))]
    have f9 := Bd_q hB q (by omega)
    rw [show (M.1 10 ((nI q)).toNatClampNeg) = (nI (σ (172 + q))) from (rdq (v := fun z9 => σ (172 + z9)) hS.2.2.2.2.2.2 rfl (by omega) (by omega))]
    have c9_6 := Bd_6 hB
    have f9 := Bd_q hB q (by omega)
    have f9 := Bd_q hB q (by omega)
    have g9 := Bd_c hB (σ (160 + q)) (by omega)
    have r9 := ld_le hB (σ (160 + q))
    rw [show ((if (nI 0) < ((nI (σ 6)) - (nI (σ (172 + q)))) then ((nI (σ 6)) - (nI (σ (172 + q)))) else (nI 0)) + ((nI (σ (96 + (σ (160 + q))))) - (nI (ld σ (σ (160 + q)))))) = (nI (((σ 6) - (σ (172 + q))) + ((σ (96 + (σ (160 + q)))) - (ld σ (σ (160 + q)))))) from (n_add (n_max0 rfl rfl (by omega) (by omega)) (n_sub rfl rfl (by omega)))]
    have f9 := Bd_q hB q (by omega)
    have g9 := Bd_c hB (σ (160 + q)) (by omega)
    have r9 := ld_le hB (σ (160 + q))
    rw [show ((nI (σ (96 + (σ (160 + q))))) - (nI (ld σ (σ (160 + q))))) = (nI ((σ (96 + (σ (160 + q)))) - (ld σ (σ (160 + q))))) from (n_sub rfl rfl (by omega))]
    exact Wn.iret rfl ⟨by rw [if_neg h1]; unfold stdA; rw [Nat.add_sub_assoc hb9], rfl⟩
  · show Wn _ 25 _ (28, [(0, .ref 0), (1, .int (nI q))], [], M)
    have h1 := b2_pos h1
    refine Wn.run (tab := tb_i_stands) rfl 1 (c' := (29, [(0, .ref 0), (1, .int (nI q))], [.int (-1 : Int32)], M)) (o := []) rfl trivial ?_
    exact Wn.iret rfl ⟨by rw [if_pos h1], rfl⟩
set_option maxRecDepth 20000 in
theorem c_i_standsP (d : Nat) (M : Mm) (σ : Nat → Nat) (hS : StC M 6 σ) (hV : Inv σ) (q : Int32) (hnp : ¬ pI σ q) : Wn (d + 1) 25 (PN M (some (.int (-1)))) (0, lv_args 0 [.ref 0, .int q], [], M) := by
  have hB := hV.1
  have hI := hV.2.1
  have c9_2 := Bd_2 hB
  have k90 := Bd_90 hB
  have l6 : lkp 6 = 3 := rfl
  refine Wn.run (tab := tb_i_stands) rfl 4 (c' := (8, [(0, .ref 0), (1, .int q)], [.int q, .ref 3], M)) (o := [shp 0 = (0, 9), shp 2 = (0, 8)]) rfl ⟨rfl, rfl⟩ ?_
  refine Wn.callV (p := 3) (n := 2) (ix := 133) (ci := (2)) (fun r0 M0 => r0 = some (.int (nI 0)) ∧ M = M0) [.int q] [] rfl rfl rfl rfl (Nat.le_of_ble_eq_true rfl) (Nat.le_of_ble_eq_true rfl) (w_lk_isPersonF _ M 3 σ hS.2.1 hB q hnp _ ⟨rfl, rfl⟩) ?_
  rintro _ _ ⟨rfl, rfl⟩
  show Wn _ 25 _ (11, [(0, .ref 0), (1, .int q)], [.int (nI 0)], M)
  refine Wn.run (tab := tb_i_stands) rfl 1 (c' := (if (nI 0) = 0 then 28 else 14, [(0, .ref 0), (1, .int q)], [], M)) (o := []) rfl trivial ?_
  rw [if_pos (show (nI 0) = 0 by decide)]
  show Wn _ 25 _ (28, [(0, .ref 0), (1, .int q)], [], M)
  refine Wn.run (tab := tb_i_stands) rfl 1 (c' := (29, [(0, .ref 0), (1, .int q)], [.int (-1 : Int32)], M)) (o := []) rfl trivial ?_
  exact Wn.iret rfl ⟨rfl, rfl⟩
