/-- one object written, the rest kept -/
def PU (M0 : Mm) (p : Nat) (g : Nat → Int32) : Po := fun r0 M' => r0 = none ∧ M'.1 p = g ∧ M'.2 = M0.2 ∧ Fr [p] M0 M'
set_option maxRecDepth 20000 in
theorem c_lk_setUntold_16 (d : Nat) (M : Mm) (g : Nat → Int32) (hg : M.1 16 = g) : Wn (d + 0) 162 (PU M 16 (upd (upd (upd (upd (upd (upd (upd (upd g 0 (nI 5)) 1 (nI 5)) 2 (nI 0)) 3 (nI 2)) 4 (nI 1)) 5 (nI 5)) 6 (nI 3)) 7 (nI 6))) (0, lv_args 0 [.ref 16], [], M) := by
  have hF := fr_rf [16] M
  refine Wn.run (tab := tb_lk_setUntold) rfl 3 (c' := (5, [(0, .ref 16)], [], (mI M 16 (upd (M.1 16) 0 (nI 5))))) (o := [shp 16 = (0, 2)]) rfl rfl ?_
  generalize hM2 : (mI M 16 (upd (M.1 16) 0 (nI 5))) = M1
  have hk3 := fI_up hM2 hg
  have hF4 := fr_sI hF hM2 (by decide)
  show Wn _ 162 _ (5, [(0, .ref 16)], [], M1)
  refine Wn.run (tab := tb_lk_setUntold) rfl 3 (c' := (10, [(0, .ref 16)], [], (mI M1 16 (upd (M1.1 16) 1 (nI 5))))) (o := [shp 16 = (0, 2)]) rfl rfl ?_
  generalize hM6 : (mI M1 16 (upd (M1.1 16) 1 (nI 5))) = M5
  have hk7 := fI_up hM6 hk3
  have hF8 := fr_sI hF4 hM6 (by decide)
  show Wn _ 162 _ (10, [(0, .ref 16)], [], M5)
  refine Wn.run (tab := tb_lk_setUntold) rfl 3 (c' := (15, [(0, .ref 16)], [], (mI M5 16 (upd (M5.1 16) 2 (nI 0))))) (o := [shp 16 = (0, 2)]) rfl rfl ?_
  generalize hM10 : (mI M5 16 (upd (M5.1 16) 2 (nI 0))) = M9
  have hk11 := fI_up hM10 hk7
  have hF12 := fr_sI hF8 hM10 (by decide)
  show Wn _ 162 _ (15, [(0, .ref 16)], [], M9)
  refine Wn.run (tab := tb_lk_setUntold) rfl 3 (c' := (20, [(0, .ref 16)], [], (mI M9 16 (upd (M9.1 16) 3 (nI 2))))) (o := [shp 16 = (0, 2)]) rfl rfl ?_
  generalize hM14 : (mI M9 16 (upd (M9.1 16) 3 (nI 2))) = M13
  have hk15 := fI_up hM14 hk11
  have hF16 := fr_sI hF12 hM14 (by decide)
  show Wn _ 162 _ (20, [(0, .ref 16)], [], M13)
  refine Wn.run (tab := tb_lk_setUntold) rfl 3 (c' := (25, [(0, .ref 16)], [], (mI M13 16 (upd (M13.1 16) 4 (nI 1))))) (o := [shp 16 = (0, 2)]) rfl rfl ?_
  generalize hM18 : (mI M13 16 (upd (M13.1 16) 4 (nI 1))) = M17
  have hk19 := fI_up hM18 hk15
  have hF20 := fr_sI hF16 hM18 (by decide)
  show Wn _ 162 _ (25, [(0, .ref 16)], [], M17)
  refine Wn.run (tab := tb_lk_setUntold) rfl 3 (c' := (30, [(0, .ref 16)], [], (mI M17 16 (upd (M17.1 16) 5 (nI 5))))) (o := [shp 16 = (0, 2)]) rfl rfl ?_
  generalize hM22 : (mI M17 16 (upd (M17.1 16) 5 (nI 5))) = M21
  have hk23 := fI_up hM22 hk19
  have hF24 := fr_sI hF20 hM22 (by decide)
  show Wn _ 162 _ (30, [(0, .ref 16)], [], M21)
  refine Wn.run (tab := tb_lk_setUntold) rfl 3 (c' := (35, [(0, .ref 16)], [], (mI M21 16 (upd (M21.1 16) 6 (nI 3))))) (o := [shp 16 = (0, 2)]) rfl rfl ?_
  generalize hM26 : (mI M21 16 (upd (M21.1 16) 6 (nI 3))) = M25
  have hk27 := fI_up hM26 hk23
  have hF28 := fr_sI hF24 hM26 (by decide)
  show Wn _ 162 _ (35, [(0, .ref 16)], [], M25)
  refine Wn.run (tab := tb_lk_setUntold) rfl 3 (c' := (41, [(0, .ref 16)], [], (mI M25 16 (upd (M25.1 16) 7 (nI 6))))) (o := [shp 16 = (0, 2)]) rfl rfl ?_
  generalize hM30 : (mI M25 16 (upd (M25.1 16) 7 (nI 6))) = M29
  have hk31 := fI_up hM30 hk27
  have hF32 := fr_sI hF28 hM30 (by decide)
  show Wn _ 162 _ (41, [(0, .ref 16)], [], M29)
  exact Wn.vret rfl ⟨rfl, hk31, by rw [← hM30, ← hM26, ← hM22, ← hM18, ← hM14, ← hM10, ← hM6, ← hM2]; rfl, hF32⟩
set_option maxRecDepth 20000 in
theorem c_sn_clear_24 (d : Nat) (M : Mm) (g : Nat → Int32) (hg : M.1 24 = g) : Wn (d + 0) 185 (PU M 24 (upd (upd g 3 (nI 0)) 4 (nI 0))) (0, lv_args 0 [.ref 24], [], M) := by
  have hF := fr_rf [24] M
  refine Wn.run (tab := tb_sn_clear) rfl 3 (c' := (5, [(0, .ref 24)], [], (mI M 24 (upd (M.1 24) 3 (nI 0))))) (o := [shp 24 = (0, 4)]) rfl rfl ?_
  generalize hM2 : (mI M 24 (upd (M.1 24) 3 (nI 0))) = M1
  have hk3 := fI_up hM2 hg
  have hF4 := fr_sI hF hM2 (by decide)
  show Wn _ 185 _ (5, [(0, .ref 24)], [], M1)
  refine Wn.run (tab := tb_sn_clear) rfl 3 (c' := (10, [(0, .ref 24)], [], (mI M1 24 (upd (M1.1 24) 4 (nI 0))))) (o := [shp 24 = (0, 4)]) rfl rfl ?_
  generalize hM6 : (mI M1 24 (upd (M1.1 24) 4 (nI 0))) = M5
  have hk7 := fI_up hM6 hk3
  have hF8 := fr_sI hF4 hM6 (by decide)
  show Wn _ 185 _ (10, [(0, .ref 24)], [], M5)
  exact Wn.vret rfl ⟨rfl, hk7, by rw [← hM6, ← hM2]; rfl, hF8⟩
set_option maxRecDepth 20000 in
theorem c_hy_clear_35 (d : Nat) (M : Mm) (g : Nat → Int32) (hg : M.1 35 = g) : Wn (d + 0) 157 (PU M 35 (upd g 2 (nI 0))) (0, lv_args 0 [.ref 35], [], M) := by
  have hF := fr_rf [35] M
  refine Wn.run (tab := tb_hy_clear) rfl 3 (c' := (5, [(0, .ref 35)], [], (mI M 35 (upd (M.1 35) 2 (nI 0))))) (o := [shp 35 = (0, 1)]) rfl rfl ?_
  generalize hM2 : (mI M 35 (upd (M.1 35) 2 (nI 0))) = M1
  have hk3 := fI_up hM2 hg
  have hF4 := fr_sI hF hM2 (by decide)
  show Wn _ 157 _ (5, [(0, .ref 35)], [], M1)
  exact Wn.vret rfl ⟨rfl, hk3, by rw [← hM2]; rfl, hF4⟩
