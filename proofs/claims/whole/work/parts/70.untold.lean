/-- the draft of the class, nothing told -/
def PSt (M0 : Mm) (g : Nat → Int32) : Po := fun r0 M' => r0 = none ∧ M'.1 19 = g ∧ (∀ k, k < 64 → M'.1 20 k = nI ((fun _ => 5 : Nat → Nat) k)) ∧ (∀ k, k < 6 → M'.1 23 k = nI ((fun _ => 0 : Nat → Nat) k)) ∧ Fr [19, 20, 23] M0 M'
set_option maxRecDepth 20000 in
theorem c_st_setUntold (d : Nat) (M : Mm) (g : Nat → Int32) (hg : M.1 19 = g) : Wn (d + 1) 198 (PSt M (upd (upd (upd (upd (upd (upd g 5 (nI 0)) 6 (nI 0)) 7 (nI 0)) 8 (nI 0)) 9 (nI 0)) 10 (nI 0))) (0, lv_args 0 [.ref 19], [], M) := by
  have hF := fr_rf [19, 20, 23] M
  refine Wn.run (tab := tb_st_setUntold) rfl 3 (c' := (5, [(0, .ref 19)], [.int (nI 5), .ref 20], M)) (o := [shp 19 = (0, 5)]) rfl rfl ?_
  refine Wn.callS (n := 2) (ix := 28) (PF 20 64 (nI 5) M) [.ref 20, .int (nI 5)] [] rfl rfl rfl (Nat.le_of_ble_eq_true rfl) (Nat.le_of_ble_eq_true rfl) (c_ja_fill _ M 20 64 (nI 5) rfl (by decide)) ?_
  rintro _ M1 ⟨rfl, hl2, hF3⟩
  show Wn _ 198 _ (8, [(0, .ref 19)], [], M1)
  have hk4 := frI_fun hF3 (by decide) hg
  have hF5 := fr_tr hF hF3 (by decide)
  refine Wn.run (tab := tb_st_setUntold) rfl 3 (c' := (13, [(0, .ref 19)], [.int (nI 0), .ref 23], M1)) (o := [shp 19 = (0, 5)]) rfl rfl ?_
  refine Wn.callS (n := 2) (ix := 28) (PF 23 6 (nI 0) M1) [.ref 23, .int (nI 0)] [] rfl rfl rfl (Nat.le_of_ble_eq_true rfl) (Nat.le_of_ble_eq_true rfl) (c_ja_fill _ M1 23 6 (nI 0) rfl (by decide)) ?_
  rintro _ M6 ⟨rfl, hl7, hF8⟩
  show Wn _ 198 _ (16, [(0, .ref 19)], [], M6)
  have hk9 := frI_fun hF8 (by decide) hk4
  have hF10 := fr_tr hF5 hF8 (by decide)
  have hk11 := fr_row hF8 (by decide) hl2
  refine Wn.run (tab := tb_st_setUntold) rfl 3 (c' := (21, [(0, .ref 19)], [], (mI M6 19 (upd (M6.1 19) 5 (nI 0))))) (o := [shp 19 = (0, 5)]) rfl rfl ?_
  generalize hM13 : (mI M6 19 (upd (M6.1 19) 5 (nI 0))) = M12
  have hk14 := fI_up hM13 hk9
  have hF15 := fr_sI hF10 hM13 (by decide)
  have hk16 := row_ne hM13 (by decide) hk11
  have hk17 := row_ne hM13 (by decide) hl7
  show Wn _ 198 _ (21, [(0, .ref 19)], [], M12)
  refine Wn.run (tab := tb_st_setUntold) rfl 3 (c' := (26, [(0, .ref 19)], [], (mI M12 19 (upd (M12.1 19) 6 (nI 0))))) (o := [shp 19 = (0, 5)]) rfl rfl ?_
  generalize hM19 : (mI M12 19 (upd (M12.1 19) 6 (nI 0))) = M18
  have hk20 := fI_up hM19 hk14
  have hF21 := fr_sI hF15 hM19 (by decide)
  have hk22 := row_ne hM19 (by decide) hk16
  have hk23 := row_ne hM19 (by decide) hk17
  show Wn _ 198 _ (26, [(0, .ref 19)], [], M18)
  refine Wn.run (tab := tb_st_setUntold) rfl 3 (c' := (31, [(0, .ref 19)], [], (mI M18 19 (upd (M18.1 19) 7 (nI 0))))) (o := [shp 19 = (0, 5)]) rfl rfl ?_
  generalize hM25 : (mI M18 19 (upd (M18.1 19) 7 (nI 0))) = M24
  have hk26 := fI_up hM25 hk20
  have hF27 := fr_sI hF21 hM25 (by decide)
  have hk28 := row_ne hM25 (by decide) hk22
  have hk29 := row_ne hM25 (by decide) hk23
  show Wn _ 198 _ (31, [(0, .ref 19)], [], M24)
  refine Wn.run (tab := tb_st_setUntold) rfl 3 (c' := (36, [(0, .ref 19)], [], (mI M24 19 (upd (M24.1 19) 8 (nI 0))))) (o := [shp 19 = (0, 5)]) rfl rfl ?_
  generalize hM31 : (mI M24 19 (upd (M24.1 19) 8 (nI 0))) = M30
  have hk32 := fI_up hM31 hk26
  have hF33 := fr_sI hF27 hM31 (by decide)
  have hk34 := row_ne hM31 (by decide) hk28
  have hk35 := row_ne hM31 (by decide) hk29
  show Wn _ 198 _ (36, [(0, .ref 19)], [], M30)
  refine Wn.run (tab := tb_st_setUntold) rfl 3 (c' := (41, [(0, .ref 19)], [], (mI M30 19 (upd (M30.1 19) 9 (nI 0))))) (o := [shp 19 = (0, 5)]) rfl rfl ?_
  generalize hM37 : (mI M30 19 (upd (M30.1 19) 9 (nI 0))) = M36
  have hk38 := fI_up hM37 hk32
  have hF39 := fr_sI hF33 hM37 (by decide)
  have hk40 := row_ne hM37 (by decide) hk34
  have hk41 := row_ne hM37 (by decide) hk35
  show Wn _ 198 _ (41, [(0, .ref 19)], [], M36)
  refine Wn.run (tab := tb_st_setUntold) rfl 3 (c' := (46, [(0, .ref 19)], [], (mI M36 19 (upd (M36.1 19) 10 (nI 0))))) (o := [shp 19 = (0, 5)]) rfl rfl ?_
  generalize hM43 : (mI M36 19 (upd (M36.1 19) 10 (nI 0))) = M42
  have hk44 := fI_up hM43 hk38
  have hF45 := fr_sI hF39 hM43 (by decide)
  have hk46 := row_ne hM43 (by decide) hk40
  have hk47 := row_ne hM43 (by decide) hk41
  show Wn _ 198 _ (46, [(0, .ref 19)], [], M42)
  exact Wn.vret rfl ⟨rfl, hk44, hk46, hk47, hF45⟩
