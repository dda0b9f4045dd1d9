/-- the class's draft, nothing told: lake, state, sentence -/
def PSc (M0 : Mm) : Po := fun r0 M' => r0 = none ∧ M'.1 16 = (upd (upd (upd (upd (upd (upd (upd (upd (M0.1 16) 0 (nI 5)) 1 (nI 5)) 2 (nI 0)) 3 (nI 2)) 4 (nI 1)) 5 (nI 5)) 6 (nI 3)) 7 (nI 6)) ∧ M'.1 19 = (upd (upd (upd (upd (upd (upd (M0.1 19) 5 (nI 0)) 6 (nI 0)) 7 (nI 0)) 8 (nI 0)) 9 (nI 0)) 10 (nI 0)) ∧ M'.1 24 = (upd (upd (M0.1 24) 3 (nI 0)) 4 (nI 0)) ∧ (∀ k, k < 64 → M'.1 20 k = nI ((fun _ => 5 : Nat → Nat) k)) ∧ (∀ k, k < 6 → M'.1 23 k = nI ((fun _ => 0 : Nat → Nat) k)) ∧ Fr [16, 19, 20, 23, 24] M0 M'
set_option maxRecDepth 20000 in
theorem c_sc_setUntold (d : Nat) (M : Mm) : Wn (d + 2) 182 (PSc M) (0, lv_args 0 [.ref 15], [], M) := by
  have hF := fr_rf [16, 19, 20, 23, 24] M
  have hl : M.1 16 = M.1 16 := rfl
  have hs : M.1 19 = M.1 19 := rfl
  have hn : M.1 24 = M.1 24 := rfl
  refine Wn.run (tab := tb_sc_setUntold) rfl 2 (c' := (4, [(0, .ref 15)], [.ref 16], M)) (o := [shp 15 = (0, 8)]) rfl rfl ?_
  refine Wn.callV (p := 16) (n := 1) (ix := 32) (ci := (2)) (PU M 16 (upd (upd (upd (upd (upd (upd (upd (upd (M.1 16) 0 (nI 5)) 1 (nI 5)) 2 (nI 0)) 3 (nI 2)) 4 (nI 1)) 5 (nI 5)) 6 (nI 3)) 7 (nI 6))) [] [] rfl rfl rfl rfl (Nat.le_of_ble_eq_true rfl) (Nat.le_of_ble_eq_true rfl) (c_lk_setUntold_16 _ M (M.1 16) hl) ?_
  rintro _ M1 ⟨rfl, hg2, hs4, hF3⟩
  show Wn _ 182 _ (7, [(0, .ref 15)], [], M1)
  have hk5 := frI_fun hF3 (by decide) hs
  have hk6 := frI_fun hF3 (by decide) hn
  have hF7 := fr_tr hF hF3 (by decide)
  refine Wn.run (tab := tb_sc_setUntold) rfl 2 (c' := (11, [(0, .ref 15)], [.ref 19], M1)) (o := [shp 15 = (0, 8)]) rfl rfl ?_
  refine Wn.callV (p := 19) (n := 1) (ix := 35) (ci := (5)) (PSt M1 (upd (upd (upd (upd (upd (upd (M.1 19) 5 (nI 0)) 6 (nI 0)) 7 (nI 0)) 8 (nI 0)) 9 (nI 0)) 10 (nI 0))) [] [] rfl rfl rfl rfl (Nat.le_of_ble_eq_true rfl) (Nat.le_of_ble_eq_true rfl) (c_st_setUntold _ M1 (M.1 19) hk5) ?_
  rintro _ M8 ⟨rfl, hg9, ha10, hb11, hF12⟩
  show Wn _ 182 _ (14, [(0, .ref 15)], [], M8)
  have hk13 := frI_fun hF12 (by decide) hg2
  have hk14 := frI_fun hF12 (by decide) hk6
  have hF15 := fr_tr hF7 hF12 (by decide)
  refine Wn.run (tab := tb_sc_setUntold) rfl 2 (c' := (18, [(0, .ref 15)], [.ref 24], M8)) (o := [shp 15 = (0, 8)]) rfl rfl ?_
  refine Wn.callV (p := 24) (n := 1) (ix := 36) (ci := (4)) (PU M8 24 (upd (upd (M.1 24) 3 (nI 0)) 4 (nI 0))) [] [] rfl rfl rfl rfl (Nat.le_of_ble_eq_true rfl) (Nat.le_of_ble_eq_true rfl) (c_sn_clear_24 _ M8 (M.1 24) hk14) ?_
  rintro _ M16 ⟨rfl, hg17, hs19, hF18⟩
  show Wn _ 182 _ (21, [(0, .ref 15)], [], M16)
  have hk20 := frI_fun hF18 (by decide) hk13
  have hk21 := frI_fun hF18 (by decide) hg9
  have hF22 := fr_tr hF15 hF18 (by decide)
  have hk23 := fr_row hF18 (by decide) ha10
  have hk24 := fr_row hF18 (by decide) hb11
  exact Wn.vret rfl ⟨rfl, hk20, hk21, hg17, hk23, hk24, hF22⟩
