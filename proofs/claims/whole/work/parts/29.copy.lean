theorem cpy_at {M M' : Mm} {p q n : Nat} (hM : mI M p (va_cpy (M.1 q) (M.1 p) 0 0 n) = M') : ∀ k, k < n → M'.1 p k = M.1 q k := by
  intro k hk
  rw [mI_eq hM]
  unfold va_cpy
  rw [if_pos (by omega), Nat.sub_zero, Nat.zero_add]
theorem cpyJ_at {M M' : Mm} {p q n : Nat} (hM : mJ M p (va_cpy (M.2.1 q) (M.2.1 p) 0 0 n) = M') : ∀ k, k < n → M'.2.1 p k = M.2.1 q k := by
  intro k hk
  rw [mJ_eq hM]
  unfold va_cpy
  rw [if_pos (by omega), Nat.sub_zero, Nat.zero_add]
set_option maxRecDepth 20000 in
theorem c_st_copyFrom (d : Nat) (M : Mm) (b c : Nat) (σ : Nat → Nat) (hL : Lay b) (hK : LkC M (lkp b) σ) (hS : StC M c σ) (hd : c + 5 ≤ b ∨ b + 5 ≤ c) (hd2 : lkp c + 2 < b ∨ b + 5 ≤ lkp c) (w x : Int32) (hw : M.1 b 11 = w) (hx : M.1 b 12 = x) : Wn (d + 0) 199 (PS b M σ w x none) (0, lv_args 0 [.ref b, .ref c], [], M) := by
  have hF := fr_rf [b, (b + 1), (b + 2), (b + 3), (b + 4)] M
  have h26 := hS.2.2.1.2.2.2.2.2.2
  have lb := hL.2.2.2.2.2.2.2.2
  refine Wn.run (tab := tb_st_copyFrom) rfl 8 (c' := (15, [(0, .ref b), (1, .ref c)], [], (mI M (b + 1) (va_cpy (M.1 (c + 1)) (M.1 (b + 1)) 0 0 64)))) (o := [shp c = (0, 5), shp b = (0, 5), (nI 0) = 0, (nI 0) = 0, ¬ (nI 64) < 0, (shp (c + 1)).1 = 1, (shp (b + 1)).1 = 1, 64 ≤ (shp (c + 1)).2, 64 ≤ (shp (b + 1)).2, ct [] ≤ 8]) rfl ⟨hS.1.1, hL.1, rfl, rfl, (by decide), (by rw [hS.1.2.1]), (by rw [hL.2.1]), (by rw [show (shp (c + 1)).2 = 64 from by rw [hS.1.2.1]]; exact Nat.le_refl _), (by rw [show (shp (b + 1)).2 = 64 from by rw [hL.2.1]]; exact Nat.le_refl _), (Nat.le_of_ble_eq_true rfl)⟩ ?_
  generalize hM2 : (mI M (b + 1) (va_cpy (M.1 (c + 1)) (M.1 (b + 1)) 0 0 64)) = M1
  have hg3 : ∀ k, (k < 64 ∧ inL σ k) → M1.1 (b + 1) k = nI (σ (96 + k)) := fun k hk => (cpy_at hM2 k hk.1).trans (hS.2.2.2.1 k hk.1 hk.2)
  have hs4 := st_ne hM2 hS (by omega)
  have hF5 := fr_sI hF hM2 (by simp)
  have hc6 := cl_ne hM2 (by omega) hw
  have hc7 := cl_ne hM2 (by omega) hx
  show Wn _ 199 _ (15, [(0, .ref b), (1, .ref c)], [], M1)
  refine Wn.run (tab := tb_st_copyFrom) rfl 8 (c' := (30, [(0, .ref b), (1, .ref c)], [], (mI M1 (b + 2) (va_cpy (M1.1 (c + 2)) (M1.1 (b + 2)) 0 0 6)))) (o := [shp c = (0, 5), shp b = (0, 5), (nI 0) = 0, (nI 0) = 0, ¬ (nI 6) < 0, (shp (c + 2)).1 = 1, (shp (b + 2)).1 = 1, 6 ≤ (shp (c + 2)).2, 6 ≤ (shp (b + 2)).2, ct [] ≤ 8]) rfl ⟨hs4.1.1, hL.1, rfl, rfl, (by decide), (by rw [hs4.1.2.2.1]), (by rw [hL.2.2.1]), (by rw [show (shp (c + 2)).2 = 6 from by rw [hs4.1.2.2.1]]; exact Nat.le_refl _), (by rw [show (shp (b + 2)).2 = 6 from by rw [hL.2.2.1]]; exact Nat.le_refl _), (Nat.le_of_ble_eq_true rfl)⟩ ?_
  generalize hM9 : (mI M1 (b + 2) (va_cpy (M1.1 (c + 2)) (M1.1 (b + 2)) 0 0 6)) = M8
  have hg10 : ∀ k, k < σ 2 → M8.1 (b + 2) k = nI (σ (160 + k)) := fun k hk => (cpy_at hM9 k (show k < 6 by omega)).trans (hs4.2.2.2.2.1 k hk)
  have hs11 := st_ne hM9 hs4 (by omega)
  have hF12 := fr_sI hF5 hM9 (by simp)
  have hc13 := cl_ne hM9 (by omega) hc6
  have hc14 := cl_ne hM9 (by omega) hc7
  have hg15 := gr_ne hM9 (by omega) hg3
  show Wn _ 199 _ (30, [(0, .ref b), (1, .ref c)], [], M8)
  refine Wn.run (tab := tb_st_copyFrom) rfl 8 (c' := (45, [(0, .ref b), (1, .ref c)], [], (mI M8 (b + 3) (va_cpy (M8.1 (c + 3)) (M8.1 (b + 3)) 0 0 6)))) (o := [shp c = (0, 5), shp b = (0, 5), (nI 0) = 0, (nI 0) = 0, ¬ (nI 6) < 0, (shp (c + 3)).1 = 1, (shp (b + 3)).1 = 1, 6 ≤ (shp (c + 3)).2, 6 ≤ (shp (b + 3)).2, ct [] ≤ 8]) rfl ⟨hs11.1.1, hL.1, rfl, rfl, (by decide), (by rw [hs11.1.2.2.2.1]), (by rw [hL.2.2.2.1]), (by rw [show (shp (c + 3)).2 = 6 from by rw [hs11.1.2.2.2.1]]; exact Nat.le_refl _), (by rw [show (shp (b + 3)).2 = 6 from by rw [hL.2.2.2.1]]; exact Nat.le_refl _), (Nat.le_of_ble_eq_true rfl)⟩ ?_
  generalize hM17 : (mI M8 (b + 3) (va_cpy (M8.1 (c + 3)) (M8.1 (b + 3)) 0 0 6)) = M16
  have hg18 : ∀ k, k < σ 2 → M16.1 (b + 3) k = nI (σ (166 + k)) := fun k hk => (cpy_at hM17 k (show k < 6 by omega)).trans (hs11.2.2.2.2.2.1 k hk)
  have hs19 := st_ne hM17 hs11 (by omega)
  have hF20 := fr_sI hF12 hM17 (by simp)
  have hc21 := cl_ne hM17 (by omega) hc13
  have hc22 := cl_ne hM17 (by omega) hc14
  have hg23 := gr_ne hM17 (by omega) hg15
  have hg24 := gr_ne hM17 (by omega) hg10
  show Wn _ 199 _ (45, [(0, .ref b), (1, .ref c)], [], M16)
  refine Wn.run (tab := tb_st_copyFrom) rfl 8 (c' := (60, [(0, .ref b), (1, .ref c)], [], (mI M16 (b + 4) (va_cpy (M16.1 (c + 4)) (M16.1 (b + 4)) 0 0 6)))) (o := [shp c = (0, 5), shp b = (0, 5), (nI 0) = 0, (nI 0) = 0, ¬ (nI 6) < 0, (shp (c + 4)).1 = 1, (shp (b + 4)).1 = 1, 6 ≤ (shp (c + 4)).2, 6 ≤ (shp (b + 4)).2, ct [] ≤ 8]) rfl ⟨hs19.1.1, hL.1, rfl, rfl, (by decide), (by rw [hs19.1.2.2.2.2.1]), (by rw [hL.2.2.2.2.1]), (by rw [show (shp (c + 4)).2 = 6 from by rw [hs19.1.2.2.2.2.1]]; exact Nat.le_refl _), (by rw [show (shp (b + 4)).2 = 6 from by rw [hL.2.2.2.2.1]]; exact Nat.le_refl _), (Nat.le_of_ble_eq_true rfl)⟩ ?_
  generalize hM26 : (mI M16 (b + 4) (va_cpy (M16.1 (c + 4)) (M16.1 (b + 4)) 0 0 6)) = M25
  have hg27 : ∀ k, k < σ 2 → M25.1 (b + 4) k = nI (σ (172 + k)) := fun k hk => (cpy_at hM26 k (show k < 6 by omega)).trans (hs19.2.2.2.2.2.2 k hk)
  have hs28 := st_ne hM26 hs19 (by omega)
  have hF29 := fr_sI hF20 hM26 (by simp)
  have hc30 := cl_ne hM26 (by omega) hc21
  have hc31 := cl_ne hM26 (by omega) hc22
  have hg32 := gr_ne hM26 (by omega) hg23
  have hg33 := gr_ne hM26 (by omega) hg24
  have hg34 := gr_ne hM26 (by omega) hg18
  show Wn _ 199 _ (60, [(0, .ref b), (1, .ref c)], [], M25)
  refine Wn.run (tab := tb_st_copyFrom) rfl 4 (c' := (68, [(0, .ref b), (1, .ref c)], [], (mI M25 b (upd (M25.1 b) 5 (M25.1 c 5))))) (o := [shp c = (0, 5), shp b = (0, 5)]) rfl ⟨hs28.1.1, hL.1⟩ ?_
  rw [show (M25.1 c 5) = (nI (σ 91)) from hs28.2.2.1.1]
  generalize hM36 : (mI M25 b (upd (M25.1 b) 5 (nI (σ 91)))) = M35
  have hs37 := st_ne hM36 hs28 (by omega)
  have hF38 := fr_sI hF29 hM36 (by simp)
  have hc39 := cl_nx hM36 (by decide) hc30
  have hc40 := cl_nx hM36 (by decide) hc31
  have hg41 := gr_ne hM36 (by omega) hg32
  have hg42 := gr_ne hM36 (by omega) hg33
  have hg43 := gr_ne hM36 (by omega) hg34
  have hg44 := gr_ne hM36 (by omega) hg27
  show Wn _ 199 _ (68, [(0, .ref b), (1, .ref c)], [], M35)
  have hc45 := cl_eq hM36
  refine Wn.run (tab := tb_st_copyFrom) rfl 4 (c' := (76, [(0, .ref b), (1, .ref c)], [], (mI M35 b (upd (M35.1 b) 6 (M35.1 c 6))))) (o := [shp c = (0, 5), shp b = (0, 5)]) rfl ⟨hs37.1.1, hL.1⟩ ?_
  rw [show (M35.1 c 6) = (nI (σ 92)) from hs37.2.2.1.2.1]
  generalize hM47 : (mI M35 b (upd (M35.1 b) 6 (nI (σ 92)))) = M46
  have hs48 := st_ne hM47 hs37 (by omega)
  have hF49 := fr_sI hF38 hM47 (by simp)
  have hc50 := cl_nx hM47 (by decide) hc39
  have hc51 := cl_nx hM47 (by decide) hc40
  have hg52 := gr_ne hM47 (by omega) hg41
  have hg53 := gr_ne hM47 (by omega) hg42
  have hg54 := gr_ne hM47 (by omega) hg43
  have hg55 := gr_ne hM47 (by omega) hg44
  have hc56 := cl_nx hM47 (by decide) hc45
  show Wn _ 199 _ (76, [(0, .ref b), (1, .ref c)], [], M46)
  have hc57 := cl_eq hM47
  refine Wn.run (tab := tb_st_copyFrom) rfl 4 (c' := (84, [(0, .ref b), (1, .ref c)], [], (mI M46 b (upd (M46.1 b) 7 (M46.1 c 7))))) (o := [shp c = (0, 5), shp b = (0, 5)]) rfl ⟨hs48.1.1, hL.1⟩ ?_
  rw [show (M46.1 c 7) = (nI (σ 90)) from hs48.2.2.1.2.2.1]
  generalize hM59 : (mI M46 b (upd (M46.1 b) 7 (nI (σ 90)))) = M58
  have hs60 := st_ne hM59 hs48 (by omega)
  have hF61 := fr_sI hF49 hM59 (by simp)
  have hc62 := cl_nx hM59 (by decide) hc50
  have hc63 := cl_nx hM59 (by decide) hc51
  have hg64 := gr_ne hM59 (by omega) hg52
  have hg65 := gr_ne hM59 (by omega) hg53
  have hg66 := gr_ne hM59 (by omega) hg54
  have hg67 := gr_ne hM59 (by omega) hg55
  have hc68 := cl_nx hM59 (by decide) hc56
  have hc69 := cl_nx hM59 (by decide) hc57
  show Wn _ 199 _ (84, [(0, .ref b), (1, .ref c)], [], M58)
  have hc70 := cl_eq hM59
  refine Wn.run (tab := tb_st_copyFrom) rfl 4 (c' := (92, [(0, .ref b), (1, .ref c)], [], (mI M58 b (upd (M58.1 b) 8 (M58.1 c 8))))) (o := [shp c = (0, 5), shp b = (0, 5)]) rfl ⟨hs60.1.1, hL.1⟩ ?_
  rw [show (M58.1 c 8) = (nI (σ 93)) from hs60.2.2.1.2.2.2.1]
  generalize hM72 : (mI M58 b (upd (M58.1 b) 8 (nI (σ 93)))) = M71
  have hs73 := st_ne hM72 hs60 (by omega)
  have hF74 := fr_sI hF61 hM72 (by simp)
  have hc75 := cl_nx hM72 (by decide) hc62
  have hc76 := cl_nx hM72 (by decide) hc63
  have hg77 := gr_ne hM72 (by omega) hg64
  have hg78 := gr_ne hM72 (by omega) hg65
  have hg79 := gr_ne hM72 (by omega) hg66
  have hg80 := gr_ne hM72 (by omega) hg67
  have hc81 := cl_nx hM72 (by decide) hc68
  have hc82 := cl_nx hM72 (by decide) hc69
  have hc83 := cl_nx hM72 (by decide) hc70
  show Wn _ 199 _ (92, [(0, .ref b), (1, .ref c)], [], M71)
  have hc84 := cl_eq hM72
  refine Wn.run (tab := tb_st_copyFrom) rfl 4 (c' := (100, [(0, .ref b), (1, .ref c)], [], (mI M71 b (upd (M71.1 b) 9 (M71.1 c 9))))) (o := [shp c = (0, 5), shp b = (0, 5)]) rfl ⟨hs73.1.1, hL.1⟩ ?_
  rw [show (M71.1 c 9) = (nI (σ 94)) from hs73.2.2.1.2.2.2.2.1]
  generalize hM86 : (mI M71 b (upd (M71.1 b) 9 (nI (σ 94)))) = M85
  have hs87 := st_ne hM86 hs73 (by omega)
  have hF88 := fr_sI hF74 hM86 (by simp)
  have hc89 := cl_nx hM86 (by decide) hc75
  have hc90 := cl_nx hM86 (by decide) hc76
  have hg91 := gr_ne hM86 (by omega) hg77
  have hg92 := gr_ne hM86 (by omega) hg78
  have hg93 := gr_ne hM86 (by omega) hg79
  have hg94 := gr_ne hM86 (by omega) hg80
  have hc95 := cl_nx hM86 (by decide) hc81
  have hc96 := cl_nx hM86 (by decide) hc82
  have hc97 := cl_nx hM86 (by decide) hc83
  have hc98 := cl_nx hM86 (by decide) hc84
  show Wn _ 199 _ (100, [(0, .ref b), (1, .ref c)], [], M85)
  have hc99 := cl_eq hM86
  refine Wn.run (tab := tb_st_copyFrom) rfl 4 (c' := (108, [(0, .ref b), (1, .ref c)], [], (mI M85 b (upd (M85.1 b) 10 (M85.1 c 10))))) (o := [shp c = (0, 5), shp b = (0, 5)]) rfl ⟨hs87.1.1, hL.1⟩ ?_
  rw [show (M85.1 c 10) = (nI (σ 95)) from hs87.2.2.1.2.2.2.2.2.1]
  generalize hM101 : (mI M85 b (upd (M85.1 b) 10 (nI (σ 95)))) = M100
  have hs102 := st_ne hM101 hs87 (by omega)
  have hF103 := fr_sI hF88 hM101 (by simp)
  have hc104 := cl_nx hM101 (by decide) hc89
  have hc105 := cl_nx hM101 (by decide) hc90
  have hg106 := gr_ne hM101 (by omega) hg91
  have hg107 := gr_ne hM101 (by omega) hg92
  have hg108 := gr_ne hM101 (by omega) hg93
  have hg109 := gr_ne hM101 (by omega) hg94
  have hc110 := cl_nx hM101 (by decide) hc95
  have hc111 := cl_nx hM101 (by decide) hc96
  have hc112 := cl_nx hM101 (by decide) hc97
  have hc113 := cl_nx hM101 (by decide) hc98
  have hc114 := cl_nx hM101 (by decide) hc99
  show Wn _ 199 _ (108, [(0, .ref b), (1, .ref c)], [], M100)
  have hc115 := cl_eq hM101
  have hK9 : LkC M100 (lkp b) σ := LkC_fr hK (hF103 _ (by simp; omega)).1 (hF103 _ (by simp; omega)).1
  exact Wn.vret rfl ⟨rfl, ⟨hL, hK9, ⟨hc110, hc111, hc112, hc113, hc114, hc115, h26⟩, fun k hk hi => hg106 k ⟨hk, hi⟩, hg107, hg108, hg109⟩, hc104, hc105, hF103⟩
