set_option maxRecDepth 20000 in
theorem c_st_tryGo (d : Nat) (M : Mm) (b : Nat) (σ : Nat → Nat) (hS : StC M b σ) (hB : Bd σ) (w x : Int32) (hw : M.1 b 11 = w) (hx : M.1 b 12 = x) (hI : Inl σ) (q s : Nat) (hq : q < σ 2) (hs : s < 4) : Wn (d + 4) 213 (PS b M (gof σ q s) w x (some (.int (nI (wgo σ q s))))) (0, lv_args 0 [.ref b, .int (nI q), .int (nI s)], [], M) := by
  have hF := fr_rf [b, (b + 1), (b + 2), (b + 3), (b + 4)] M
  have c9_2 := Bd_2 hB
  have f9 := Bd_q hB q (by omega)
  refine Wn.run (tab := tb_st_tryGo) rfl 3 (c' := (3, [(0, .ref b), (1, .int (nI q)), (2, .int (nI s))], [.int (nI s), .int (nI q), .ref b], M)) (o := []) rfl trivial ?_
  refine Wn.callV (p := b) (n := 3) (ix := 86) (ci := (5)) (fun r0 M0 => r0 = some (.int (nI (wgo σ q s))) ∧ M = M0) [.int (nI q), .int (nI s)] [] rfl rfl rfl hS.1.1 (Nat.le_of_ble_eq_true rfl) (Nat.le_of_ble_eq_true rfl) (w_st_whyNotGo _ M b σ hS hB hI q s (by omega) (by omega) _ ⟨rfl, rfl⟩) ?_
  rintro _ _ ⟨rfl, rfl⟩
  show Wn _ 213 _ (6, [(0, .ref b), (1, .int (nI q)), (2, .int (nI s))], [.int (nI (wgo σ q s))], M)
  have wl9 := wgo_le σ q s
  refine Wn.run (tab := tb_st_tryGo) rfl 3 (c' := (if ¬ (nI (wgo σ q s)) = 0 then 31 else 11, [(3, .int (nI (wgo σ q s))), (0, .ref b), (1, .int (nI q)), (2, .int (nI s))], [], M)) (o := []) rfl trivial ?_
  refine Wn.br (fun h1 => ?_) (fun h1 => ?_)
  · show Wn _ 213 _ (31, [(3, .int (nI (wgo σ q s))), (0, .ref b), (1, .int (nI q)), (2, .int (nI s))], [], M)
    have h1 := mt (n_eq rfl nI_0.symm (by omega) (by omega)).mpr h1
    refine Wn.run (tab := tb_st_tryGo) rfl 1 (c' := (32, [(3, .int (nI (wgo σ q s))), (0, .ref b), (1, .int (nI q)), (2, .int (nI s))], [.int (nI (wgo σ q s))], M)) (o := []) rfl trivial ?_
    rw [gof_no h1]
    exact Wn.iret rfl ⟨rfl, hS, hw, hx, hF⟩
  · show Wn _ 213 _ (11, [(3, .int (nI (wgo σ q s))), (0, .ref b), (1, .int (nI q)), (2, .int (nI s))], [], M)
    have h1 := (n_eq rfl nI_0.symm (by omega) (by omega)).mp (Classical.not_not.mp h1)
    have h1 : wgo σ q s = 0 := by omega
    obtain ⟨k1, hb1, hf1, hl1⟩ := wgo_some h1
    have hk1 := bes_lt hB (by omega) hb1
    refine Wn.run (tab := tb_st_tryGo) rfl 10 (c' := (27, [(3, .int (nI (wgo σ q s))), (0, .ref b), (1, .int (nI q)), (2, .int (nI s))], [.int (nI s), .int (M.1 (b + 2) ((nI q)).toNatClampNeg), .ref (lkp b), .int (nI q), .ref (b + 2)], M)) (o := [shp b = (0, 5), shp b = (0, 5), shp b = (0, 5), aok shp (b + 2) 0 (nI q)]) rfl ⟨hS.1.1, hS.1.1, hS.1.1, (ak2 hS.1.2.2.1 rfl (by omega))⟩ ?_
    have f9 := Bd_q hB q (by omega)
    rw [show (M.1 (b + 2) ((nI q)).toNatClampNeg) = (nI (σ (160 + q))) from (rdq (v := fun z9 => σ (160 + z9)) hS.2.2.2.2.1 rfl (by omega) (by omega))]
    refine Wn.callV (p := (lkp b)) (n := 3) (ix := 98) (ci := (2)) (fun r0 M0 => r0 = some (.int (oI (bes σ (σ (160 + q)) s))) ∧ M = M0) [.int (nI (σ (160 + q))), .int (nI s)] [.int (nI q), .ref (b + 2)] rfl rfl rfl hS.2.1.1 (Nat.le_of_ble_eq_true rfl) (Nat.le_of_ble_eq_true rfl) (w_lk_beside _ M (lkp b) σ hS.2.1 hB (σ (160 + q)) s (by omega) (by omega) _ ⟨rfl, rfl⟩) ?_
    rintro _ _ ⟨rfl, rfl⟩
    show Wn _ 213 _ (30, [(3, .int (nI (wgo σ q s))), (0, .ref b), (1, .int (nI q)), (2, .int (nI s))], [.int (oI (bes σ (σ (160 + q)) s)), .int (nI q), .ref (b + 2)], M)
    rw [hb1]
    show Wn _ 213 _ (30, [(3, .int (nI (wgo σ q s))), (0, .ref b), (1, .int (nI q)), (2, .int (nI s))], [.int (nI k1), .int (nI q), .ref (b + 2)], M)
    refine Wn.run (tab := tb_st_tryGo) rfl 1 (c' := (31, [(3, .int (nI (wgo σ q s))), (0, .ref b), (1, .int (nI q)), (2, .int (nI s))], [], (mI M (b + 2) (upd (M.1 (b + 2)) ((nI q)).toNatClampNeg (nI k1))))) (o := [aok shp (b + 2) 0 (nI q)]) rfl (ak2 hS.1.2.2.1 rfl (by omega)) ?_
    generalize hM2 : (mI M (b + 2) (upd (M.1 (b + 2)) ((nI q)).toNatClampNeg (nI k1))) = M1
    have hs3 : StC M1 b (su σ (160 + q) k1) := st_at hM2 hS (cl1 rfl (by omega)) (by omega) rfl
    have hc4 := cl_ne hM2 (by omega) hw
    have hc5 := cl_ne hM2 (by omega) hx
    have hF6 := fr_sI hF hM2 (by simp)
    show Wn _ 213 _ (31, [(3, .int (nI (wgo σ q s))), (0, .ref b), (1, .int (nI q)), (2, .int (nI s))], [], M1)
    refine Wn.run (tab := tb_st_tryGo) rfl 1 (c' := (32, [(3, .int (nI (wgo σ q s))), (0, .ref b), (1, .int (nI q)), (2, .int (nI s))], [.int (nI (wgo σ q s))], M1)) (o := []) rfl trivial ?_
    rw [show gof σ q s = su σ (160 + q) k1 from by unfold gof; rw [hb1]; exact if_pos h1]
    exact Wn.iret rfl ⟨rfl, hs3, hc4, hc5, hF6⟩
set_option maxRecDepth 20000 in
theorem c_st_tryBow (d : Nat) (M : Mm) (b : Nat) (σ : Nat → Nat) (hS : StC M b σ) (hB : Bd σ) (w x : Int32) (hw : M.1 b 11 = w) (hx : M.1 b 12 = x) (hI : Inl σ) (q : Nat) (hq : q < σ 2) : Wn (d + 2) 215 (PS b M (bowf σ q) w x (some (.int (nI (wbw σ q))))) (0, lv_args 0 [.ref b, .int (nI q)], [], M) := by
  have hF := fr_rf [b, (b + 1), (b + 2), (b + 3), (b + 4)] M
  have c9_2 := Bd_2 hB
  have f9 := Bd_q hB q (by omega)
  have wl9 : wbw σ q ≤ 2 := by unfold wbw; split <;> (try split) <;> omega
  have k92 := Bd_92 hB
  refine Wn.run (tab := tb_st_tryBow) rfl 2 (c' := (2, [(0, .ref b), (1, .int (nI q))], [.int (nI q), .ref b], M)) (o := []) rfl trivial ?_
  refine Wn.callV (p := b) (n := 2) (ix := 104) (ci := (5)) (fun r0 M0 => r0 = some (.int (nI (wbw σ q))) ∧ M = M0) [.int (nI q)] [] rfl rfl rfl hS.1.1 (Nat.le_of_ble_eq_true rfl) (Nat.le_of_ble_eq_true rfl) (w_st_whyNotBow _ M b σ hS hB q (by omega) _ ⟨rfl, rfl⟩) ?_
  rintro _ _ ⟨rfl, rfl⟩
  show Wn _ 215 _ (5, [(0, .ref b), (1, .int (nI q))], [.int (nI (wbw σ q))], M)
  refine Wn.run (tab := tb_st_tryBow) rfl 3 (c' := (if ¬ (nI (wbw σ q)) = 0 then 79 else 10, [(2, .int (nI (wbw σ q))), (0, .ref b), (1, .int (nI q))], [], M)) (o := []) rfl trivial ?_
  refine Wn.br (fun h1 => ?_) (fun h1 => ?_)
  · show Wn _ 215 _ (79, [(2, .int (nI (wbw σ q))), (0, .ref b), (1, .int (nI q))], [], M)
    have h1 := mt (n_eq rfl nI_0.symm (by omega) (by omega)).mpr h1
    refine Wn.run (tab := tb_st_tryBow) rfl 1 (c' := (80, [(2, .int (nI (wbw σ q))), (0, .ref b), (1, .int (nI q))], [.int (nI (wbw σ q))], M)) (o := []) rfl trivial ?_
    rw [show bowf σ q = σ from if_neg h1]
    exact Wn.iret rfl ⟨rfl, hS, hw, hx, hF⟩
  · show Wn _ 215 _ (10, [(2, .int (nI (wbw σ q))), (0, .ref b), (1, .int (nI q))], [], M)
    have h1 := (n_eq rfl nI_0.symm (by omega) (by omega)).mp (Classical.not_not.mp h1)
    refine Wn.run (tab := tb_st_tryBow) rfl 8 (c' := (22, [(2, .int (nI (wbw σ q))), (0, .ref b), (1, .int (nI q))], [], (mI M b (upd (M.1 b) 6 ((M.1 b 6) ||| ((nI 1) <<< ((nI q) &&& 31))))))) (o := [shp b = (0, 5), shp b = (0, 5)]) rfl ⟨hS.1.1, hS.1.1⟩ ?_
    have c9_92 := Bd_92 hB
    rw [show (M.1 b 6) = (nI (σ 92)) from hS.2.2.1.2.1]
    have c9_92 := Bd_92 hB
    have p9 := pow_lt6 (q := q) (by omega)
    rw [show ((nI (σ 92)) ||| ((nI 1) <<< ((nI q) &&& 31))) = (nI ((σ 92) ||| (2 ^ q))) from (n_or rfl (n_shl rfl (by omega)) (by omega) (by omega))]
    generalize hM2 : (mI M b (upd (M.1 b) 6 (nI ((σ 92) ||| (2 ^ q))))) = M1
    have c9_92 := Bd_92 hB
    have p9 := pow_lt6 (q := q) (by omega)
    have hs3 : StC M1 b (su σ 92 ((σ 92) ||| (2 ^ q))) := st_f6 hM2 hS rfl
    have hc4 := cl_nx hM2 (by decide) hw
    have hc5 := cl_nx hM2 (by decide) hx
    have hF6 := fr_sI hF hM2 (by simp)
    show Wn _ 215 _ (22, [(2, .int (nI (wbw σ q))), (0, .ref b), (1, .int (nI q))], [], M1)
    refine Wn.run (tab := tb_st_tryBow) rfl 6 (c' := (32, [(2, .int (nI (wbw σ q))), (0, .ref b), (1, .int (nI q))], [], (mI M1 b (upd (M1.1 b) 8 ((M1.1 b 8) + (nI 1)))))) (o := [shp b = (0, 5), shp b = (0, 5)]) rfl ⟨hs3.1.1, hs3.1.1⟩ ?_
    rw [show (M1.1 b 8) = (nI (σ 93)) from (r_ne hs3.2.2.1.2.2.2.1 (by omega))]
    rw [show ((nI (σ 93)) + (nI 1)) = (nI ((σ 93) + 1)) from (n_add rfl rfl)]
    generalize hM8 : (mI M1 b (upd (M1.1 b) 8 (nI ((σ 93) + 1)))) = M7
    have hs9 : StC M7 b (su (su σ 92 ((σ 92) ||| (2 ^ q))) 93 ((σ 93) + 1)) := st_f8 hM8 hs3 rfl
    have hc10 := cl_nx hM8 (by decide) hc4
    have hc11 := cl_nx hM8 (by decide) hc5
    have hF12 := fr_sI hF6 hM8 (by simp)
    show Wn _ 215 _ (32, [(2, .int (nI (wbw σ q))), (0, .ref b), (1, .int (nI q))], [], M7)
    refine Wn.run (tab := tb_st_tryBow) rfl 18 (c' := (61, [(2, .int (nI (wbw σ q))), (0, .ref b), (1, .int (nI q))], [], (mI M7 (b + 1) (upd (M7.1 (b + 1)) ((M7.1 (b + 2) ((nI q)).toNatClampNeg)).toNatClampNeg (if ((M7.1 (b + 1) ((M7.1 (b + 2) ((nI q)).toNatClampNeg)).toNatClampNeg) + (nI 1)) < (nI 9) then ((M7.1 (b + 1) ((M7.1 (b + 2) ((nI q)).toNatClampNeg)).toNatClampNeg) + (nI 1)) else (nI 9)))))) (o := [shp b = (0, 5), shp b = (0, 5), aok shp (b + 2) 0 (nI q), shp b = (0, 5), shp b = (0, 5), aok shp (b + 2) 0 (nI q), aok shp (b + 1) 0 (M7.1 (b + 2) ((nI q)).toNatClampNeg), ct [.int (M7.1 (b + 2) ((nI q)).toNatClampNeg), .ref (b + 1)] ≤ 8, aok shp (b + 1) 0 (M7.1 (b + 2) ((nI q)).toNatClampNeg)]) rfl ⟨hs9.1.1, hs9.1.1, (ak2 hs9.1.2.2.1 rfl (by omega)), hs9.1.1, hs9.1.1, (ak2 hs9.1.2.2.1 rfl (by omega)), (ak2 hs9.1.2.1 (r_ne (r_ne (rdq (v := fun z9 => (su (su σ 92 ((σ 92) ||| (2 ^ q))) 93 ((σ 93) + 1)) (160 + z9)) hs9.2.2.2.2.1 rfl (lt_su (by omega) (lt_su (by omega) (by omega))) (by omega)) (by omega)) (by omega)) (by omega)), (Nat.le_of_ble_eq_true rfl), (ak2 hs9.1.2.1 (r_ne (r_ne (rdq (v := fun z9 => (su (su σ 92 ((σ 92) ||| (2 ^ q))) 93 ((σ 93) + 1)) (160 + z9)) hs9.2.2.2.2.1 rfl (lt_su (by omega) (lt_su (by omega) (by omega))) (by omega)) (by omega)) (by omega)) (by omega))⟩ ?_
    have f9 := Bd_q hB q (by omega)
    rw [show (M7.1 (b + 2) ((nI q)).toNatClampNeg) = (nI (σ (160 + q))) from (r_ne (r_ne (rdq (v := fun z9 => (su (su σ 92 ((σ 92) ||| (2 ^ q))) 93 ((σ 93) + 1)) (160 + z9)) hs9.2.2.2.2.1 rfl (lt_su (by omega) (lt_su (by omega) (by omega))) (by omega)) (by omega)) (by omega))]
    have f9 := Bd_q hB q (by omega)
    have g9 := Bd_c hB (σ (160 + q)) (by omega)
    rw [show (M7.1 (b + 1) ((nI (σ (160 + q)))).toNatClampNeg) = (nI (σ (96 + (σ (160 + q))))) from (r_ne (r_ne (rdc hs9.2.2.2.1 rfl (by omega) ((inL_su (by omega)).mpr ((inL_su (by omega)).mpr (hI q (by omega))))) (by omega)) (by omega))]
    have f9 := Bd_q hB q (by omega)
    have g9 := Bd_c hB (σ (160 + q)) (by omega)
    have i9 : (if 9 < ((σ (96 + (σ (160 + q)))) + 1) then 9 else ((σ (96 + (σ (160 + q)))) + 1)) ≤ 9 := by split <;> omega
    rw [show (if ((nI (σ (96 + (σ (160 + q))))) + (nI 1)) < (nI 9) then ((nI (σ (96 + (σ (160 + q))))) + (nI 1)) else (nI 9)) = (nI (if 9 < ((σ (96 + (σ (160 + q)))) + 1) then 9 else ((σ (96 + (σ (160 + q)))) + 1))) from (n_minI (n_add rfl rfl) rfl (by omega) (by omega))]
    generalize hM14 : (mI M7 (b + 1) (upd (M7.1 (b + 1)) ((nI (σ (160 + q)))).toNatClampNeg (nI (if 9 < ((σ (96 + (σ (160 + q)))) + 1) then 9 else ((σ (96 + (σ (160 + q)))) + 1))))) = M13
    have f9 := Bd_q hB q (by omega)
    have f9 := Bd_q hB q (by omega)
    have g9 := Bd_c hB (σ (160 + q)) (by omega)
    have i9 : (if 9 < ((σ (96 + (σ (160 + q)))) + 1) then 9 else ((σ (96 + (σ (160 + q)))) + 1)) ≤ 9 := by split <;> omega
    have hs15 : StC M13 b (su (su (su σ 92 ((σ 92) ||| (2 ^ q))) 93 ((σ 93) + 1)) (96 + (σ (160 + q))) (if 9 < ((σ (96 + (σ (160 + q)))) + 1) then 9 else ((σ (96 + (σ (160 + q)))) + 1))) := st_ice hM14 hs9 (cl1 rfl (by omega)) (by omega) rfl
    have hc16 := cl_ne hM14 (by omega) hc10
    have hc17 := cl_ne hM14 (by omega) hc11
    have hF18 := fr_sI hF12 hM14 (by simp)
    show Wn _ 215 _ (61, [(2, .int (nI (wbw σ q))), (0, .ref b), (1, .int (nI q))], [], M13)
    refine Wn.run (tab := tb_st_tryBow) rfl 12 (c' := (79, [(2, .int (nI (wbw σ q))), (0, .ref b), (1, .int (nI q))], [], (mI M13 (b + 3) (upd (M13.1 (b + 3)) ((nI q)).toNatClampNeg (if (nI 0) < ((M13.1 (b + 3) ((nI q)).toNatClampNeg) - (nI 1)) then ((M13.1 (b + 3) ((nI q)).toNatClampNeg) - (nI 1)) else (nI 0)))))) (o := [shp b = (0, 5), shp b = (0, 5), aok shp (b + 3) 0 (nI q), ct [.int (nI q), .ref (b + 3)] ≤ 8, aok shp (b + 3) 0 (nI q)]) rfl ⟨hs15.1.1, hs15.1.1, (ak2 hs15.1.2.2.2.1 rfl (by omega)), (Nat.le_of_ble_eq_true rfl), (ak2 hs15.1.2.2.2.1 rfl (by omega))⟩ ?_
    have f9 := Bd_q hB q (by omega)
    rw [show (M13.1 (b + 3) ((nI q)).toNatClampNeg) = (nI (σ (166 + q))) from (r_ne (r_ne (r_ne (rdq (v := fun z9 => (su (su (su σ 92 ((σ 92) ||| (2 ^ q))) 93 ((σ 93) + 1)) (96 + (σ (160 + q))) (if 9 < ((σ (96 + (σ (160 + q)))) + 1) then 9 else ((σ (96 + (σ (160 + q)))) + 1))) (166 + z9)) hs15.2.2.2.2.2.1 rfl (lt_su (by omega) (lt_su (by omega) (lt_su (by omega) (by omega)))) (by omega)) (by omega)) (by omega)) (by omega))]
    have f9 := Bd_q hB q (by omega)
    rw [show (if (nI 0) < ((nI (σ (166 + q))) - (nI 1)) then ((nI (σ (166 + q))) - (nI 1)) else (nI 0)) = (nI ((σ (166 + q)) - 1)) from (n_max0 rfl rfl (by omega) (by omega))]
    generalize hM20 : (mI M13 (b + 3) (upd (M13.1 (b + 3)) ((nI q)).toNatClampNeg (nI ((σ (166 + q)) - 1)))) = M19
    have f9 := Bd_q hB q (by omega)
    have hs21 : StC M19 b (su (su (su (su σ 92 ((σ 92) ||| (2 ^ q))) 93 ((σ 93) + 1)) (96 + (σ (160 + q))) (if 9 < ((σ (96 + (σ (160 + q)))) + 1) then 9 else ((σ (96 + (σ (160 + q)))) + 1))) (166 + q) ((σ (166 + q)) - 1)) := st_tem hM20 hs15 (cl1 rfl (by omega)) (by omega) rfl
    have hc22 := cl_ne hM20 (by omega) hc16
    have hc23 := cl_ne hM20 (by omega) hc17
    have hF24 := fr_sI hF18 hM20 (by simp)
    show Wn _ 215 _ (79, [(2, .int (nI (wbw σ q))), (0, .ref b), (1, .int (nI q))], [], M19)
    refine Wn.run (tab := tb_st_tryBow) rfl 1 (c' := (80, [(2, .int (nI (wbw σ q))), (0, .ref b), (1, .int (nI q))], [.int (nI (wbw σ q))], M19)) (o := []) rfl trivial ?_
    have e9 : bowf σ q = (su (su (su (su σ 92 ((σ 92) ||| (2 ^ q))) 93 ((σ 93) + 1)) (96 + (σ (160 + q))) (if 9 < ((σ (96 + (σ (160 + q)))) + 1) then 9 else ((σ (96 + (σ (160 + q)))) + 1))) (166 + q) ((σ (166 + q)) - 1)) := by
      unfold bowf bend
      rw [if_pos (by omega)]
      rw [su_comm (i := 93) (j := 96 + σ (160 + q)) (by omega), su_comm (i := 92) (j := 96 + σ (160 + q)) (by omega), su_comm (i := 93) (j := 166 + q) (by omega), su_comm (i := 92) (j := 166 + q) (by omega)]
    rw [e9]
    exact Wn.iret rfl ⟨rfl, hs21, hc22, hc23, hF24⟩
set_option maxRecDepth 20000 in
theorem c_st_thin (d : Nat) (M : Mm) (b : Nat) (σ : Nat → Nat) (hS : StC M b σ) (hB : Bd σ) (w x : Int32) (hw : M.1 b 11 = w) (hx : M.1 b 12 = x) (c : Nat) (hc : c < 64) (hin : inL σ c) : Wn (d + 2) 218 (PS b M (thn σ c) w x none) (0, lv_args 0 [.ref b, .int (nI c)], [], M) := by
  have hF := fr_rf [b, (b + 1), (b + 2), (b + 3), (b + 4)] M
  have c9_2 := Bd_2 hB
  have g9 := Bd_c hB c hc
  have k91 := Bd_91 hB
  refine Wn.run (tab := tb_st_thin) rfl 12 (c' := (18, [(0, .ref b), (1, .int (nI c))], [], (mI M (b + 1) (upd (M.1 (b + 1)) ((nI c)).toNatClampNeg (if (nI 0) < ((M.1 (b + 1) ((nI c)).toNatClampNeg) - (nI 1)) then ((M.1 (b + 1) ((nI c)).toNatClampNeg) - (nI 1)) else (nI 0)))))) (o := [shp b = (0, 5), shp b = (0, 5), aok shp (b + 1) 0 (nI c), ct [.int (nI c), .ref (b + 1)] ≤ 8, aok shp (b + 1) 0 (nI c)]) rfl ⟨hS.1.1, hS.1.1, (ak2 hS.1.2.1 rfl (by omega)), (Nat.le_of_ble_eq_true rfl), (ak2 hS.1.2.1 rfl (by omega))⟩ ?_
  have g9 := Bd_c hB c (by omega)
  rw [show (M.1 (b + 1) ((nI c)).toNatClampNeg) = (nI (σ (96 + c))) from (rdc hS.2.2.2.1 rfl (by omega) hin)]
  have g9 := Bd_c hB c (by omega)
  rw [show (if (nI 0) < ((nI (σ (96 + c))) - (nI 1)) then ((nI (σ (96 + c))) - (nI 1)) else (nI 0)) = (nI ((σ (96 + c)) - 1)) from (n_max0 rfl rfl (by omega) (by omega))]
  generalize hM2 : (mI M (b + 1) (upd (M.1 (b + 1)) ((nI c)).toNatClampNeg (nI ((σ (96 + c)) - 1)))) = M1
  have g9 := Bd_c hB c (by omega)
  have hs3 : StC M1 b (su σ (96 + c) ((σ (96 + c)) - 1)) := st_ice hM2 hS (cl1 rfl (by omega)) (by omega) rfl
  have hc4 := cl_ne hM2 (by omega) hw
  have hc5 := cl_ne hM2 (by omega) hx
  have hF6 := fr_sI hF hM2 (by simp)
  show Wn _ 218 _ (18, [(0, .ref b), (1, .int (nI c))], [], M1)
  refine Wn.run (tab := tb_st_thin) rfl 3 (c' := (21, [(0, .ref b), (1, .int (nI c))], [.int (-1 : Int32), .int (nI c), .ref b], M1)) (o := []) rfl trivial ?_
  have hB7 : Bd (su σ (96 + c) ((σ (96 + c)) - 1)) := Bd_su hB (by omega) (by omega) (by omega) (by omega) (by omega) (by omega) (by omega)
  refine Wn.callV (p := b) (n := 3) (ix := 77) (ci := (5)) (fun r0 M0 => r0 = some (.int (nI (ld (su σ (96 + c) ((σ (96 + c)) - 1)) c))) ∧ M1 = M0) [.int (nI c), .int (-1 : Int32)] [] rfl rfl rfl hs3.1.1 (Nat.le_of_ble_eq_true rfl) (Nat.le_of_ble_eq_true rfl) (w_st_loadOnN _ M1 b (su σ (96 + c) ((σ (96 + c)) - 1)) hs3 hB7 c (by omega) _ ⟨rfl, rfl⟩) ?_
  rintro _ _ ⟨rfl, rfl⟩
  show Wn _ 218 _ (24, [(0, .ref b), (1, .int (nI c))], [.int (nI (ld (su σ (96 + c) ((σ (96 + c)) - 1)) c))], M1)
  have r9 := ld_le hB7 c
  refine Wn.run (tab := tb_st_thin) rfl 5 (c' := (if (nI (ld (su σ (96 + c) ((σ (96 + c)) - 1)) c)) ≤ (M1.1 (b + 1) ((nI c)).toNatClampNeg) then 47 else 33, [(0, .ref b), (1, .int (nI c))], [], M1)) (o := [shp b = (0, 5), aok shp (b + 1) 0 (nI c)]) rfl ⟨hs3.1.1, (ak2 hs3.1.2.1 rfl (by omega))⟩ ?_
  refine Wn.br (fun h1 => ?_) (fun h1 => ?_)
  · show Wn _ 218 _ (47, [(0, .ref b), (1, .int (nI c))], [], M1)
    have g9 := Bd_c hB c (by omega)
    have h1 := (n_le rfl (r_eq (rdc hs3.2.2.2.1 rfl (by omega) ((inL_su (by omega)).mpr hin)) rfl) (by omega) (by omega)).mp h1
    have e9 : thn σ c = (su σ (96 + c) ((σ (96 + c)) - 1)) := if_neg (by rw [su_eq rfl]; omega)
    rw [e9]
    exact Wn.vret rfl ⟨rfl, hs3, hc4, hc5, hF6⟩
  · show Wn _ 218 _ (33, [(0, .ref b), (1, .int (nI c))], [], M1)
    have g9 := Bd_c hB c (by omega)
    have h1 := mt (n_le rfl (r_eq (rdc hs3.2.2.2.1 rfl (by omega) ((inL_su (by omega)).mpr hin)) rfl) (by omega) (by omega)).mpr h1
    refine Wn.run (tab := tb_st_thin) rfl 5 (c' := (40, [(0, .ref b), (1, .int (nI c))], [.int (nI c), .ref b, .int (M1.1 b 5), .ref b], M1)) (o := [shp b = (0, 5)]) rfl hs3.1.1 ?_
    have c9_91 := Bd_91 hB
    rw [show (M1.1 b 5) = (nI (σ 91)) from (r_ne hs3.2.2.1.1 (by omega))]
    have hB8 : Bd (su σ (96 + c) ((σ (96 + c)) - 1)) := Bd_su hB (by omega) (by omega) (by omega) (by omega) (by omega) (by omega) (by omega)
    refine Wn.callV (p := b) (n := 2) (ix := 121) (ci := (5)) (fun r0 M0 => r0 = some (.int (nI (pon (su σ (96 + c) ((σ (96 + c)) - 1)) c))) ∧ M1 = M0) [.int (nI c)] [.int (nI (σ 91)), .ref b] rfl rfl rfl hs3.1.1 (Nat.le_of_ble_eq_true rfl) (Nat.le_of_ble_eq_true rfl) (w_st_personsOn _ M1 b (su σ (96 + c) ((σ (96 + c)) - 1)) hs3 hB8 c (by omega) _ ⟨rfl, rfl⟩) ?_
    rintro _ _ ⟨rfl, rfl⟩
    show Wn _ 218 _ (43, [(0, .ref b), (1, .int (nI c))], [.int (nI (pon (su σ (96 + c) ((σ (96 + c)) - 1)) c)), .int (nI (σ 91)), .ref b], M1)
    have pl9 := pon_lt hB8 c
    refine Wn.run (tab := tb_st_thin) rfl 2 (c' := (47, [(0, .ref b), (1, .int (nI c))], [], (mI M1 b (upd (M1.1 b) 5 ((nI (σ 91)) ||| (nI (pon (su σ (96 + c) ((σ (96 + c)) - 1)) c))))))) (o := [shp b = (0, 5)]) rfl hs3.1.1 ?_
    have c9_91 := Bd_91 hB
    have g9 := Bd_c hB c (by omega)
    rw [show ((nI (σ 91)) ||| (nI (pon (su σ (96 + c) ((σ (96 + c)) - 1)) c))) = (nI ((σ 91) ||| (pon (su σ (96 + c) ((σ (96 + c)) - 1)) c))) from (n_or rfl rfl (by omega) (by omega))]
    generalize hM10 : (mI M1 b (upd (M1.1 b) 5 (nI ((σ 91) ||| (pon (su σ (96 + c) ((σ (96 + c)) - 1)) c))))) = M9
    have c9_91 := Bd_91 hB
    have g9 := Bd_c hB c (by omega)
    have hs11 : StC M9 b (su (su σ (96 + c) ((σ (96 + c)) - 1)) 91 ((σ 91) ||| (pon (su σ (96 + c) ((σ (96 + c)) - 1)) c))) := st_f5 hM10 hs3 rfl
    have hc12 := cl_nx hM10 (by decide) hc4
    have hc13 := cl_nx hM10 (by decide) hc5
    have hF14 := fr_sI hF6 hM10 (by simp)
    show Wn _ 218 _ (47, [(0, .ref b), (1, .int (nI c))], [], M9)
    have e9 : thn σ c = (su (su σ (96 + c) ((σ (96 + c)) - 1)) 91 ((σ 91) ||| (pon (su σ (96 + c) ((σ (96 + c)) - 1)) c))) := if_pos (by rw [su_eq rfl]; omega)
    rw [e9]
    exact Wn.vret rfl ⟨rfl, hs11, hc12, hc13, hF14⟩
set_option maxRecDepth 20000 in
theorem c_st_tryPraise (d : Nat) (M : Mm) (b : Nat) (σ : Nat → Nat) (hS : StC M b σ) (hB : Bd σ) (w x : Int32) (hw : M.1 b 11 = w) (hx : M.1 b 12 = x) (hI : Inl σ) (hb : Bear σ) (q r : Nat) (hq : q < σ 2) (hr : r < σ 2) (hp : σ (172 + r) + 1 < 1073741824) : Wn (d + 3) 217 (PS b M (prf σ q r) w x (some (.int (nI (wpr σ q r))))) (0, lv_args 0 [.ref b, .int (nI q), .int (nI r)], [], M) := by
  have hF := fr_rf [b, (b + 1), (b + 2), (b + 3), (b + 4)] M
  have c9_2 := Bd_2 hB
  have f9 := Bd_q hB q (by omega)
  have g9 := Bd_q hB r (by omega)
  have wl9 : wpr σ q r ≤ 3 := by unfold wpr; repeat (first | omega | split)
  have k6 := Bd_6 hB
  refine Wn.run (tab := tb_st_tryPraise) rfl 3 (c' := (3, [(0, .ref b), (1, .int (nI q)), (2, .int (nI r))], [.int (nI r), .int (nI q), .ref b], M)) (o := []) rfl trivial ?_
  refine Wn.callV (p := b) (n := 3) (ix := 111) (ci := (5)) (fun r0 M0 => r0 = some (.int (nI (wpr σ q r))) ∧ M = M0) [.int (nI q), .int (nI r)] [] rfl rfl rfl hS.1.1 (Nat.le_of_ble_eq_true rfl) (Nat.le_of_ble_eq_true rfl) (w_st_whyNotPraise _ M b σ hS hB q r (by omega) (by omega) _ ⟨rfl, rfl⟩) ?_
  rintro _ _ ⟨rfl, rfl⟩
  show Wn _ 217 _ (6, [(0, .ref b), (1, .int (nI q)), (2, .int (nI r))], [.int (nI (wpr σ q r))], M)
  refine Wn.run (tab := tb_st_tryPraise) rfl 3 (c' := (if ¬ (nI (wpr σ q r)) = 0 then 75 else 11, [(3, .int (nI (wpr σ q r))), (0, .ref b), (1, .int (nI q)), (2, .int (nI r))], [], M)) (o := []) rfl trivial ?_
  refine Wn.br (fun h1 => ?_) (fun h1 => ?_)
  · show Wn _ 217 _ (75, [(3, .int (nI (wpr σ q r))), (0, .ref b), (1, .int (nI q)), (2, .int (nI r))], [], M)
    have h1 := mt (n_eq rfl nI_0.symm (by omega) (by omega)).mpr h1
    refine Wn.run (tab := tb_st_tryPraise) rfl 1 (c' := (76, [(3, .int (nI (wpr σ q r))), (0, .ref b), (1, .int (nI q)), (2, .int (nI r))], [.int (nI (wpr σ q r))], M)) (o := []) rfl trivial ?_
    rw [show prf σ q r = σ from if_neg h1]
    exact Wn.iret rfl ⟨rfl, hS, hw, hx, hF⟩
  · show Wn _ 217 _ (11, [(3, .int (nI (wpr σ q r))), (0, .ref b), (1, .int (nI q)), (2, .int (nI r))], [], M)
    have h1 := (n_eq rfl nI_0.symm (by omega) (by omega)).mp (Classical.not_not.mp h1)
    refine Wn.run (tab := tb_st_tryPraise) rfl 8 (c' := (21, [(3, .int (nI (wpr σ q r))), (0, .ref b), (1, .int (nI q)), (2, .int (nI r))], [], (mI M (b + 4) (upd (M.1 (b + 4)) ((nI r)).toNatClampNeg ((M.1 (b + 4) ((nI r)).toNatClampNeg) + (nI 1)))))) (o := [shp b = (0, 5), aok shp (b + 4) 0 (nI r), aok shp (b + 4) 0 (nI r)]) rfl ⟨hS.1.1, (ak2 hS.1.2.2.2.2.1 rfl (by omega)), (ak2 hS.1.2.2.2.2.1 rfl (by omega))⟩ ?_
    have f9 := Bd_q hB r (by omega)
    rw [show (M.1 (b + 4) ((nI r)).toNatClampNeg) = (nI (σ (172 + r))) from (rdq (v := fun z9 => σ (172 + z9)) hS.2.2.2.2.2.2 rfl (by omega) (by omega))]
    have f9 := Bd_q hB r (by omega)
    rw [show ((nI (σ (172 + r))) + (nI 1)) = (nI ((σ (172 + r)) + 1)) from (n_add rfl rfl)]
    generalize hM2 : (mI M (b + 4) (upd (M.1 (b + 4)) ((nI r)).toNatClampNeg (nI ((σ (172 + r)) + 1)))) = M1
    have f9 := Bd_q hB r (by omega)
    have hs3 : StC M1 b (su σ (172 + r) ((σ (172 + r)) + 1)) := st_pra hM2 hS (cl1 rfl (by omega)) (by omega) rfl
    have hc4 := cl_ne hM2 (by omega) hw
    have hc5 := cl_ne hM2 (by omega) hx
    have hF6 := fr_sI hF hM2 (by simp)
    show Wn _ 217 _ (21, [(3, .int (nI (wpr σ q r))), (0, .ref b), (1, .int (nI q)), (2, .int (nI r))], [], M1)
    refine Wn.run (tab := tb_st_tryPraise) rfl 6 (c' := (31, [(3, .int (nI (wpr σ q r))), (0, .ref b), (1, .int (nI q)), (2, .int (nI r))], [], (mI M1 b (upd (M1.1 b) 9 ((M1.1 b 9) + (nI 1)))))) (o := [shp b = (0, 5), shp b = (0, 5)]) rfl ⟨hs3.1.1, hs3.1.1⟩ ?_
    rw [show (M1.1 b 9) = (nI (σ 94)) from (r_ne hs3.2.2.1.2.2.2.2.1 (by omega))]
    rw [show ((nI (σ 94)) + (nI 1)) = (nI ((σ 94) + 1)) from (n_add rfl rfl)]
    generalize hM8 : (mI M1 b (upd (M1.1 b) 9 (nI ((σ 94) + 1)))) = M7
    have hs9 : StC M7 b (su (su σ (172 + r) ((σ (172 + r)) + 1)) 94 ((σ 94) + 1)) := st_f9 hM8 hs3 rfl
    have hc10 := cl_nx hM8 (by decide) hc4
    have hc11 := cl_nx hM8 (by decide) hc5
    have hF12 := fr_sI hF6 hM8 (by simp)
    show Wn _ 217 _ (31, [(3, .int (nI (wpr σ q r))), (0, .ref b), (1, .int (nI q)), (2, .int (nI r))], [], M7)
    refine Wn.run (tab := tb_st_tryPraise) rfl 12 (c' := (49, [(3, .int (nI (wpr σ q r))), (0, .ref b), (1, .int (nI q)), (2, .int (nI r))], [], (mI M7 (b + 3) (upd (M7.1 (b + 3)) ((nI r)).toNatClampNeg (if (nI 0) < ((M7.1 (b + 3) ((nI r)).toNatClampNeg) - (nI 1)) then ((M7.1 (b + 3) ((nI r)).toNatClampNeg) - (nI 1)) else (nI 0)))))) (o := [shp b = (0, 5), shp b = (0, 5), aok shp (b + 3) 0 (nI r), ct [.int (nI r), .ref (b + 3)] ≤ 8, aok shp (b + 3) 0 (nI r)]) rfl ⟨hs9.1.1, hs9.1.1, (ak2 hs9.1.2.2.2.1 rfl (by omega)), (Nat.le_of_ble_eq_true rfl), (ak2 hs9.1.2.2.2.1 rfl (by omega))⟩ ?_
    have f9 := Bd_q hB r (by omega)
    rw [show (M7.1 (b + 3) ((nI r)).toNatClampNeg) = (nI (σ (166 + r))) from (r_ne (r_ne (rdq (v := fun z9 => (su (su σ (172 + r) ((σ (172 + r)) + 1)) 94 ((σ 94) + 1)) (166 + z9)) hs9.2.2.2.2.2.1 rfl (lt_su (by omega) (lt_su (by omega) (by omega))) (by omega)) (by omega)) (by omega))]
    have f9 := Bd_q hB r (by omega)
    rw [show (if (nI 0) < ((nI (σ (166 + r))) - (nI 1)) then ((nI (σ (166 + r))) - (nI 1)) else (nI 0)) = (nI ((σ (166 + r)) - 1)) from (n_max0 rfl rfl (by omega) (by omega))]
    generalize hM14 : (mI M7 (b + 3) (upd (M7.1 (b + 3)) ((nI r)).toNatClampNeg (nI ((σ (166 + r)) - 1)))) = M13
    have f9 := Bd_q hB r (by omega)
    have hs15 : StC M13 b (su (su (su σ (172 + r) ((σ (172 + r)) + 1)) 94 ((σ 94) + 1)) (166 + r) ((σ (166 + r)) - 1)) := st_tem hM14 hs9 (cl1 rfl (by omega)) (by omega) rfl
    have hc16 := cl_ne hM14 (by omega) hc10
    have hc17 := cl_ne hM14 (by omega) hc11
    have hF18 := fr_sI hF12 hM14 (by simp)
    show Wn _ 217 _ (49, [(3, .int (nI (wpr σ q r))), (0, .ref b), (1, .int (nI q)), (2, .int (nI r))], [], M13)
    refine Wn.run (tab := tb_st_tryPraise) rfl 8 (c' := (if (M13.1 (b + 4) ((nI r)).toNatClampNeg) ≤ (M13.1 (lkp b) 6) then 75 else 65, [(3, .int (nI (wpr σ q r))), (0, .ref b), (1, .int (nI q)), (2, .int (nI r))], [], M13)) (o := [shp b = (0, 5), aok shp (b + 4) 0 (nI r), shp b = (0, 5), shp (lkp b) = (0, 2)]) rfl ⟨hs15.1.1, (ak2 hs15.1.2.2.2.2.1 rfl (by omega)), hs15.1.1, hs15.2.1.1⟩ ?_
    refine Wn.br (fun h2 => ?_) (fun h2 => ?_)
    · show Wn _ 217 _ (75, [(3, .int (nI (wpr σ q r))), (0, .ref b), (1, .int (nI q)), (2, .int (nI r))], [], M13)
      have c9_6 := Bd_6 hB
      have f9 := Bd_q hB r (by omega)
      have h2 := (n_le (r_eq (r_ne (r_ne (rdq (v := fun z9 => (su (su (su σ (172 + r) ((σ (172 + r)) + 1)) 94 ((σ 94) + 1)) (166 + r) ((σ (166 + r)) - 1)) (172 + z9)) hs15.2.2.2.2.2.2 rfl (lt_su (by omega) (lt_su (by omega) (lt_su (by omega) (by omega)))) (by omega)) (by omega)) (by omega)) rfl) (r_ne (r_ne (r_ne (hs15.2.1.2.2.2.1 6 (by decide)) (by omega)) (by omega)) (by omega)) (by omega) (by omega)).mp h2
      refine Wn.run (tab := tb_st_tryPraise) rfl 1 (c' := (76, [(3, .int (nI (wpr σ q r))), (0, .ref b), (1, .int (nI q)), (2, .int (nI r))], [.int (nI (wpr σ q r))], M13)) (o := []) rfl trivial ?_
      have e9 : prf σ q r = (su (su (su σ (172 + r) ((σ (172 + r)) + 1)) 94 ((σ 94) + 1)) (166 + r) ((σ (166 + r)) - 1)) := by unfold prf; rw [if_pos (by omega), flat_eq hb hB hr, if_neg (by omega)]; unfold flt0; rw [su_comm (i := 94) (j := 166 + r) (by omega), su_comm (i := 172 + r) (j := 166 + r) (by omega)]
      rw [e9]
      exact Wn.iret rfl ⟨rfl, hs15, hc16, hc17, hF18⟩
    · show Wn _ 217 _ (65, [(3, .int (nI (wpr σ q r))), (0, .ref b), (1, .int (nI q)), (2, .int (nI r))], [], M13)
      have c9_6 := Bd_6 hB
      have f9 := Bd_q hB r (by omega)
      have h2 := mt (n_le (r_eq (r_ne (r_ne (rdq (v := fun z9 => (su (su (su σ (172 + r) ((σ (172 + r)) + 1)) 94 ((σ 94) + 1)) (166 + r) ((σ (166 + r)) - 1)) (172 + z9)) hs15.2.2.2.2.2.2 rfl (lt_su (by omega) (lt_su (by omega) (lt_su (by omega) (by omega)))) (by omega)) (by omega)) (by omega)) rfl) (r_ne (r_ne (r_ne (hs15.2.1.2.2.2.1 6 (by decide)) (by omega)) (by omega)) (by omega)) (by omega) (by omega)).mpr h2
      refine Wn.run (tab := tb_st_tryPraise) rfl 5 (c' := (72, [(3, .int (nI (wpr σ q r))), (0, .ref b), (1, .int (nI q)), (2, .int (nI r))], [.int (M13.1 (b + 2) ((nI r)).toNatClampNeg), .ref b], M13)) (o := [shp b = (0, 5), aok shp (b + 2) 0 (nI r)]) rfl ⟨hs15.1.1, (ak2 hs15.1.2.2.1 rfl (by omega))⟩ ?_
      have f9 := Bd_q hB r (by omega)
      rw [show (M13.1 (b + 2) ((nI r)).toNatClampNeg) = (nI (σ (160 + r))) from (r_ne (r_ne (r_ne (rdq (v := fun z9 => (su (su (su σ (172 + r) ((σ (172 + r)) + 1)) 94 ((σ 94) + 1)) (166 + r) ((σ (166 + r)) - 1)) (160 + z9)) hs15.2.2.2.2.1 rfl (lt_su (by omega) (lt_su (by omega) (lt_su (by omega) (by omega)))) (by omega)) (by omega)) (by omega)) (by omega))]
      have hs19 : StC M13 b (flt0 σ r) := by
        have h7 := hs15
        rw [su_comm (i := 94) (j := 166 + r) (by omega), su_comm (i := 172 + r) (j := 166 + r) (by omega)] at h7
        exact h7
      refine Wn.callV (p := b) (n := 2) (ix := 117) (ci := (5)) (PS b M13 (thn (flt0 σ r) (σ (160 + r))) w x none) [.int (nI (σ (160 + r)))] [] rfl rfl rfl hs19.1.1 (Nat.le_of_ble_eq_true rfl) (Nat.le_of_ble_eq_true rfl) (c_st_thin _ M13 b (flt0 σ r) hs19 (Bd_flt0 hB (by omega) hp) w x hc16 hc17 (σ (160 + r)) (by omega) ((inL_cg (show flt0 σ r 0 = σ 0 by unfold flt0; rw [su_ne (by omega), su_ne (by omega), su_ne (by omega)]) (show flt0 σ r 1 = σ 1 by unfold flt0; rw [su_ne (by omega), su_ne (by omega), su_ne (by omega)])).mpr (hI r (by omega)))) ?_
      rintro _ M20 ⟨rfl, hs21, hw22, hx23, hF24⟩
      show Wn _ 217 _ (75, [(3, .int (nI (wpr σ q r))), (0, .ref b), (1, .int (nI q)), (2, .int (nI r))], [], M20)
      have hF25 := fr_tr hF18 hF24 (by simp)
      refine Wn.run (tab := tb_st_tryPraise) rfl 1 (c' := (76, [(3, .int (nI (wpr σ q r))), (0, .ref b), (1, .int (nI q)), (2, .int (nI r))], [.int (nI (wpr σ q r))], M20)) (o := []) rfl trivial ?_
      have e9 : prf σ q r = thn (flt0 σ r) (σ (160 + r)) := by unfold prf; rw [if_pos (by omega), flat_eq hb hB hr, if_pos (by omega)]
      rw [e9]
      exact Wn.iret rfl ⟨rfl, hs21, hw22, hx23, hF25⟩
