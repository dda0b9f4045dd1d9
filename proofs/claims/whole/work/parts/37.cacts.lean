/-! The class's public acts. -/
def CL : List Nat := [6, 7, 8, 9, 10] ++ HL
/-- behind a public act of the class -/
def PC (M0 : Mm) (σ : Nat → Nat) (n : Nat) (H : Nat → Nat → Nat) (r : Option Value) : Po := fun r0 M' => r0 = r ∧ StC M' 6 σ ∧ HC M' n H ∧ Fr CL M0 M'
theorem w_lk_isPersonT (d : Nat) (M : Mm) (p : Nat) (σ : Nat → Nat) (hL : LkC M p σ) (hB : Bd σ) (q : Nat) (hq : q < σ 2) (Q : Po) (hQ : Q (some (.int (nI 1))) M) : Wn (d + 0) 164 Q (0, lv_args 0 [.ref p, .int (nI q)], [], M) := by
  have h2 := Bd_2 hB
  refine w_lk_isPerson d M p σ hL hB _ Q ?_
  rw [b2_t (by rw [nI_toInt (by omega)]; omega)]
  exact hQ
theorem w_lk_isPersonF (d : Nat) (M : Mm) (p : Nat) (σ : Nat → Nat) (hL : LkC M p σ) (hB : Bd σ) (q : Int32) (hq : ¬ pI σ q) (Q : Po) (hQ : Q (some (.int (nI 0))) M) : Wn (d + 0) 164 Q (0, lv_args 0 [.ref p, .int q], [], M) := by
  refine w_lk_isPerson d M p σ hL hB _ Q ?_
  rw [b2_f (show ¬ (0 ≤ q.toInt ∧ q.toInt < (σ 2 : Int)) from hq)]
  exact hQ
theorem w_lk_isCellT (d : Nat) (M : Mm) (p : Nat) (σ : Nat → Nat) (hL : LkC M p σ) (hB : Bd σ) (x y : Nat) (hx : x < σ 0) (hy : y < σ 1) (Q : Po) (hQ : Q (some (.int (nI 1))) M) : Wn (d + 0) 165 Q (0, lv_args 0 [.ref p, .int (nI x), .int (nI y)], [], M) := by
  have h0 := Bd_0 hB
  have h1 := Bd_1 hB
  refine w_lk_isCell d M p σ hL hB _ _ Q ?_
  rw [b2_t (by rw [nI_toInt (by omega), nI_toInt (by omega)]; omega)]
  exact hQ
theorem w_lk_isCellF (d : Nat) (M : Mm) (p : Nat) (σ : Nat → Nat) (hL : LkC M p σ) (hB : Bd σ) (x y : Int32) (hc : ¬ cI σ x y) (Q : Po) (hQ : Q (some (.int (nI 0))) M) : Wn (d + 0) 165 Q (0, lv_args 0 [.ref p, .int x, .int y], [], M) := by
  refine w_lk_isCell d M p σ hL hB _ _ Q ?_
  rw [b2_f (show ¬ (0 ≤ x.toInt ∧ x.toInt < (σ 0 : Int) ∧ 0 ≤ y.toInt ∧ y.toInt < (σ 1 : Int)) from hc)]
  exact hQ
set_option maxRecDepth 20000 in
theorem c_i_go (d : Nat) (M : Mm) (σ : Nat → Nat) (n : Nat) (H : Nat → Nat → Nat) (hS : StC M 6 σ) (hV : Inv σ) (hH : HC M n H) (q s : Nat) (hq : q < σ 2) (hs : s < 4) : Wn (d + 5) 10 (PC M (gof σ q s) (if wgo σ q s = 0 then hpn n else n) (if wgo σ q s = 0 then hpH n H σ else H) (some (.int (nI (wgo σ q s))))) (0, lv_args 0 [.ref 0, .int (nI q), .int (nI s)], [], M) := by
  have hF := fr_rf CL M
  have hB := hV.1
  have hI := hV.2.1
  have hb := hV.2.2.2
  have c9_2 := Bd_2 hB
  have k90 := Bd_90 hB
  have l6 : lkp 6 = 3 := rfl
  obtain ⟨w, hw⟩ : ∃ w, M.1 6 11 = w := ⟨_, rfl⟩
  obtain ⟨x, hx⟩ : ∃ x, M.1 6 12 = x := ⟨_, rfl⟩
  have f9 := Bd_q hB q (by omega)
  refine Wn.run (tab := tb_i_go) rfl 4 (c' := (8, [(0, .ref 0), (1, .int (nI q)), (2, .int (nI s))], [.int (nI q), .ref 3], M)) (o := [shp 0 = (0, 9), shp 2 = (0, 8)]) rfl ⟨rfl, rfl⟩ ?_
  refine Wn.callV (p := 3) (n := 2) (ix := 133) (ci := (2)) (fun r0 M0 => r0 = some (.int (nI 1)) ∧ M = M0) [.int (nI q)] [] rfl rfl rfl rfl (Nat.le_of_ble_eq_true rfl) (Nat.le_of_ble_eq_true rfl) (w_lk_isPersonT _ M 3 σ hS.2.1 hB q (by omega) _ ⟨rfl, rfl⟩) ?_
  rintro _ _ ⟨rfl, rfl⟩
  show Wn _ 10 _ (11, [(0, .ref 0), (1, .int (nI q)), (2, .int (nI s))], [.int (nI 1)], M)
  refine Wn.run (tab := tb_i_go) rfl 1 (c' := (if (nI 1) = 0 then 23 else 14, [(0, .ref 0), (1, .int (nI q)), (2, .int (nI s))], [], M)) (o := []) rfl trivial ?_
  rw [if_neg (show ¬ ((nI 1) = 0) by decide)]
  show Wn _ 10 _ (14, [(0, .ref 0), (1, .int (nI q)), (2, .int (nI s))], [], M)
  refine Wn.run (tab := tb_i_go) rfl 2 (c' := (if (nI s) < 0 then 23 else 18, [(0, .ref 0), (1, .int (nI q)), (2, .int (nI s))], [], M)) (o := []) rfl trivial ?_
  rw [if_neg (nI_nn (by omega))]
  show Wn _ 10 _ (18, [(0, .ref 0), (1, .int (nI q)), (2, .int (nI s))], [], M)
  refine Wn.run (tab := tb_i_go) rfl 3 (c' := (if (nI s) < (nI 4) then 25 else 23, [(0, .ref 0), (1, .int (nI q)), (2, .int (nI s))], [], M)) (o := []) rfl trivial ?_
  rw [if_pos ((n_lt rfl rfl (by omega) (by omega)).mpr (by omega))]
  show Wn _ 10 _ (25, [(0, .ref 0), (1, .int (nI q)), (2, .int (nI s))], [], M)
  refine Wn.run (tab := tb_i_go) rfl 5 (c' := (34, [(0, .ref 0), (1, .int (nI q)), (2, .int (nI s))], [.int (nI s), .int (nI q), .ref 6], M)) (o := [shp 0 = (0, 9), shp 2 = (0, 8)]) rfl ⟨rfl, rfl⟩ ?_
  refine Wn.callV (p := 6) (n := 3) (ix := 240) (ci := (5)) (fun r0 M0 => r0 = some (.int (nI (wgo σ q s))) ∧ M = M0) [.int (nI q), .int (nI s)] [] rfl rfl rfl rfl (Nat.le_of_ble_eq_true rfl) (Nat.le_of_ble_eq_true rfl) (w_st_whyNotGo _ M 6 σ hS hB hI q s (by omega) (by omega) _ ⟨rfl, rfl⟩) ?_
  rintro _ _ ⟨rfl, rfl⟩
  show Wn _ 10 _ (37, [(0, .ref 0), (1, .int (nI q)), (2, .int (nI s))], [.int (nI (wgo σ q s))], M)
  have wl9 := wgo_le σ q s
  refine Wn.run (tab := tb_i_go) rfl 3 (c' := (if ¬ (nI (wgo σ q s)) = 0 then 69 else 42, [(3, .int (nI (wgo σ q s))), (0, .ref 0), (1, .int (nI q)), (2, .int (nI s))], [], M)) (o := []) rfl trivial ?_
  refine Wn.br (fun h1 => ?_) (fun h1 => ?_)
  · show Wn _ 10 _ (69, [(3, .int (nI (wgo σ q s))), (0, .ref 0), (1, .int (nI q)), (2, .int (nI s))], [], M)
    have h1 := mt (n_eq rfl nI_0.symm (by omega) (by omega)).mpr h1
    refine Wn.run (tab := tb_i_go) rfl 1 (c' := (70, [(3, .int (nI (wgo σ q s))), (0, .ref 0), (1, .int (nI q)), (2, .int (nI s))], [.int (nI (wgo σ q s))], M)) (o := []) rfl trivial ?_
    have h0 : ¬ wgo σ q s = 0 := by omega
    rw [gof_no h0, if_neg h0, if_neg h0]
    exact Wn.iret rfl ⟨rfl, hS, hH, hF⟩
  · show Wn _ 10 _ (42, [(3, .int (nI (wgo σ q s))), (0, .ref 0), (1, .int (nI q)), (2, .int (nI s))], [], M)
    have h1 := (n_eq rfl nI_0.symm (by omega) (by omega)).mp (Classical.not_not.mp h1)
    refine Wn.run (tab := tb_i_go) rfl 5 (c' := (53, [(3, .int (nI (wgo σ q s))), (0, .ref 0), (1, .int (nI q)), (2, .int (nI s))], [.ref 6, .ref 35], M)) (o := [shp 0 = (0, 9), shp 0 = (0, 9), shp 2 = (0, 8)]) rfl ⟨rfl, rfl, rfl⟩ ?_
    refine Wn.callV (p := 35) (n := 2) (ix := 243) (ci := (1)) (PKC M 6 σ (hpn n) (hpH n H σ)) [.ref 6] [] rfl rfl rfl rfl (Nat.le_of_ble_eq_true rfl) (Nat.le_of_ble_eq_true rfl) (c_hy_keep _ M σ n H hS hH) ?_
    rintro _ M1 ⟨rfl, hs2, hH3, hF4⟩
    show Wn _ 10 _ (56, [(3, .int (nI (wgo σ q s))), (0, .ref 0), (1, .int (nI q)), (2, .int (nI s))], [], M1)
    have hc5 := cl_fr hF4 (by decide) hw
    have hc6 := cl_fr hF4 (by decide) hx
    have hF7 := fr_tr hF hF4 (by decide)
    refine Wn.run (tab := tb_i_go) rfl 5 (c' := (65, [(3, .int (nI (wgo σ q s))), (0, .ref 0), (1, .int (nI q)), (2, .int (nI s))], [.int (nI s), .int (nI q), .ref 6], M1)) (o := [shp 0 = (0, 9), shp 2 = (0, 8)]) rfl ⟨rfl, rfl⟩ ?_
    refine Wn.callV (p := 6) (n := 3) (ix := 247) (ci := (5)) (PS 6 M1 (gof σ q s) w x (some (.int (nI (wgo σ q s))))) [.int (nI q), .int (nI s)] [] rfl rfl rfl rfl (Nat.le_of_ble_eq_true rfl) (Nat.le_of_ble_eq_true rfl) (c_st_tryGo _ M1 6 σ hs2 hB w x hc5 hc6 hI q s (by omega) (by omega)) ?_
    rintro _ M8 ⟨rfl, hs9, hw10, hx11, hF12⟩
    show Wn _ 10 _ (68, [(3, .int (nI (wgo σ q s))), (0, .ref 0), (1, .int (nI q)), (2, .int (nI s))], [.int (nI (wgo σ q s))], M8)
    have hF13 := fr_tr hF7 hF12 (by decide)
    have hH14 := HC_fr hF12 hH3 (by decide)
    refine Wn.run (tab := tb_i_go) rfl 2 (c' := (70, [(3, .int (nI (wgo σ q s))), (0, .ref 0), (1, .int (nI q)), (2, .int (nI s))], [.int (nI (wgo σ q s))], M8)) (o := []) rfl trivial ?_
    have h0 : wgo σ q s = 0 := by omega
    rw [if_pos h0, if_pos h0]
    exact Wn.iret rfl ⟨rfl, hs9, hH14, hF13⟩
set_option maxRecDepth 20000 in
theorem c_i_goP (d : Nat) (M : Mm) (σ : Nat → Nat) (n : Nat) (H : Nat → Nat → Nat) (hS : StC M 6 σ) (hV : Inv σ) (hH : HC M n H) (q s : Int32) (hnp : ¬ pI σ q) : Wn (d + 1) 10 (PC M σ n H (some (.int (-1)))) (0, lv_args 0 [.ref 0, .int q, .int s], [], M) := by
  have hF := fr_rf CL M
  have hB := hV.1
  have hI := hV.2.1
  have hb := hV.2.2.2
  have c9_2 := Bd_2 hB
  have k90 := Bd_90 hB
  have l6 : lkp 6 = 3 := rfl
  obtain ⟨w, hw⟩ : ∃ w, M.1 6 11 = w := ⟨_, rfl⟩
  obtain ⟨x, hx⟩ : ∃ x, M.1 6 12 = x := ⟨_, rfl⟩
  refine Wn.run (tab := tb_i_go) rfl 4 (c' := (8, [(0, .ref 0), (1, .int q), (2, .int s)], [.int q, .ref 3], M)) (o := [shp 0 = (0, 9), shp 2 = (0, 8)]) rfl ⟨rfl, rfl⟩ ?_
  refine Wn.callV (p := 3) (n := 2) (ix := 133) (ci := (2)) (fun r0 M0 => r0 = some (.int (nI 0)) ∧ M = M0) [.int q] [] rfl rfl rfl rfl (Nat.le_of_ble_eq_true rfl) (Nat.le_of_ble_eq_true rfl) (w_lk_isPersonF _ M 3 σ hS.2.1 hB q hnp _ ⟨rfl, rfl⟩) ?_
  rintro _ _ ⟨rfl, rfl⟩
  show Wn _ 10 _ (11, [(0, .ref 0), (1, .int q), (2, .int s)], [.int (nI 0)], M)
  refine Wn.run (tab := tb_i_go) rfl 1 (c' := (if (nI 0) = 0 then 23 else 14, [(0, .ref 0), (1, .int q), (2, .int s)], [], M)) (o := []) rfl trivial ?_
  rw [if_pos (show (nI 0) = 0 by decide)]
  show Wn _ 10 _ (23, [(0, .ref 0), (1, .int q), (2, .int s)], [], M)
  refine Wn.run (tab := tb_i_go) rfl 1 (c' := (24, [(0, .ref 0), (1, .int q), (2, .int s)], [.int (-1 : Int32)], M)) (o := []) rfl trivial ?_
  exact Wn.iret rfl ⟨rfl, hS, hH, hF⟩
set_option maxRecDepth 20000 in
theorem c_i_goS (d : Nat) (M : Mm) (σ : Nat → Nat) (n : Nat) (H : Nat → Nat → Nat) (hS : StC M 6 σ) (hV : Inv σ) (hH : HC M n H) (q : Nat) (s : Int32) (hq : q < σ 2) (hns : ¬ ((nI 0).toInt ≤ s.toInt ∧ s.toInt ≤ (nI 3).toInt)) : Wn (d + 1) 10 (PC M σ n H (some (.int (-1)))) (0, lv_args 0 [.ref 0, .int (nI q), .int s], [], M) := by
  have hF := fr_rf CL M
  have hB := hV.1
  have hI := hV.2.1
  have hb := hV.2.2.2
  have c9_2 := Bd_2 hB
  have k90 := Bd_90 hB
  have l6 : lkp 6 = 3 := rfl
  obtain ⟨w, hw⟩ : ∃ w, M.1 6 11 = w := ⟨_, rfl⟩
  obtain ⟨x, hx⟩ : ∃ x, M.1 6 12 = x := ⟨_, rfl⟩
  refine Wn.run (tab := tb_i_go) rfl 4 (c' := (8, [(0, .ref 0), (1, .int (nI q)), (2, .int s)], [.int (nI q), .ref 3], M)) (o := [shp 0 = (0, 9), shp 2 = (0, 8)]) rfl ⟨rfl, rfl⟩ ?_
  refine Wn.callV (p := 3) (n := 2) (ix := 133) (ci := (2)) (fun r0 M0 => r0 = some (.int (nI 1)) ∧ M = M0) [.int (nI q)] [] rfl rfl rfl rfl (Nat.le_of_ble_eq_true rfl) (Nat.le_of_ble_eq_true rfl) (w_lk_isPersonT _ M 3 σ hS.2.1 hB q (by omega) _ ⟨rfl, rfl⟩) ?_
  rintro _ _ ⟨rfl, rfl⟩
  show Wn _ 10 _ (11, [(0, .ref 0), (1, .int (nI q)), (2, .int s)], [.int (nI 1)], M)
  refine Wn.run (tab := tb_i_go) rfl 1 (c' := (if (nI 1) = 0 then 23 else 14, [(0, .ref 0), (1, .int (nI q)), (2, .int s)], [], M)) (o := []) rfl trivial ?_
  rw [if_neg (show ¬ ((nI 1) = 0) by decide)]
  show Wn _ 10 _ (14, [(0, .ref 0), (1, .int (nI q)), (2, .int s)], [], M)
  refine Wn.run (tab := tb_i_go) rfl 2 (c' := (if s < 0 then 23 else 18, [(0, .ref 0), (1, .int (nI q)), (2, .int s)], [], M)) (o := []) rfl trivial ?_
  refine Wn.br (fun h1 => ?_) (fun h1 => ?_)
  · show Wn _ 10 _ (23, [(0, .ref 0), (1, .int (nI q)), (2, .int s)], [], M)
    refine Wn.run (tab := tb_i_go) rfl 1 (c' := (24, [(0, .ref 0), (1, .int (nI q)), (2, .int s)], [.int (-1 : Int32)], M)) (o := []) rfl trivial ?_
    exact Wn.iret rfl ⟨rfl, hS, hH, hF⟩
  · show Wn _ 10 _ (18, [(0, .ref 0), (1, .int (nI q)), (2, .int s)], [], M)
    refine Wn.run (tab := tb_i_go) rfl 3 (c' := (if s < (nI 4) then 25 else 23, [(0, .ref 0), (1, .int (nI q)), (2, .int s)], [], M)) (o := []) rfl trivial ?_
    rw [if_neg (fun h9 => hns ⟨by have := mt Int32.lt_iff_toInt_lt.mpr h1; have z9 : (0 : Int32).toInt = 0 := rfl; rw [nI0_toInt]; omega, by have := Int32.lt_iff_toInt_lt.mp h9; rw [nI_toInt (by decide)] at this ⊢; omega⟩)]
    show Wn _ 10 _ (23, [(0, .ref 0), (1, .int (nI q)), (2, .int s)], [], M)
    refine Wn.run (tab := tb_i_go) rfl 1 (c' := (24, [(0, .ref 0), (1, .int (nI q)), (2, .int s)], [.int (-1 : Int32)], M)) (o := []) rfl trivial ?_
    exact Wn.iret rfl ⟨rfl, hS, hH, hF⟩
set_option maxRecDepth 20000 in
theorem c_i_bow (d : Nat) (M : Mm) (σ : Nat → Nat) (n : Nat) (H : Nat → Nat → Nat) (hS : StC M 6 σ) (hV : Inv σ) (hH : HC M n H) (q : Nat) (hq : q < σ 2) : Wn (d + 3) 11 (PC M (bowf σ q) (if wbw σ q = 0 then hpn n else n) (if wbw σ q = 0 then hpH n H σ else H) (some (.int (nI (wbw σ q))))) (0, lv_args 0 [.ref 0, .int (nI q)], [], M) := by
  have hF := fr_rf CL M
  have hB := hV.1
  have hI := hV.2.1
  have hb := hV.2.2.2
  have c9_2 := Bd_2 hB
  have k90 := Bd_90 hB
  have l6 : lkp 6 = 3 := rfl
  obtain ⟨w, hw⟩ : ∃ w, M.1 6 11 = w := ⟨_, rfl⟩
  obtain ⟨x, hx⟩ : ∃ x, M.1 6 12 = x := ⟨_, rfl⟩
  have f9 := Bd_q hB q (by omega)
  have wb9 := wbw_le σ q
  refine Wn.run (tab := tb_i_bow) rfl 4 (c' := (8, [(0, .ref 0), (1, .int (nI q))], [.int (nI q), .ref 3], M)) (o := [shp 0 = (0, 9), shp 2 = (0, 8)]) rfl ⟨rfl, rfl⟩ ?_
  refine Wn.callV (p := 3) (n := 2) (ix := 133) (ci := (2)) (fun r0 M0 => r0 = some (.int (nI 1)) ∧ M = M0) [.int (nI q)] [] rfl rfl rfl rfl (Nat.le_of_ble_eq_true rfl) (Nat.le_of_ble_eq_true rfl) (w_lk_isPersonT _ M 3 σ hS.2.1 hB q (by omega) _ ⟨rfl, rfl⟩) ?_
  rintro _ _ ⟨rfl, rfl⟩
  show Wn _ 11 _ (11, [(0, .ref 0), (1, .int (nI q))], [.int (nI 1)], M)
  refine Wn.run (tab := tb_i_bow) rfl 1 (c' := (if ¬ (nI 1) = 0 then 16 else 14, [(0, .ref 0), (1, .int (nI q))], [], M)) (o := []) rfl trivial ?_
  rw [if_pos (show ¬ (nI 1) = 0 by decide)]
  show Wn _ 11 _ (16, [(0, .ref 0), (1, .int (nI q))], [], M)
  refine Wn.run (tab := tb_i_bow) rfl 4 (c' := (24, [(0, .ref 0), (1, .int (nI q))], [.int (nI q), .ref 6], M)) (o := [shp 0 = (0, 9), shp 2 = (0, 8)]) rfl ⟨rfl, rfl⟩ ?_
  refine Wn.callV (p := 6) (n := 2) (ix := 250) (ci := (5)) (fun r0 M0 => r0 = some (.int (nI (wbw σ q))) ∧ M = M0) [.int (nI q)] [] rfl rfl rfl rfl (Nat.le_of_ble_eq_true rfl) (Nat.le_of_ble_eq_true rfl) (w_st_whyNotBow _ M 6 σ hS hB q (by omega) _ ⟨rfl, rfl⟩) ?_
  rintro _ _ ⟨rfl, rfl⟩
  show Wn _ 11 _ (27, [(0, .ref 0), (1, .int (nI q))], [.int (nI (wbw σ q))], M)
  refine Wn.run (tab := tb_i_bow) rfl 3 (c' := (if ¬ (nI (wbw σ q)) = 0 then 58 else 32, [(2, .int (nI (wbw σ q))), (0, .ref 0), (1, .int (nI q))], [], M)) (o := []) rfl trivial ?_
  refine Wn.br (fun h1 => ?_) (fun h1 => ?_)
  · show Wn _ 11 _ (58, [(2, .int (nI (wbw σ q))), (0, .ref 0), (1, .int (nI q))], [], M)
    have h1 := mt (n_eq rfl nI_0.symm (by omega) (by omega)).mpr h1
    refine Wn.run (tab := tb_i_bow) rfl 1 (c' := (59, [(2, .int (nI (wbw σ q))), (0, .ref 0), (1, .int (nI q))], [.int (nI (wbw σ q))], M)) (o := []) rfl trivial ?_
    have h0 : ¬ wbw σ q = 0 := by omega
    rw [show bowf σ q = σ from if_neg h0, if_neg h0, if_neg h0]
    exact Wn.iret rfl ⟨rfl, hS, hH, hF⟩
  · show Wn _ 11 _ (32, [(2, .int (nI (wbw σ q))), (0, .ref 0), (1, .int (nI q))], [], M)
    have h1 := (n_eq rfl nI_0.symm (by omega) (by omega)).mp (Classical.not_not.mp h1)
    refine Wn.run (tab := tb_i_bow) rfl 5 (c' := (43, [(2, .int (nI (wbw σ q))), (0, .ref 0), (1, .int (nI q))], [.ref 6, .ref 35], M)) (o := [shp 0 = (0, 9), shp 0 = (0, 9), shp 2 = (0, 8)]) rfl ⟨rfl, rfl, rfl⟩ ?_
    refine Wn.callV (p := 35) (n := 2) (ix := 243) (ci := (1)) (PKC M 6 σ (hpn n) (hpH n H σ)) [.ref 6] [] rfl rfl rfl rfl (Nat.le_of_ble_eq_true rfl) (Nat.le_of_ble_eq_true rfl) (c_hy_keep _ M σ n H hS hH) ?_
    rintro _ M1 ⟨rfl, hs2, hH3, hF4⟩
    show Wn _ 11 _ (46, [(2, .int (nI (wbw σ q))), (0, .ref 0), (1, .int (nI q))], [], M1)
    have hc5 := cl_fr hF4 (by decide) hw
    have hc6 := cl_fr hF4 (by decide) hx
    have hF7 := fr_tr hF hF4 (by decide)
    refine Wn.run (tab := tb_i_bow) rfl 4 (c' := (54, [(2, .int (nI (wbw σ q))), (0, .ref 0), (1, .int (nI q))], [.int (nI q), .ref 6], M1)) (o := [shp 0 = (0, 9), shp 2 = (0, 8)]) rfl ⟨rfl, rfl⟩ ?_
    refine Wn.callV (p := 6) (n := 2) (ix := 253) (ci := (5)) (PS 6 M1 (bowf σ q) w x (some (.int (nI (wbw σ q))))) [.int (nI q)] [] rfl rfl rfl rfl (Nat.le_of_ble_eq_true rfl) (Nat.le_of_ble_eq_true rfl) (c_st_tryBow _ M1 6 σ hs2 hB w x hc5 hc6 hI q (by omega)) ?_
    rintro _ M8 ⟨rfl, hs9, hw10, hx11, hF12⟩
    show Wn _ 11 _ (57, [(2, .int (nI (wbw σ q))), (0, .ref 0), (1, .int (nI q))], [.int (nI (wbw σ q))], M8)
    have hF13 := fr_tr hF7 hF12 (by decide)
    have hH14 := HC_fr hF12 hH3 (by decide)
    refine Wn.run (tab := tb_i_bow) rfl 2 (c' := (59, [(2, .int (nI (wbw σ q))), (0, .ref 0), (1, .int (nI q))], [.int (nI (wbw σ q))], M8)) (o := []) rfl trivial ?_
    have h0 : wbw σ q = 0 := by omega
    rw [if_pos h0, if_pos h0]
    exact Wn.iret rfl ⟨rfl, hs9, hH14, hF13⟩
set_option maxRecDepth 20000 in
theorem c_i_bowP (d : Nat) (M : Mm) (σ : Nat → Nat) (n : Nat) (H : Nat → Nat → Nat) (hS : StC M 6 σ) (hV : Inv σ) (hH : HC M n H) (q : Int32) (hnp : ¬ pI σ q) : Wn (d + 1) 11 (PC M σ n H (some (.int (-1)))) (0, lv_args 0 [.ref 0, .int q], [], M) := by
  have hF := fr_rf CL M
  have hB := hV.1
  have hI := hV.2.1
  have hb := hV.2.2.2
  have c9_2 := Bd_2 hB
  have k90 := Bd_90 hB
  have l6 : lkp 6 = 3 := rfl
  obtain ⟨w, hw⟩ : ∃ w, M.1 6 11 = w := ⟨_, rfl⟩
  obtain ⟨x, hx⟩ : ∃ x, M.1 6 12 = x := ⟨_, rfl⟩
  refine Wn.run (tab := tb_i_bow) rfl 4 (c' := (8, [(0, .ref 0), (1, .int q)], [.int q, .ref 3], M)) (o := [shp 0 = (0, 9), shp 2 = (0, 8)]) rfl ⟨rfl, rfl⟩ ?_
  refine Wn.callV (p := 3) (n := 2) (ix := 133) (ci := (2)) (fun r0 M0 => r0 = some (.int (nI 0)) ∧ M = M0) [.int q] [] rfl rfl rfl rfl (Nat.le_of_ble_eq_true rfl) (Nat.le_of_ble_eq_true rfl) (w_lk_isPersonF _ M 3 σ hS.2.1 hB q hnp _ ⟨rfl, rfl⟩) ?_
  rintro _ _ ⟨rfl, rfl⟩
  show Wn _ 11 _ (11, [(0, .ref 0), (1, .int q)], [.int (nI 0)], M)
  refine Wn.run (tab := tb_i_bow) rfl 1 (c' := (if ¬ (nI 0) = 0 then 16 else 14, [(0, .ref 0), (1, .int q)], [], M)) (o := []) rfl trivial ?_
  rw [if_neg (show ¬ (¬ (nI 0) = 0) by decide)]
  show Wn _ 11 _ (14, [(0, .ref 0), (1, .int q)], [], M)
  refine Wn.run (tab := tb_i_bow) rfl 1 (c' := (15, [(0, .ref 0), (1, .int q)], [.int (-1 : Int32)], M)) (o := []) rfl trivial ?_
  exact Wn.iret rfl ⟨rfl, hS, hH, hF⟩
set_option maxRecDepth 20000 in
theorem c_i_praise (d : Nat) (M : Mm) (σ : Nat → Nat) (n : Nat) (H : Nat → Nat → Nat) (hS : StC M 6 σ) (hV : Inv σ) (hH : HC M n H) (q r : Nat) (hq : q < σ 2) (hr : r < σ 2) (hp : σ (172 + r) + 1 < 1073741824) : Wn (d + 4) 12 (PC M (prf σ q r) (if wpr σ q r = 0 then hpn n else n) (if wpr σ q r = 0 then hpH n H σ else H) (some (.int (nI (wpr σ q r))))) (0, lv_args 0 [.ref 0, .int (nI q), .int (nI r)], [], M) := by
  have hF := fr_rf CL M
  have hB := hV.1
  have hI := hV.2.1
  have hb := hV.2.2.2
  have c9_2 := Bd_2 hB
  have k90 := Bd_90 hB
  have l6 : lkp 6 = 3 := rfl
  obtain ⟨w, hw⟩ : ∃ w, M.1 6 11 = w := ⟨_, rfl⟩
  obtain ⟨x, hx⟩ : ∃ x, M.1 6 12 = x := ⟨_, rfl⟩
  have f9 := Bd_q hB q (by omega)
  have wp9 := wpr_le σ q r
  refine Wn.run (tab := tb_i_praise) rfl 4 (c' := (8, [(0, .ref 0), (1, .int (nI q)), (2, .int (nI r))], [.int (nI q), .ref 3], M)) (o := [shp 0 = (0, 9), shp 2 = (0, 8)]) rfl ⟨rfl, rfl⟩ ?_
  refine Wn.callV (p := 3) (n := 2) (ix := 133) (ci := (2)) (fun r0 M0 => r0 = some (.int (nI 1)) ∧ M = M0) [.int (nI q)] [] rfl rfl rfl rfl (Nat.le_of_ble_eq_true rfl) (Nat.le_of_ble_eq_true rfl) (w_lk_isPersonT _ M 3 σ hS.2.1 hB q (by omega) _ ⟨rfl, rfl⟩) ?_
  rintro _ _ ⟨rfl, rfl⟩
  show Wn _ 12 _ (11, [(0, .ref 0), (1, .int (nI q)), (2, .int (nI r))], [.int (nI 1)], M)
  refine Wn.run (tab := tb_i_praise) rfl 1 (c' := (if (nI 1) = 0 then 28 else 14, [(0, .ref 0), (1, .int (nI q)), (2, .int (nI r))], [], M)) (o := []) rfl trivial ?_
  rw [if_neg (show ¬ ((nI 1) = 0) by decide)]
  show Wn _ 12 _ (14, [(0, .ref 0), (1, .int (nI q)), (2, .int (nI r))], [], M)
  refine Wn.run (tab := tb_i_praise) rfl 4 (c' := (22, [(0, .ref 0), (1, .int (nI q)), (2, .int (nI r))], [.int (nI r), .ref 3], M)) (o := [shp 0 = (0, 9), shp 2 = (0, 8)]) rfl ⟨rfl, rfl⟩ ?_
  refine Wn.callV (p := 3) (n := 2) (ix := 133) (ci := (2)) (fun r0 M0 => r0 = some (.int (nI 1)) ∧ M = M0) [.int (nI r)] [] rfl rfl rfl rfl (Nat.le_of_ble_eq_true rfl) (Nat.le_of_ble_eq_true rfl) (w_lk_isPersonT _ M 3 σ hS.2.1 hB r (by omega) _ ⟨rfl, rfl⟩) ?_
  rintro _ _ ⟨rfl, rfl⟩
  show Wn _ 12 _ (25, [(0, .ref 0), (1, .int (nI q)), (2, .int (nI r))], [.int (nI 1)], M)
  refine Wn.run (tab := tb_i_praise) rfl 1 (c' := (if ¬ (nI 1) = 0 then 30 else 28, [(0, .ref 0), (1, .int (nI q)), (2, .int (nI r))], [], M)) (o := []) rfl trivial ?_
  rw [if_pos (show ¬ (nI 1) = 0 by decide)]
  show Wn _ 12 _ (30, [(0, .ref 0), (1, .int (nI q)), (2, .int (nI r))], [], M)
  refine Wn.run (tab := tb_i_praise) rfl 5 (c' := (39, [(0, .ref 0), (1, .int (nI q)), (2, .int (nI r))], [.int (nI r), .int (nI q), .ref 6], M)) (o := [shp 0 = (0, 9), shp 2 = (0, 8)]) rfl ⟨rfl, rfl⟩ ?_
  refine Wn.callV (p := 6) (n := 3) (ix := 256) (ci := (5)) (fun r0 M0 => r0 = some (.int (nI (wpr σ q r))) ∧ M = M0) [.int (nI q), .int (nI r)] [] rfl rfl rfl rfl (Nat.le_of_ble_eq_true rfl) (Nat.le_of_ble_eq_true rfl) (w_st_whyNotPraise _ M 6 σ hS hB q r (by omega) (by omega) _ ⟨rfl, rfl⟩) ?_
  rintro _ _ ⟨rfl, rfl⟩
  show Wn _ 12 _ (42, [(0, .ref 0), (1, .int (nI q)), (2, .int (nI r))], [.int (nI (wpr σ q r))], M)
  refine Wn.run (tab := tb_i_praise) rfl 3 (c' := (if ¬ (nI (wpr σ q r)) = 0 then 74 else 47, [(3, .int (nI (wpr σ q r))), (0, .ref 0), (1, .int (nI q)), (2, .int (nI r))], [], M)) (o := []) rfl trivial ?_
  refine Wn.br (fun h1 => ?_) (fun h1 => ?_)
  · show Wn _ 12 _ (74, [(3, .int (nI (wpr σ q r))), (0, .ref 0), (1, .int (nI q)), (2, .int (nI r))], [], M)
    have h1 := mt (n_eq rfl nI_0.symm (by omega) (by omega)).mpr h1
    refine Wn.run (tab := tb_i_praise) rfl 1 (c' := (75, [(3, .int (nI (wpr σ q r))), (0, .ref 0), (1, .int (nI q)), (2, .int (nI r))], [.int (nI (wpr σ q r))], M)) (o := []) rfl trivial ?_
    have h0 : ¬ wpr σ q r = 0 := by omega
    rw [show prf σ q r = σ from if_neg h0, if_neg h0, if_neg h0]
    exact Wn.iret rfl ⟨rfl, hS, hH, hF⟩
  · show Wn _ 12 _ (47, [(3, .int (nI (wpr σ q r))), (0, .ref 0), (1, .int (nI q)), (2, .int (nI r))], [], M)
    have h1 := (n_eq rfl nI_0.symm (by omega) (by omega)).mp (Classical.not_not.mp h1)
    refine Wn.run (tab := tb_i_praise) rfl 5 (c' := (58, [(3, .int (nI (wpr σ q r))), (0, .ref 0), (1, .int (nI q)), (2, .int (nI r))], [.ref 6, .ref 35], M)) (o := [shp 0 = (0, 9), shp 0 = (0, 9), shp 2 = (0, 8)]) rfl ⟨rfl, rfl, rfl⟩ ?_
    refine Wn.callV (p := 35) (n := 2) (ix := 243) (ci := (1)) (PKC M 6 σ (hpn n) (hpH n H σ)) [.ref 6] [] rfl rfl rfl rfl (Nat.le_of_ble_eq_true rfl) (Nat.le_of_ble_eq_true rfl) (c_hy_keep _ M σ n H hS hH) ?_
    rintro _ M1 ⟨rfl, hs2, hH3, hF4⟩
    show Wn _ 12 _ (61, [(3, .int (nI (wpr σ q r))), (0, .ref 0), (1, .int (nI q)), (2, .int (nI r))], [], M1)
    have hc5 := cl_fr hF4 (by decide) hw
    have hc6 := cl_fr hF4 (by decide) hx
    have hF7 := fr_tr hF hF4 (by decide)
    refine Wn.run (tab := tb_i_praise) rfl 5 (c' := (70, [(3, .int (nI (wpr σ q r))), (0, .ref 0), (1, .int (nI q)), (2, .int (nI r))], [.int (nI r), .int (nI q), .ref 6], M1)) (o := [shp 0 = (0, 9), shp 2 = (0, 8)]) rfl ⟨rfl, rfl⟩ ?_
    refine Wn.callV (p := 6) (n := 3) (ix := 259) (ci := (5)) (PS 6 M1 (prf σ q r) w x (some (.int (nI (wpr σ q r))))) [.int (nI q), .int (nI r)] [] rfl rfl rfl rfl (Nat.le_of_ble_eq_true rfl) (Nat.le_of_ble_eq_true rfl) (c_st_tryPraise _ M1 6 σ hs2 hB w x hc5 hc6 hI hb q r (by omega) (by omega) hp) ?_
    rintro _ M8 ⟨rfl, hs9, hw10, hx11, hF12⟩
    show Wn _ 12 _ (73, [(3, .int (nI (wpr σ q r))), (0, .ref 0), (1, .int (nI q)), (2, .int (nI r))], [.int (nI (wpr σ q r))], M8)
    have hF13 := fr_tr hF7 hF12 (by decide)
    have hH14 := HC_fr hF12 hH3 (by decide)
    refine Wn.run (tab := tb_i_praise) rfl 2 (c' := (75, [(3, .int (nI (wpr σ q r))), (0, .ref 0), (1, .int (nI q)), (2, .int (nI r))], [.int (nI (wpr σ q r))], M8)) (o := []) rfl trivial ?_
    have h0 : wpr σ q r = 0 := by omega
    rw [if_pos h0, if_pos h0]
    exact Wn.iret rfl ⟨rfl, hs9, hH14, hF13⟩
set_option maxRecDepth 20000 in
theorem c_i_praiseP (d : Nat) (M : Mm) (σ : Nat → Nat) (n : Nat) (H : Nat → Nat → Nat) (hS : StC M 6 σ) (hV : Inv σ) (hH : HC M n H) (q r : Int32) (hnp : ¬ pI σ q) : Wn (d + 1) 12 (PC M σ n H (some (.int (-1)))) (0, lv_args 0 [.ref 0, .int q, .int r], [], M) := by
  have hF := fr_rf CL M
  have hB := hV.1
  have hI := hV.2.1
  have hb := hV.2.2.2
  have c9_2 := Bd_2 hB
  have k90 := Bd_90 hB
  have l6 : lkp 6 = 3 := rfl
  obtain ⟨w, hw⟩ : ∃ w, M.1 6 11 = w := ⟨_, rfl⟩
  obtain ⟨x, hx⟩ : ∃ x, M.1 6 12 = x := ⟨_, rfl⟩
  refine Wn.run (tab := tb_i_praise) rfl 4 (c' := (8, [(0, .ref 0), (1, .int q), (2, .int r)], [.int q, .ref 3], M)) (o := [shp 0 = (0, 9), shp 2 = (0, 8)]) rfl ⟨rfl, rfl⟩ ?_
  refine Wn.callV (p := 3) (n := 2) (ix := 133) (ci := (2)) (fun r0 M0 => r0 = some (.int (nI 0)) ∧ M = M0) [.int q] [] rfl rfl rfl rfl (Nat.le_of_ble_eq_true rfl) (Nat.le_of_ble_eq_true rfl) (w_lk_isPersonF _ M 3 σ hS.2.1 hB q hnp _ ⟨rfl, rfl⟩) ?_
  rintro _ _ ⟨rfl, rfl⟩
  show Wn _ 12 _ (11, [(0, .ref 0), (1, .int q), (2, .int r)], [.int (nI 0)], M)
  refine Wn.run (tab := tb_i_praise) rfl 1 (c' := (if (nI 0) = 0 then 28 else 14, [(0, .ref 0), (1, .int q), (2, .int r)], [], M)) (o := []) rfl trivial ?_
  rw [if_pos (show (nI 0) = 0 by decide)]
  show Wn _ 12 _ (28, [(0, .ref 0), (1, .int q), (2, .int r)], [], M)
  refine Wn.run (tab := tb_i_praise) rfl 1 (c' := (29, [(0, .ref 0), (1, .int q), (2, .int r)], [.int (-1 : Int32)], M)) (o := []) rfl trivial ?_
  exact Wn.iret rfl ⟨rfl, hS, hH, hF⟩
set_option maxRecDepth 20000 in
theorem c_i_praiseR (d : Nat) (M : Mm) (σ : Nat → Nat) (n : Nat) (H : Nat → Nat → Nat) (hS : StC M 6 σ) (hV : Inv σ) (hH : HC M n H) (q : Nat) (r : Int32) (hq : q < σ 2) (hnp : ¬ pI σ r) : Wn (d + 1) 12 (PC M σ n H (some (.int (-1)))) (0, lv_args 0 [.ref 0, .int (nI q), .int r], [], M) := by
  have hF := fr_rf CL M
  have hB := hV.1
  have hI := hV.2.1
  have hb := hV.2.2.2
  have c9_2 := Bd_2 hB
  have k90 := Bd_90 hB
  have l6 : lkp 6 = 3 := rfl
  obtain ⟨w, hw⟩ : ∃ w, M.1 6 11 = w := ⟨_, rfl⟩
  obtain ⟨x, hx⟩ : ∃ x, M.1 6 12 = x := ⟨_, rfl⟩
  refine Wn.run (tab := tb_i_praise) rfl 4 (c' := (8, [(0, .ref 0), (1, .int (nI q)), (2, .int r)], [.int (nI q), .ref 3], M)) (o := [shp 0 = (0, 9), shp 2 = (0, 8)]) rfl ⟨rfl, rfl⟩ ?_
  refine Wn.callV (p := 3) (n := 2) (ix := 133) (ci := (2)) (fun r0 M0 => r0 = some (.int (nI 1)) ∧ M = M0) [.int (nI q)] [] rfl rfl rfl rfl (Nat.le_of_ble_eq_true rfl) (Nat.le_of_ble_eq_true rfl) (w_lk_isPersonT _ M 3 σ hS.2.1 hB q (by omega) _ ⟨rfl, rfl⟩) ?_
  rintro _ _ ⟨rfl, rfl⟩
  show Wn _ 12 _ (11, [(0, .ref 0), (1, .int (nI q)), (2, .int r)], [.int (nI 1)], M)
  refine Wn.run (tab := tb_i_praise) rfl 1 (c' := (if (nI 1) = 0 then 28 else 14, [(0, .ref 0), (1, .int (nI q)), (2, .int r)], [], M)) (o := []) rfl trivial ?_
  rw [if_neg (show ¬ ((nI 1) = 0) by decide)]
  show Wn _ 12 _ (14, [(0, .ref 0), (1, .int (nI q)), (2, .int r)], [], M)
  refine Wn.run (tab := tb_i_praise) rfl 4 (c' := (22, [(0, .ref 0), (1, .int (nI q)), (2, .int r)], [.int r, .ref 3], M)) (o := [shp 0 = (0, 9), shp 2 = (0, 8)]) rfl ⟨rfl, rfl⟩ ?_
  refine Wn.callV (p := 3) (n := 2) (ix := 133) (ci := (2)) (fun r0 M0 => r0 = some (.int (nI 0)) ∧ M = M0) [.int r] [] rfl rfl rfl rfl (Nat.le_of_ble_eq_true rfl) (Nat.le_of_ble_eq_true rfl) (w_lk_isPersonF _ M 3 σ hS.2.1 hB r hnp _ ⟨rfl, rfl⟩) ?_
  rintro _ _ ⟨rfl, rfl⟩
  show Wn _ 12 _ (25, [(0, .ref 0), (1, .int (nI q)), (2, .int r)], [.int (nI 0)], M)
  refine Wn.run (tab := tb_i_praise) rfl 1 (c' := (if ¬ (nI 0) = 0 then 30 else 28, [(0, .ref 0), (1, .int (nI q)), (2, .int r)], [], M)) (o := []) rfl trivial ?_
  rw [if_neg (show ¬ (¬ (nI 0) = 0) by decide)]
  show Wn _ 12 _ (28, [(0, .ref 0), (1, .int (nI q)), (2, .int r)], [], M)
  refine Wn.run (tab := tb_i_praise) rfl 1 (c' := (29, [(0, .ref 0), (1, .int (nI q)), (2, .int r)], [.int (-1 : Int32)], M)) (o := []) rfl trivial ?_
  exact Wn.iret rfl ⟨rfl, hS, hH, hF⟩
set_option maxRecDepth 20000 in
theorem c_i_swear (d : Nat) (M : Mm) (σ : Nat → Nat) (n : Nat) (H : Nat → Nat → Nat) (hS : StC M 6 σ) (hV : Inv σ) (hH : HC M n H) (q : Nat) (hq : q < σ 2) : Wn (d + 5) 13 (PC M (swf σ q) (if ¬ fal σ q = true then hpn n else n) (if ¬ fal σ q = true then hpH n H σ else H) (some (.int (nI (if fal σ q = true then 1 else 0))))) (0, lv_args 0 [.ref 0, .int (nI q)], [], M) := by
  have hF := fr_rf CL M
  have hB := hV.1
  have hI := hV.2.1
  have hb := hV.2.2.2
  have c9_2 := Bd_2 hB
  have k90 := Bd_90 hB
  have l6 : lkp 6 = 3 := rfl
  obtain ⟨w, hw⟩ : ∃ w, M.1 6 11 = w := ⟨_, rfl⟩
  obtain ⟨x, hx⟩ : ∃ x, M.1 6 12 = x := ⟨_, rfl⟩
  have f9 := Bd_q hB q (by omega)
  refine Wn.run (tab := tb_i_swear) rfl 4 (c' := (8, [(0, .ref 0), (1, .int (nI q))], [.int (nI q), .ref 3], M)) (o := [shp 0 = (0, 9), shp 2 = (0, 8)]) rfl ⟨rfl, rfl⟩ ?_
  refine Wn.callV (p := 3) (n := 2) (ix := 133) (ci := (2)) (fun r0 M0 => r0 = some (.int (nI 1)) ∧ M = M0) [.int (nI q)] [] rfl rfl rfl rfl (Nat.le_of_ble_eq_true rfl) (Nat.le_of_ble_eq_true rfl) (w_lk_isPersonT _ M 3 σ hS.2.1 hB q (by omega) _ ⟨rfl, rfl⟩) ?_
  rintro _ _ ⟨rfl, rfl⟩
  show Wn _ 13 _ (11, [(0, .ref 0), (1, .int (nI q))], [.int (nI 1)], M)
  refine Wn.run (tab := tb_i_swear) rfl 1 (c' := (if ¬ (nI 1) = 0 then 16 else 14, [(0, .ref 0), (1, .int (nI q))], [], M)) (o := []) rfl trivial ?_
  rw [if_pos (show ¬ (nI 1) = 0 by decide)]
  show Wn _ 13 _ (16, [(0, .ref 0), (1, .int (nI q))], [], M)
  refine Wn.run (tab := tb_i_swear) rfl 4 (c' := (24, [(0, .ref 0), (1, .int (nI q))], [.int (nI q), .ref 6], M)) (o := [shp 0 = (0, 9), shp 2 = (0, 8)]) rfl ⟨rfl, rfl⟩ ?_
  refine Wn.callV (p := 6) (n := 2) (ix := 262) (ci := (5)) (fun r0 M0 => r0 = some (.int (nI (if fal σ q = true then 1 else 0))) ∧ M = M0) [.int (nI q)] [] rfl rfl rfl rfl (Nat.le_of_ble_eq_true rfl) (Nat.le_of_ble_eq_true rfl) (w_st_whyNotSwear _ M 6 σ hS hB q (by omega) _ ⟨rfl, rfl⟩) ?_
  rintro _ _ ⟨rfl, rfl⟩
  show Wn _ 13 _ (27, [(0, .ref 0), (1, .int (nI q))], [.int (nI (if fal σ q = true then 1 else 0))], M)
  refine Wn.run (tab := tb_i_swear) rfl 3 (c' := (if ¬ (nI (if fal σ q = true then 1 else 0)) = 0 then 58 else 32, [(2, .int (nI (if fal σ q = true then 1 else 0))), (0, .ref 0), (1, .int (nI q))], [], M)) (o := []) rfl trivial ?_
  refine Wn.br (fun h1 => ?_) (fun h1 => ?_)
  · show Wn _ 13 _ (58, [(2, .int (nI (if fal σ q = true then 1 else 0))), (0, .ref 0), (1, .int (nI q))], [], M)
    have hf9 : fal σ q = true := by
      apply Classical.byContradiction; intro h9
      rw [if_neg h9] at h1
      exact h1 rfl
    refine Wn.run (tab := tb_i_swear) rfl 1 (c' := (59, [(2, .int (nI (if fal σ q = true then 1 else 0))), (0, .ref 0), (1, .int (nI q))], [.int (nI (if fal σ q = true then 1 else 0))], M)) (o := []) rfl trivial ?_
    rw [show swf σ q = σ from if_pos hf9, if_neg (fun h9 => h9 hf9), if_neg (fun h9 => h9 hf9)]
    exact Wn.iret rfl ⟨rfl, hS, hH, hF⟩
  · show Wn _ 13 _ (32, [(2, .int (nI (if fal σ q = true then 1 else 0))), (0, .ref 0), (1, .int (nI q))], [], M)
    have hf9 : ¬ fal σ q = true := by
      intro h9
      rw [if_pos h9] at h1
      exact h1 (by decide)
    refine Wn.run (tab := tb_i_swear) rfl 5 (c' := (43, [(2, .int (nI (if fal σ q = true then 1 else 0))), (0, .ref 0), (1, .int (nI q))], [.ref 6, .ref 35], M)) (o := [shp 0 = (0, 9), shp 0 = (0, 9), shp 2 = (0, 8)]) rfl ⟨rfl, rfl, rfl⟩ ?_
    refine Wn.callV (p := 35) (n := 2) (ix := 243) (ci := (1)) (PKC M 6 σ (hpn n) (hpH n H σ)) [.ref 6] [] rfl rfl rfl rfl (Nat.le_of_ble_eq_true rfl) (Nat.le_of_ble_eq_true rfl) (c_hy_keep _ M σ n H hS hH) ?_
    rintro _ M1 ⟨rfl, hs2, hH3, hF4⟩
    show Wn _ 13 _ (46, [(2, .int (nI (if fal σ q = true then 1 else 0))), (0, .ref 0), (1, .int (nI q))], [], M1)
    have hc5 := cl_fr hF4 (by decide) hw
    have hc6 := cl_fr hF4 (by decide) hx
    have hF7 := fr_tr hF hF4 (by decide)
    refine Wn.run (tab := tb_i_swear) rfl 4 (c' := (54, [(2, .int (nI (if fal σ q = true then 1 else 0))), (0, .ref 0), (1, .int (nI q))], [.int (nI q), .ref 6], M1)) (o := [shp 0 = (0, 9), shp 2 = (0, 8)]) rfl ⟨rfl, rfl⟩ ?_
    refine Wn.callV (p := 6) (n := 2) (ix := 265) (ci := (5)) (PS 6 M1 (swf σ q) (if fal σ q = true then w else (w ||| nI (2 ^ q))) x (some (.int (nI (if fal σ q = true then 1 else 0))))) [.int (nI q)] [] rfl rfl rfl rfl (Nat.le_of_ble_eq_true rfl) (Nat.le_of_ble_eq_true rfl) (c_st_trySwear _ M1 6 σ hs2 hB w x hc5 hc6 hI q (by omega)) ?_
    rintro _ M8 ⟨rfl, hs9, hw10, hx11, hF12⟩
    show Wn _ 13 _ (57, [(2, .int (nI (if fal σ q = true then 1 else 0))), (0, .ref 0), (1, .int (nI q))], [.int (nI (if fal σ q = true then 1 else 0))], M8)
    have hF13 := fr_tr hF7 hF12 (by decide)
    have hH14 := HC_fr hF12 hH3 (by decide)
    refine Wn.run (tab := tb_i_swear) rfl 2 (c' := (59, [(2, .int (nI (if fal σ q = true then 1 else 0))), (0, .ref 0), (1, .int (nI q))], [.int (nI (if fal σ q = true then 1 else 0))], M8)) (o := []) rfl trivial ?_
    rw [if_pos hf9, if_pos hf9]
    exact Wn.iret rfl ⟨rfl, hs9, hH14, hF13⟩
set_option maxRecDepth 20000 in
theorem c_i_swearP (d : Nat) (M : Mm) (σ : Nat → Nat) (n : Nat) (H : Nat → Nat → Nat) (hS : StC M 6 σ) (hV : Inv σ) (hH : HC M n H) (q : Int32) (hnp : ¬ pI σ q) : Wn (d + 1) 13 (PC M σ n H (some (.int (-1)))) (0, lv_args 0 [.ref 0, .int q], [], M) := by
  have hF := fr_rf CL M
  have hB := hV.1
  have hI := hV.2.1
  have hb := hV.2.2.2
  have c9_2 := Bd_2 hB
  have k90 := Bd_90 hB
  have l6 : lkp 6 = 3 := rfl
  obtain ⟨w, hw⟩ : ∃ w, M.1 6 11 = w := ⟨_, rfl⟩
  obtain ⟨x, hx⟩ : ∃ x, M.1 6 12 = x := ⟨_, rfl⟩
  refine Wn.run (tab := tb_i_swear) rfl 4 (c' := (8, [(0, .ref 0), (1, .int q)], [.int q, .ref 3], M)) (o := [shp 0 = (0, 9), shp 2 = (0, 8)]) rfl ⟨rfl, rfl⟩ ?_
  refine Wn.callV (p := 3) (n := 2) (ix := 133) (ci := (2)) (fun r0 M0 => r0 = some (.int (nI 0)) ∧ M = M0) [.int q] [] rfl rfl rfl rfl (Nat.le_of_ble_eq_true rfl) (Nat.le_of_ble_eq_true rfl) (w_lk_isPersonF _ M 3 σ hS.2.1 hB q hnp _ ⟨rfl, rfl⟩) ?_
  rintro _ _ ⟨rfl, rfl⟩
  show Wn _ 13 _ (11, [(0, .ref 0), (1, .int q)], [.int (nI 0)], M)
  refine Wn.run (tab := tb_i_swear) rfl 1 (c' := (if ¬ (nI 0) = 0 then 16 else 14, [(0, .ref 0), (1, .int q)], [], M)) (o := []) rfl trivial ?_
  rw [if_neg (show ¬ (¬ (nI 0) = 0) by decide)]
  show Wn _ 13 _ (14, [(0, .ref 0), (1, .int q)], [], M)
  refine Wn.run (tab := tb_i_swear) rfl 1 (c' := (15, [(0, .ref 0), (1, .int q)], [.int (-1 : Int32)], M)) (o := []) rfl trivial ?_
  exact Wn.iret rfl ⟨rfl, hS, hH, hF⟩
