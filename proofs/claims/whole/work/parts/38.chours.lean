theorem n_minM {X Y : Int32} {x y : Nat} (hx : X = nI x) (hy : Y = nI y) (h1 : x < 2 ^ 31) (h2 : y < 2 ^ 31) : (if X < Y then X else Y) = nI (mn y x) := n_minI hx hy h1 h2
set_option maxRecDepth 20000 in
theorem c_i_hours (d : Nat) (M : Mm) (σ : Nat → Nat) (n : Nat) (H : Nat → Nat → Nat) (hS : StC M 6 σ) (hV : Inv σ) (hH : HC M n H) (z : Nat) (h1z : 1 ≤ z) (h2z : z ≤ 60) : Wn (d + 5) 14 (PC M (hK σ (mn z (400 - σ 90))) (if 0 < mn z (400 - σ 90) then hpn n else n) (if 0 < mn z (400 - σ 90) then hpH n H σ else H) (some (.int (nI (mn z (400 - σ 90)))))) (0, lv_args 0 [.ref 0, .int (nI z)], [], M) := by
  have hF := fr_rf CL M
  have hB := hV.1
  have hI := hV.2.1
  have hb := hV.2.2.2
  have c9_2 := Bd_2 hB
  have k90 := Bd_90 hB
  have l6 : lkp 6 = 3 := rfl
  obtain ⟨w, hw⟩ : ∃ w, M.1 6 11 = w := ⟨_, rfl⟩
  obtain ⟨x, hx⟩ : ∃ x, M.1 6 12 = x := ⟨_, rfl⟩
  have m9 := mn_le z (400 - σ 90)
  have m8 := mn_or z (400 - σ 90)
  refine Wn.run (tab := tb_i_hours) rfl 3 (c' := (if (nI z) < (nI 1) then 11 else 5, [(0, .ref 0), (1, .int (nI z))], [], M)) (o := []) rfl trivial ?_
  rw [if_neg (mt (n_lt rfl rfl (by omega) (by omega)).mp (by omega))]
  show Wn _ 14 _ (5, [(0, .ref 0), (1, .int (nI z))], [], M)
  refine Wn.run (tab := tb_i_hours) rfl 3 (c' := (if (nI z) ≤ (nI 60) then 13 else 11, [(0, .ref 0), (1, .int (nI z))], [], M)) (o := []) rfl trivial ?_
  rw [if_pos ((n_le rfl rfl (by omega) (by omega)).mpr (by omega))]
  show Wn _ 14 _ (13, [(0, .ref 0), (1, .int (nI z))], [], M)
  refine Wn.run (tab := tb_i_hours) rfl 4 (c' := (21, [(0, .ref 0), (1, .int (nI z))], [.ref 6, .int (nI z)], M)) (o := [shp 0 = (0, 9), shp 2 = (0, 8)]) rfl ⟨rfl, rfl⟩ ?_
  refine Wn.callV (p := 6) (n := 1) (ix := 268) (ci := (5)) (fun r0 M0 => r0 = some (.int (nI (400 - σ 90))) ∧ M = M0) [] [.int (nI z)] rfl rfl rfl rfl (Nat.le_of_ble_eq_true rfl) (Nat.le_of_ble_eq_true rfl) (w_st_hoursLeft _ M 6 σ hS hB  _ ⟨rfl, rfl⟩) ?_
  rintro _ _ ⟨rfl, rfl⟩
  show Wn _ 14 _ (24, [(0, .ref 0), (1, .int (nI z))], [.int (nI (400 - σ 90)), .int (nI z)], M)
  refine Wn.run (tab := tb_i_hours) rfl 4 (c' := (if (if (nI (400 - σ 90)) < (nI z) then (nI (400 - σ 90)) else (nI z)) ≤ 0 then 46 else 32, [(2, .int (if (nI (400 - σ 90)) < (nI z) then (nI (400 - σ 90)) else (nI z))), (0, .ref 0), (1, .int (nI z))], [], M)) (o := [ct [] ≤ 8]) rfl (Nat.le_of_ble_eq_true rfl) ?_
  refine Wn.br (fun h1 => ?_) (fun h1 => ?_)
  · show Wn _ 14 _ (46, [(2, .int (if (nI (400 - σ 90)) < (nI z) then (nI (400 - σ 90)) else (nI z))), (0, .ref 0), (1, .int (nI z))], [], M)
    have c9_90 := Bd_90 hB
    have h1 := (n_le (n_minM rfl rfl (by omega) (by omega)) nI_0.symm (by omega) (by omega)).mp h1
    have c9_90 := Bd_90 hB
    rw [show (if (nI (400 - σ 90)) < (nI z) then (nI (400 - σ 90)) else (nI z)) = (nI (mn z (400 - σ 90))) from (n_minM rfl rfl (by omega) (by omega))]
    refine Wn.run (tab := tb_i_hours) rfl 2 (c' := (48, [(3, .int (nI 0)), (2, .int (nI (mn z (400 - σ 90)))), (0, .ref 0), (1, .int (nI z))], [], M)) (o := []) rfl trivial ?_
    have hV0 := hV
    have loop : ∀ (m k : Nat) (N : Mm), mn z (400 - σ 90) - k = m → k ≤ mn z (400 - σ 90) → (StC N 6 (hK σ k)) → (Fr CL M N) → (HC N n H) → Wn (d + 5) 14 (PC M (hK σ (mn z (400 - σ 90))) (if 0 < mn z (400 - σ 90) then hpn n else n) (if 0 < mn z (400 - σ 90) then hpH n H σ else H) (some (.int (nI (mn z (400 - σ 90)))))) (48, [(3, .int (nI k)), (2, .int (nI (mn z (400 - σ 90)))), (0, .ref 0), (1, .int (nI z))], [], N) := by
      intro m
      induction m using Nat.strongRecOn with
      | _ m ih =>
        intro k N hm hk loop_0 loop_1 loop_2
        have ht9 := hK_90 c9_2 k
        have hV9 := Inv_hK hV0 k (by omega)
        obtain ⟨τ, hτ⟩ : ∃ τ, hK σ k = τ := ⟨_, rfl⟩
        rw [hτ] at loop_0 ht9 hV9
        have hB := hV9.1
        have hV := hV9
        have k90 := Bd_90 hB
        obtain ⟨w9, hw9⟩ : ∃ w, N.1 6 11 = w := ⟨_, rfl⟩
        obtain ⟨x9, hx9⟩ : ∃ x, N.1 6 12 = x := ⟨_, rfl⟩
        refine Wn.run (tab := tb_i_hours) rfl 3 (c' := (if (nI (mn z (400 - σ 90))) ≤ (nI k) then 69 else 53, [(3, .int (nI k)), (2, .int (nI (mn z (400 - σ 90)))), (0, .ref 0), (1, .int (nI z))], [], N)) (o := []) rfl trivial ?_
        refine Wn.br (fun h2 => ?_) (fun h2 => ?_)
        · show Wn _ 14 _ (69, [(3, .int (nI k)), (2, .int (nI (mn z (400 - σ 90)))), (0, .ref 0), (1, .int (nI z))], [], N)
          have h2 := (n_le rfl rfl (by omega) (by omega)).mp h2
          refine Wn.run (tab := tb_i_hours) rfl 1 (c' := (70, [(3, .int (nI k)), (2, .int (nI (mn z (400 - σ 90)))), (0, .ref 0), (1, .int (nI z))], [.int (nI (mn z (400 - σ 90)))], N)) (o := []) rfl trivial ?_
          have e9 : k = mn z (400 - σ 90) := by omega
          rw [← e9, hτ]
          rw [if_neg (show ¬ 0 < k by omega), if_neg (show ¬ 0 < k by omega)]
          exact Wn.iret rfl ⟨rfl, loop_0, loop_2, loop_1⟩
        · show Wn _ 14 _ (53, [(3, .int (nI k)), (2, .int (nI (mn z (400 - σ 90)))), (0, .ref 0), (1, .int (nI z))], [], N)
          have h2 := mt (n_le rfl rfl (by omega) (by omega)).mpr h2
          refine Wn.run (tab := tb_i_hours) rfl 3 (c' := (60, [(3, .int (nI k)), (2, .int (nI (mn z (400 - σ 90)))), (0, .ref 0), (1, .int (nI z))], [.ref 6], N)) (o := [shp 0 = (0, 9), shp 2 = (0, 8)]) rfl ⟨rfl, rfl⟩ ?_
          refine Wn.callV (p := 6) (n := 1) (ix := 276) (ci := (5)) (PS 6 N (hour τ) (w9 ||| nI (swN τ (τ 2))) x9 none) [] [] rfl rfl rfl rfl (Nat.le_of_ble_eq_true rfl) (Nat.le_of_ble_eq_true rfl) (c_st_passHour _ N 6 τ loop_0 hB w9 x9 hw9 hx9 hV (by omega)) ?_
          rintro _ M1 ⟨rfl, hs2, hw3, hx4, hF5⟩
          show Wn _ 14 _ (63, [(3, .int (nI k)), (2, .int (nI (mn z (400 - σ 90)))), (0, .ref 0), (1, .int (nI z))], [], M1)
          have hF6 := fr_tr loop_1 hF5 (by decide)
          have hH7 := HC_fr hF5 loop_2 (by decide)
          refine Wn.run (tab := tb_i_hours) rfl 2 (c' := (48, [(3, .int ((nI k) + (nI 1))), (2, .int (nI (mn z (400 - σ 90)))), (0, .ref 0), (1, .int (nI z))], [], M1)) (o := []) rfl trivial ?_
          rw [show ((nI k) + (nI 1)) = (nI (k + 1)) from (n_add rfl rfl)]
          exact ih (mn z (400 - σ 90) - (k + 1)) (by omega) (k + 1) M1 rfl (by omega) (show StC M1 6 (hour (hK σ k)) by rw [hτ]; exact hs2) hF6 hH7
    exact loop (mn z (400 - σ 90) - 0) 0 M rfl (by omega) hS hF hH
  · show Wn _ 14 _ (32, [(2, .int (if (nI (400 - σ 90)) < (nI z) then (nI (400 - σ 90)) else (nI z))), (0, .ref 0), (1, .int (nI z))], [], M)
    have c9_90 := Bd_90 hB
    have h1 := mt (n_le (n_minM rfl rfl (by omega) (by omega)) nI_0.symm (by omega) (by omega)).mpr h1
    have c9_90 := Bd_90 hB
    rw [show (if (nI (400 - σ 90)) < (nI z) then (nI (400 - σ 90)) else (nI z)) = (nI (mn z (400 - σ 90))) from (n_minM rfl rfl (by omega) (by omega))]
    refine Wn.run (tab := tb_i_hours) rfl 5 (c' := (43, [(2, .int (nI (mn z (400 - σ 90)))), (0, .ref 0), (1, .int (nI z))], [.ref 6, .ref 35], M)) (o := [shp 0 = (0, 9), shp 0 = (0, 9), shp 2 = (0, 8)]) rfl ⟨rfl, rfl, rfl⟩ ?_
    refine Wn.callV (p := 35) (n := 2) (ix := 243) (ci := (1)) (PKC M 6 σ (hpn n) (hpH n H σ)) [.ref 6] [] rfl rfl rfl rfl (Nat.le_of_ble_eq_true rfl) (Nat.le_of_ble_eq_true rfl) (c_hy_keep _ M σ n H hS hH) ?_
    rintro _ M8 ⟨rfl, hs9, hH10, hF11⟩
    show Wn _ 14 _ (46, [(2, .int (nI (mn z (400 - σ 90)))), (0, .ref 0), (1, .int (nI z))], [], M8)
    have hc12 := cl_fr hF11 (by decide) hw
    have hc13 := cl_fr hF11 (by decide) hx
    have hF14 := fr_tr hF hF11 (by decide)
    refine Wn.run (tab := tb_i_hours) rfl 2 (c' := (48, [(3, .int (nI 0)), (2, .int (nI (mn z (400 - σ 90)))), (0, .ref 0), (1, .int (nI z))], [], M8)) (o := []) rfl trivial ?_
    have hV0 := hV
    have loop : ∀ (m k : Nat) (N : Mm), mn z (400 - σ 90) - k = m → k ≤ mn z (400 - σ 90) → (StC N 6 (hK σ k)) → (Fr CL M N) → (HC N (hpn n) (hpH n H σ)) → Wn (d + 5) 14 (PC M (hK σ (mn z (400 - σ 90))) (if 0 < mn z (400 - σ 90) then hpn n else n) (if 0 < mn z (400 - σ 90) then hpH n H σ else H) (some (.int (nI (mn z (400 - σ 90)))))) (48, [(3, .int (nI k)), (2, .int (nI (mn z (400 - σ 90)))), (0, .ref 0), (1, .int (nI z))], [], N) := by
      intro m
      induction m using Nat.strongRecOn with
      | _ m ih =>
        intro k N hm hk loop_0 loop_1 loop_2
        have ht9 := hK_90 c9_2 k
        have hV9 := Inv_hK hV0 k (by omega)
        obtain ⟨τ, hτ⟩ : ∃ τ, hK σ k = τ := ⟨_, rfl⟩
        rw [hτ] at loop_0 ht9 hV9
        have hB := hV9.1
        have hV := hV9
        have k90 := Bd_90 hB
        obtain ⟨w9, hw9⟩ : ∃ w, N.1 6 11 = w := ⟨_, rfl⟩
        obtain ⟨x9, hx9⟩ : ∃ x, N.1 6 12 = x := ⟨_, rfl⟩
        refine Wn.run (tab := tb_i_hours) rfl 3 (c' := (if (nI (mn z (400 - σ 90))) ≤ (nI k) then 69 else 53, [(3, .int (nI k)), (2, .int (nI (mn z (400 - σ 90)))), (0, .ref 0), (1, .int (nI z))], [], N)) (o := []) rfl trivial ?_
        refine Wn.br (fun h3 => ?_) (fun h3 => ?_)
        · show Wn _ 14 _ (69, [(3, .int (nI k)), (2, .int (nI (mn z (400 - σ 90)))), (0, .ref 0), (1, .int (nI z))], [], N)
          have h3 := (n_le rfl rfl (by omega) (by omega)).mp h3
          refine Wn.run (tab := tb_i_hours) rfl 1 (c' := (70, [(3, .int (nI k)), (2, .int (nI (mn z (400 - σ 90)))), (0, .ref 0), (1, .int (nI z))], [.int (nI (mn z (400 - σ 90)))], N)) (o := []) rfl trivial ?_
          have e9 : k = mn z (400 - σ 90) := by omega
          rw [← e9, hτ]
          rw [if_pos (show 0 < k by omega), if_pos (show 0 < k by omega)]
          exact Wn.iret rfl ⟨rfl, loop_0, loop_2, loop_1⟩
        · show Wn _ 14 _ (53, [(3, .int (nI k)), (2, .int (nI (mn z (400 - σ 90)))), (0, .ref 0), (1, .int (nI z))], [], N)
          have h3 := mt (n_le rfl rfl (by omega) (by omega)).mpr h3
          refine Wn.run (tab := tb_i_hours) rfl 3 (c' := (60, [(3, .int (nI k)), (2, .int (nI (mn z (400 - σ 90)))), (0, .ref 0), (1, .int (nI z))], [.ref 6], N)) (o := [shp 0 = (0, 9), shp 2 = (0, 8)]) rfl ⟨rfl, rfl⟩ ?_
          refine Wn.callV (p := 6) (n := 1) (ix := 276) (ci := (5)) (PS 6 N (hour τ) (w9 ||| nI (swN τ (τ 2))) x9 none) [] [] rfl rfl rfl rfl (Nat.le_of_ble_eq_true rfl) (Nat.le_of_ble_eq_true rfl) (c_st_passHour _ N 6 τ loop_0 hB w9 x9 hw9 hx9 hV (by omega)) ?_
          rintro _ M15 ⟨rfl, hs16, hw17, hx18, hF19⟩
          show Wn _ 14 _ (63, [(3, .int (nI k)), (2, .int (nI (mn z (400 - σ 90)))), (0, .ref 0), (1, .int (nI z))], [], M15)
          have hF20 := fr_tr loop_1 hF19 (by decide)
          have hH21 := HC_fr hF19 loop_2 (by decide)
          refine Wn.run (tab := tb_i_hours) rfl 2 (c' := (48, [(3, .int ((nI k) + (nI 1))), (2, .int (nI (mn z (400 - σ 90)))), (0, .ref 0), (1, .int (nI z))], [], M15)) (o := []) rfl trivial ?_
          rw [show ((nI k) + (nI 1)) = (nI (k + 1)) from (n_add rfl rfl)]
          exact ih (mn z (400 - σ 90) - (k + 1)) (by omega) (k + 1) M15 rfl (by omega) (show StC M15 6 (hour (hK σ k)) by rw [hτ]; exact hs16) hF20 hH21
    exact loop (mn z (400 - σ 90) - 0) 0 M8 rfl (by omega) hs9 hF14 hH10
set_option maxRecDepth 20000 in
theorem c_i_hoursN (d : Nat) (M : Mm) (σ : Nat → Nat) (n : Nat) (H : Nat → Nat → Nat) (hS : StC M 6 σ) (hV : Inv σ) (hH : HC M n H) (z : Int32) (hns : ¬ ((nI 1).toInt ≤ z.toInt ∧ z.toInt ≤ (nI 60).toInt)) : Wn (d + 0) 14 (PC M σ n H (some (.int (-1)))) (0, lv_args 0 [.ref 0, .int z], [], M) := by
  have hF := fr_rf CL M
  have hB := hV.1
  have hI := hV.2.1
  have hb := hV.2.2.2
  have c9_2 := Bd_2 hB
  have k90 := Bd_90 hB
  have l6 : lkp 6 = 3 := rfl
  obtain ⟨w, hw⟩ : ∃ w, M.1 6 11 = w := ⟨_, rfl⟩
  obtain ⟨x, hx⟩ : ∃ x, M.1 6 12 = x := ⟨_, rfl⟩
  refine Wn.run (tab := tb_i_hours) rfl 3 (c' := (if z < (nI 1) then 11 else 5, [(0, .ref 0), (1, .int z)], [], M)) (o := []) rfl trivial ?_
  refine Wn.br (fun h1 => ?_) (fun h1 => ?_)
  · show Wn _ 14 _ (11, [(0, .ref 0), (1, .int z)], [], M)
    refine Wn.run (tab := tb_i_hours) rfl 1 (c' := (12, [(0, .ref 0), (1, .int z)], [.int (-1 : Int32)], M)) (o := []) rfl trivial ?_
    exact Wn.iret rfl ⟨rfl, hS, hH, hF⟩
  · show Wn _ 14 _ (5, [(0, .ref 0), (1, .int z)], [], M)
    refine Wn.run (tab := tb_i_hours) rfl 3 (c' := (if z ≤ (nI 60) then 13 else 11, [(0, .ref 0), (1, .int z)], [], M)) (o := []) rfl trivial ?_
    refine Wn.br (fun h2 => ?_) (fun h2 => ?_)
    · show Wn _ 14 _ (13, [(0, .ref 0), (1, .int z)], [], M)
      exact absurd ⟨by have q9 := mt Int32.lt_iff_toInt_lt.mpr h1; rw [nI_toInt (by decide)] at q9 ⊢; omega, by have q9 := Int32.le_iff_toInt_le.mp h2; exact q9⟩ hns
    · show Wn _ 14 _ (11, [(0, .ref 0), (1, .int z)], [], M)
      refine Wn.run (tab := tb_i_hours) rfl 1 (c' := (12, [(0, .ref 0), (1, .int z)], [.int (-1 : Int32)], M)) (o := []) rfl trivial ?_
      exact Wn.iret rfl ⟨rfl, hS, hH, hF⟩
set_option maxRecDepth 20000 in
theorem c_i_drawn (d : Nat) (M : Mm) (σ : Nat → Nat) (n : Nat) (H : Nat → Nat → Nat) (hS : StC M 6 σ) (hV : Inv σ) (hH : HC M n H) (z : Nat) (y : Int32) (h1z : 1 ≤ z) (h2z : z ≤ 60) (hp : ∀ r, r < 6 → σ (172 + r) + 6 < 1073741824) : Wn (d + 7) 15 (PC M (dK σ y (mn z (400 - σ 90))).1 (if 0 < mn z (400 - σ 90) then hpn n else n) (if 0 < mn z (400 - σ 90) then hpH n H σ else H) (some (.int (nI (mn z (400 - σ 90)))))) (0, lv_args 0 [.ref 0, .int (nI z), .int y], [], M) := by
  have hF := fr_rf CL M
  have hB := hV.1
  have hI := hV.2.1
  have hb := hV.2.2.2
  have c9_2 := Bd_2 hB
  have k90 := Bd_90 hB
  have l6 : lkp 6 = 3 := rfl
  obtain ⟨w, hw⟩ : ∃ w, M.1 6 11 = w := ⟨_, rfl⟩
  obtain ⟨x, hx⟩ : ∃ x, M.1 6 12 = x := ⟨_, rfl⟩
  have m9 := mn_le z (400 - σ 90)
  have m8 := mn_or z (400 - σ 90)
  refine Wn.run (tab := tb_i_drawn) rfl 3 (c' := (if (nI z) < (nI 1) then 11 else 5, [(0, .ref 0), (1, .int (nI z)), (2, .int y)], [], M)) (o := []) rfl trivial ?_
  rw [if_neg (mt (n_lt rfl rfl (by omega) (by omega)).mp (by omega))]
  show Wn _ 15 _ (5, [(0, .ref 0), (1, .int (nI z)), (2, .int y)], [], M)
  refine Wn.run (tab := tb_i_drawn) rfl 3 (c' := (if (nI z) ≤ (nI 60) then 13 else 11, [(0, .ref 0), (1, .int (nI z)), (2, .int y)], [], M)) (o := []) rfl trivial ?_
  rw [if_pos ((n_le rfl rfl (by omega) (by omega)).mpr (by omega))]
  show Wn _ 15 _ (13, [(0, .ref 0), (1, .int (nI z)), (2, .int y)], [], M)
  refine Wn.run (tab := tb_i_drawn) rfl 4 (c' := (21, [(0, .ref 0), (1, .int (nI z)), (2, .int y)], [.ref 6, .int (nI z)], M)) (o := [shp 0 = (0, 9), shp 2 = (0, 8)]) rfl ⟨rfl, rfl⟩ ?_
  refine Wn.callV (p := 6) (n := 1) (ix := 268) (ci := (5)) (fun r0 M0 => r0 = some (.int (nI (400 - σ 90))) ∧ M = M0) [] [.int (nI z)] rfl rfl rfl rfl (Nat.le_of_ble_eq_true rfl) (Nat.le_of_ble_eq_true rfl) (w_st_hoursLeft _ M 6 σ hS hB  _ ⟨rfl, rfl⟩) ?_
  rintro _ _ ⟨rfl, rfl⟩
  show Wn _ 15 _ (24, [(0, .ref 0), (1, .int (nI z)), (2, .int y)], [.int (nI (400 - σ 90)), .int (nI z)], M)
  refine Wn.run (tab := tb_i_drawn) rfl 4 (c' := (if (if (nI (400 - σ 90)) < (nI z) then (nI (400 - σ 90)) else (nI z)) ≤ 0 then 57 else 32, [(3, .int (if (nI (400 - σ 90)) < (nI z) then (nI (400 - σ 90)) else (nI z))), (0, .ref 0), (1, .int (nI z)), (2, .int y)], [], M)) (o := [ct [] ≤ 8]) rfl (Nat.le_of_ble_eq_true rfl) ?_
  refine Wn.br (fun h1 => ?_) (fun h1 => ?_)
  · show Wn _ 15 _ (57, [(3, .int (if (nI (400 - σ 90)) < (nI z) then (nI (400 - σ 90)) else (nI z))), (0, .ref 0), (1, .int (nI z)), (2, .int y)], [], M)
    have c9_90 := Bd_90 hB
    have h1 := (n_le (n_minM rfl rfl (by omega) (by omega)) nI_0.symm (by omega) (by omega)).mp h1
    have c9_90 := Bd_90 hB
    rw [show (if (nI (400 - σ 90)) < (nI z) then (nI (400 - σ 90)) else (nI z)) = (nI (mn z (400 - σ 90))) from (n_minM rfl rfl (by omega) (by omega))]
    refine Wn.run (tab := tb_i_drawn) rfl 2 (c' := (60, [(4, .int (nI 0)), (3, .int (nI (mn z (400 - σ 90)))), (0, .ref 0), (1, .int (nI z)), (2, .int y)], [], M)) (o := []) rfl trivial ?_
    have hV0 := hV
    have loop : ∀ (m k : Nat) (N : Mm), mn z (400 - σ 90) - k = m → k ≤ mn z (400 - σ 90) → (StC N 6 (dK σ y k).1) → (mn z (400 - σ 90) = 0 ∨ N.1 6 12 = (dK σ y k).2) → (Fr CL M N) → (HC N n H) → Wn (d + 7) 15 (PC M (dK σ y (mn z (400 - σ 90))).1 (if 0 < mn z (400 - σ 90) then hpn n else n) (if 0 < mn z (400 - σ 90) then hpH n H σ else H) (some (.int (nI (mn z (400 - σ 90)))))) (60, [(4, .int (nI k)), (3, .int (nI (mn z (400 - σ 90)))), (0, .ref 0), (1, .int (nI z)), (2, .int y)], [], N) := by
      intro m
      induction m using Nat.strongRecOn with
      | _ m ih =>
        intro k N hm hk loop_0 loop_1 loop_2 loop_3
        obtain ⟨i1, i2, i3, i4⟩ := dK_ok hV0 (x := y) hp k (by omega)
        obtain ⟨τ, hτ⟩ : ∃ τ, (dK σ y k).1 = τ := ⟨_, rfl⟩
        obtain ⟨y2, hy⟩ : ∃ v9, (dK σ y k).2 = v9 := ⟨_, rfl⟩
        rw [hτ] at loop_0 i1 i2 i3 i4
        have hV := i1
        have hB := hV.1
        have k90 := Bd_90 hB
        obtain ⟨w9, hw9⟩ : ∃ w, N.1 6 11 = w := ⟨_, rfl⟩
        refine Wn.run (tab := tb_i_drawn) rfl 3 (c' := (if (nI (mn z (400 - σ 90))) ≤ (nI k) then 82 else 66, [(4, .int (nI k)), (3, .int (nI (mn z (400 - σ 90)))), (0, .ref 0), (1, .int (nI z)), (2, .int y)], [], N)) (o := []) rfl trivial ?_
        refine Wn.br (fun h2 => ?_) (fun h2 => ?_)
        · show Wn _ 15 _ (82, [(4, .int (nI k)), (3, .int (nI (mn z (400 - σ 90)))), (0, .ref 0), (1, .int (nI z)), (2, .int y)], [], N)
          have h2 := (n_le rfl rfl (by omega) (by omega)).mp h2
          refine Wn.run (tab := tb_i_drawn) rfl 1 (c' := (83, [(4, .int (nI k)), (3, .int (nI (mn z (400 - σ 90)))), (0, .ref 0), (1, .int (nI z)), (2, .int y)], [.int (nI (mn z (400 - σ 90)))], N)) (o := []) rfl trivial ?_
          have e9 : k = mn z (400 - σ 90) := by omega
          rw [← e9, hτ]
          rw [if_neg (show ¬ 0 < k by omega), if_neg (show ¬ 0 < k by omega)]
          exact Wn.iret rfl ⟨rfl, loop_0, loop_3, loop_2⟩
        · show Wn _ 15 _ (66, [(4, .int (nI k)), (3, .int (nI (mn z (400 - σ 90)))), (0, .ref 0), (1, .int (nI z)), (2, .int y)], [], N)
          have h2 := mt (n_le rfl rfl (by omega) (by omega)).mpr h2
          have hx9 : N.1 6 12 = y2 := by rw [← hy]; exact loop_1.resolve_left (by omega)
          refine Wn.run (tab := tb_i_drawn) rfl 3 (c' := (73, [(4, .int (nI k)), (3, .int (nI (mn z (400 - σ 90)))), (0, .ref 0), (1, .int (nI z)), (2, .int y)], [.ref 6], N)) (o := [shp 0 = (0, 9), shp 2 = (0, 8)]) rfl ⟨rfl, rfl⟩ ?_
          refine Wn.callV (p := 6) (n := 1) (ix := 282) (ci := (5)) (PX 6 N (hour (dhN τ y2 (τ 2)).1) ((dhN τ y2 (τ 2)).2) none) [] [] rfl rfl rfl rfl (Nat.le_of_ble_eq_true rfl) (Nat.le_of_ble_eq_true rfl) (c_st_drawHour _ N 6 τ loop_0 hV y2 hx9 i4 (by omega)) ?_
          rintro _ M1 ⟨rfl, hs2, hx3, hF4⟩
          show Wn _ 15 _ (76, [(4, .int (nI k)), (3, .int (nI (mn z (400 - σ 90)))), (0, .ref 0), (1, .int (nI z)), (2, .int y)], [], M1)
          obtain ⟨w6, hw5⟩ : ∃ w, M1.1 6 11 = w := ⟨_, rfl⟩
          have hF7 := fr_tr loop_2 hF4 (by decide)
          have hH8 := HC_fr hF4 loop_3 (by decide)
          refine Wn.run (tab := tb_i_drawn) rfl 2 (c' := (60, [(4, .int ((nI k) + (nI 1))), (3, .int (nI (mn z (400 - σ 90)))), (0, .ref 0), (1, .int (nI z)), (2, .int y)], [], M1)) (o := []) rfl trivial ?_
          rw [show ((nI k) + (nI 1)) = (nI (k + 1)) from (n_add rfl rfl)]
          exact ih (mn z (400 - σ 90) - (k + 1)) (by omega) (k + 1) M1 rfl (by omega) (show StC M1 6 (dK σ y (k + 1)).1 by rw [dK_s, hτ, hy]; exact hs2) (Or.inr (show M1.1 6 12 = (dK σ y (k + 1)).2 by rw [dK_s, hτ, hy]; exact hx3)) hF7 hH8
    exact loop (mn z (400 - σ 90) - 0) 0 M rfl (by omega) hS (Or.inl (by omega)) hF hH
  · show Wn _ 15 _ (32, [(3, .int (if (nI (400 - σ 90)) < (nI z) then (nI (400 - σ 90)) else (nI z))), (0, .ref 0), (1, .int (nI z)), (2, .int y)], [], M)
    have c9_90 := Bd_90 hB
    have h1 := mt (n_le (n_minM rfl rfl (by omega) (by omega)) nI_0.symm (by omega) (by omega)).mpr h1
    have c9_90 := Bd_90 hB
    rw [show (if (nI (400 - σ 90)) < (nI z) then (nI (400 - σ 90)) else (nI z)) = (nI (mn z (400 - σ 90))) from (n_minM rfl rfl (by omega) (by omega))]
    refine Wn.run (tab := tb_i_drawn) rfl 5 (c' := (43, [(3, .int (nI (mn z (400 - σ 90)))), (0, .ref 0), (1, .int (nI z)), (2, .int y)], [.ref 6, .ref 35], M)) (o := [shp 0 = (0, 9), shp 0 = (0, 9), shp 2 = (0, 8)]) rfl ⟨rfl, rfl, rfl⟩ ?_
    refine Wn.callV (p := 35) (n := 2) (ix := 243) (ci := (1)) (PKC M 6 σ (hpn n) (hpH n H σ)) [.ref 6] [] rfl rfl rfl rfl (Nat.le_of_ble_eq_true rfl) (Nat.le_of_ble_eq_true rfl) (c_hy_keep _ M σ n H hS hH) ?_
    rintro _ M9 ⟨rfl, hs10, hH11, hF12⟩
    show Wn _ 15 _ (46, [(3, .int (nI (mn z (400 - σ 90)))), (0, .ref 0), (1, .int (nI z)), (2, .int y)], [], M9)
    have hc13 := cl_fr hF12 (by decide) hw
    have hc14 := cl_fr hF12 (by decide) hx
    have hF15 := fr_tr hF hF12 (by decide)
    refine Wn.run (tab := tb_i_drawn) rfl 5 (c' := (57, [(3, .int (nI (mn z (400 - σ 90)))), (0, .ref 0), (1, .int (nI z)), (2, .int y)], [], (mI M9 6 (upd (M9.1 6) 12 y)))) (o := [shp 0 = (0, 9), shp 2 = (0, 8), shp 6 = (0, 5)]) rfl ⟨rfl, rfl, rfl⟩ ?_
    generalize hM17 : (mI M9 6 (upd (M9.1 6) 12 y)) = M16
    have hs18 := st_fx hM17 hs10 (by decide)
    have hc19 := cl_nx hM17 (by decide) hc13
    have hc20 := cl_eq hM17
    have hF21 := fr_sI hF15 hM17 (by decide)
    have hH22 := HC_fr (fr_1I hM17) hH11 (by decide)
    show Wn _ 15 _ (57, [(3, .int (nI (mn z (400 - σ 90)))), (0, .ref 0), (1, .int (nI z)), (2, .int y)], [], M16)
    refine Wn.run (tab := tb_i_drawn) rfl 2 (c' := (60, [(4, .int (nI 0)), (3, .int (nI (mn z (400 - σ 90)))), (0, .ref 0), (1, .int (nI z)), (2, .int y)], [], M16)) (o := []) rfl trivial ?_
    have hV0 := hV
    have loop : ∀ (m k : Nat) (N : Mm), mn z (400 - σ 90) - k = m → k ≤ mn z (400 - σ 90) → (StC N 6 (dK σ y k).1) → (mn z (400 - σ 90) = 0 ∨ N.1 6 12 = (dK σ y k).2) → (Fr CL M N) → (HC N (hpn n) (hpH n H σ)) → Wn (d + 7) 15 (PC M (dK σ y (mn z (400 - σ 90))).1 (if 0 < mn z (400 - σ 90) then hpn n else n) (if 0 < mn z (400 - σ 90) then hpH n H σ else H) (some (.int (nI (mn z (400 - σ 90)))))) (60, [(4, .int (nI k)), (3, .int (nI (mn z (400 - σ 90)))), (0, .ref 0), (1, .int (nI z)), (2, .int y)], [], N) := by
      intro m
      induction m using Nat.strongRecOn with
      | _ m ih =>
        intro k N hm hk loop_0 loop_1 loop_2 loop_3
        obtain ⟨i1, i2, i3, i4⟩ := dK_ok hV0 (x := y) hp k (by omega)
        obtain ⟨τ, hτ⟩ : ∃ τ, (dK σ y k).1 = τ := ⟨_, rfl⟩
        obtain ⟨y2, hy⟩ : ∃ v9, (dK σ y k).2 = v9 := ⟨_, rfl⟩
        rw [hτ] at loop_0 i1 i2 i3 i4
        have hV := i1
        have hB := hV.1
        have k90 := Bd_90 hB
        obtain ⟨w9, hw9⟩ : ∃ w, N.1 6 11 = w := ⟨_, rfl⟩
        refine Wn.run (tab := tb_i_drawn) rfl 3 (c' := (if (nI (mn z (400 - σ 90))) ≤ (nI k) then 82 else 66, [(4, .int (nI k)), (3, .int (nI (mn z (400 - σ 90)))), (0, .ref 0), (1, .int (nI z)), (2, .int y)], [], N)) (o := []) rfl trivial ?_
        refine Wn.br (fun h3 => ?_) (fun h3 => ?_)
        · show Wn _ 15 _ (82, [(4, .int (nI k)), (3, .int (nI (mn z (400 - σ 90)))), (0, .ref 0), (1, .int (nI z)), (2, .int y)], [], N)
          have h3 := (n_le rfl rfl (by omega) (by omega)).mp h3
          refine Wn.run (tab := tb_i_drawn) rfl 1 (c' := (83, [(4, .int (nI k)), (3, .int (nI (mn z (400 - σ 90)))), (0, .ref 0), (1, .int (nI z)), (2, .int y)], [.int (nI (mn z (400 - σ 90)))], N)) (o := []) rfl trivial ?_
          have e9 : k = mn z (400 - σ 90) := by omega
          rw [← e9, hτ]
          rw [if_pos (show 0 < k by omega), if_pos (show 0 < k by omega)]
          exact Wn.iret rfl ⟨rfl, loop_0, loop_3, loop_2⟩
        · show Wn _ 15 _ (66, [(4, .int (nI k)), (3, .int (nI (mn z (400 - σ 90)))), (0, .ref 0), (1, .int (nI z)), (2, .int y)], [], N)
          have h3 := mt (n_le rfl rfl (by omega) (by omega)).mpr h3
          have hx9 : N.1 6 12 = y2 := by rw [← hy]; exact loop_1.resolve_left (by omega)
          refine Wn.run (tab := tb_i_drawn) rfl 3 (c' := (73, [(4, .int (nI k)), (3, .int (nI (mn z (400 - σ 90)))), (0, .ref 0), (1, .int (nI z)), (2, .int y)], [.ref 6], N)) (o := [shp 0 = (0, 9), shp 2 = (0, 8)]) rfl ⟨rfl, rfl⟩ ?_
          refine Wn.callV (p := 6) (n := 1) (ix := 282) (ci := (5)) (PX 6 N (hour (dhN τ y2 (τ 2)).1) ((dhN τ y2 (τ 2)).2) none) [] [] rfl rfl rfl rfl (Nat.le_of_ble_eq_true rfl) (Nat.le_of_ble_eq_true rfl) (c_st_drawHour _ N 6 τ loop_0 hV y2 hx9 i4 (by omega)) ?_
          rintro _ M23 ⟨rfl, hs24, hx25, hF26⟩
          show Wn _ 15 _ (76, [(4, .int (nI k)), (3, .int (nI (mn z (400 - σ 90)))), (0, .ref 0), (1, .int (nI z)), (2, .int y)], [], M23)
          obtain ⟨w28, hw27⟩ : ∃ w, M23.1 6 11 = w := ⟨_, rfl⟩
          have hF29 := fr_tr loop_2 hF26 (by decide)
          have hH30 := HC_fr hF26 loop_3 (by decide)
          refine Wn.run (tab := tb_i_drawn) rfl 2 (c' := (60, [(4, .int ((nI k) + (nI 1))), (3, .int (nI (mn z (400 - σ 90)))), (0, .ref 0), (1, .int (nI z)), (2, .int y)], [], M23)) (o := []) rfl trivial ?_
          rw [show ((nI k) + (nI 1)) = (nI (k + 1)) from (n_add rfl rfl)]
          exact ih (mn z (400 - σ 90) - (k + 1)) (by omega) (k + 1) M23 rfl (by omega) (show StC M23 6 (dK σ y (k + 1)).1 by rw [dK_s, hτ, hy]; exact hs24) (Or.inr (show M23.1 6 12 = (dK σ y (k + 1)).2 by rw [dK_s, hτ, hy]; exact hx25)) hF29 hH30
    exact loop (mn z (400 - σ 90) - 0) 0 M16 rfl (by omega) hs18 (Or.inr hc20) hF21 hH22
set_option maxRecDepth 20000 in
theorem c_i_drawnN (d : Nat) (M : Mm) (σ : Nat → Nat) (n : Nat) (H : Nat → Nat → Nat) (hS : StC M 6 σ) (hV : Inv σ) (hH : HC M n H) (z y : Int32) (hns : ¬ ((nI 1).toInt ≤ z.toInt ∧ z.toInt ≤ (nI 60).toInt)) : Wn (d + 0) 15 (PC M σ n H (some (.int (-1)))) (0, lv_args 0 [.ref 0, .int z, .int y], [], M) := by
  have hF := fr_rf CL M
  have hB := hV.1
  have hI := hV.2.1
  have hb := hV.2.2.2
  have c9_2 := Bd_2 hB
  have k90 := Bd_90 hB
  have l6 : lkp 6 = 3 := rfl
  obtain ⟨w, hw⟩ : ∃ w, M.1 6 11 = w := ⟨_, rfl⟩
  obtain ⟨x, hx⟩ : ∃ x, M.1 6 12 = x := ⟨_, rfl⟩
  refine Wn.run (tab := tb_i_drawn) rfl 3 (c' := (if z < (nI 1) then 11 else 5, [(0, .ref 0), (1, .int z), (2, .int y)], [], M)) (o := []) rfl trivial ?_
  refine Wn.br (fun h1 => ?_) (fun h1 => ?_)
  · show Wn _ 15 _ (11, [(0, .ref 0), (1, .int z), (2, .int y)], [], M)
    refine Wn.run (tab := tb_i_drawn) rfl 1 (c' := (12, [(0, .ref 0), (1, .int z), (2, .int y)], [.int (-1 : Int32)], M)) (o := []) rfl trivial ?_
    exact Wn.iret rfl ⟨rfl, hS, hH, hF⟩
  · show Wn _ 15 _ (5, [(0, .ref 0), (1, .int z), (2, .int y)], [], M)
    refine Wn.run (tab := tb_i_drawn) rfl 3 (c' := (if z ≤ (nI 60) then 13 else 11, [(0, .ref 0), (1, .int z), (2, .int y)], [], M)) (o := []) rfl trivial ?_
    refine Wn.br (fun h2 => ?_) (fun h2 => ?_)
    · show Wn _ 15 _ (13, [(0, .ref 0), (1, .int z), (2, .int y)], [], M)
      exact absurd ⟨by have q9 := mt Int32.lt_iff_toInt_lt.mpr h1; rw [nI_toInt (by decide)] at q9 ⊢; omega, by have q9 := Int32.le_iff_toInt_le.mp h2; exact q9⟩ hns
    · show Wn _ 15 _ (11, [(0, .ref 0), (1, .int z), (2, .int y)], [], M)
      refine Wn.run (tab := tb_i_drawn) rfl 1 (c' := (12, [(0, .ref 0), (1, .int z), (2, .int y)], [.int (-1 : Int32)], M)) (o := []) rfl trivial ?_
      exact Wn.iret rfl ⟨rfl, hS, hH, hF⟩
set_option maxRecDepth 20000 in
theorem c_i_undo (d : Nat) (M : Mm) (σ : Nat → Nat) (n : Nat) (H : Nat → Nat → Nat) (hS : StC M 6 σ) (hV : Inv σ) (hH : HC M n H)  : Wn (d + 2) 16 (PC M (if n = 0 then σ else H (n - 1)) (n - 1) H (some (.int (if n = 0 then -1 else nI (n - 1))))) (0, lv_args 0 [.ref 0], [], M) := by
  have hF := fr_rf CL M
  have hB := hV.1
  have hI := hV.2.1
  have hb := hV.2.2.2
  have c9_2 := Bd_2 hB
  have k90 := Bd_90 hB
  have l6 : lkp 6 = 3 := rfl
  obtain ⟨w, hw⟩ : ∃ w, M.1 6 11 = w := ⟨_, rfl⟩
  obtain ⟨x, hx⟩ : ∃ x, M.1 6 12 = x := ⟨_, rfl⟩
  refine Wn.run (tab := tb_i_undo) rfl 5 (c' := (11, [(0, .ref 0)], [.ref 6, .ref 35], M)) (o := [shp 0 = (0, 9), shp 0 = (0, 9), shp 2 = (0, 8)]) rfl ⟨rfl, rfl, rfl⟩ ?_
  refine Wn.callV (p := 35) (n := 2) (ix := 285) (ci := (1)) (PTB M σ n H) [.ref 6] [] rfl rfl rfl rfl (Nat.le_of_ble_eq_true rfl) (Nat.le_of_ble_eq_true rfl) (c_hy_takeBack _ M σ n H hS hH) ?_
  rintro _ M1 ⟨rfl, hs2, hH3, hF4⟩
  show Wn _ 16 _ (14, [(0, .ref 0)], [.int (if n = 0 then nI 0 else nI 1)], M1)
  have hF5 := fr_tr hF hF4 (by decide)
  refine Wn.run (tab := tb_i_undo) rfl 1 (c' := (if (if n = 0 then nI 0 else nI 1) = 0 then 27 else 17, [(0, .ref 0)], [], M1)) (o := []) rfl trivial ?_
  refine Wn.br (fun h1 => ?_) (fun h1 => ?_)
  · show Wn _ 16 _ (27, [(0, .ref 0)], [], M1)
    have h0 : n = 0 := by
      apply Classical.byContradiction; intro h9
      rw [if_neg h9] at h1
      exact absurd h1 (by decide)
    refine Wn.run (tab := tb_i_undo) rfl 1 (c' := (28, [(0, .ref 0)], [.int (-1 : Int32)], M1)) (o := []) rfl trivial ?_
    exact Wn.iret rfl ⟨by rw [if_pos h0], hs2, hH3, hF5⟩
  · show Wn _ 16 _ (17, [(0, .ref 0)], [], M1)
    have h0 : ¬ n = 0 := by
      intro h9
      rw [if_pos h9] at h1
      exact h1 rfl
    have q0 := hH3
    obtain ⟨x0, q1, q2, q3, q4⟩ := q0
    refine Wn.run (tab := tb_i_undo) rfl 4 (c' := (28, [(0, .ref 0)], [.int (M1.1 35 2)], M1)) (o := [shp 0 = (0, 9), shp 35 = (0, 1)]) rfl ⟨rfl, rfl⟩ ?_
    rw [show (M1.1 35 2) = (nI (n - 1)) from q3]
    exact Wn.iret rfl ⟨by rw [if_neg h0], hs2, hH3, hF5⟩
