/-! A line of a book, lived. -/
def doW (σ : Nat → Nat) (e : Bke) : Nat := if e.1 = 0 then wgo σ e.2.1 e.2.2 else if e.1 = 1 then (if wbw σ e.2.1 = 0 then 0 else 10 + wbw σ e.2.1) else if e.1 = 2 then (if wpr σ e.2.1 e.2.2 = 0 then 0 else 20 + wpr σ e.2.1 e.2.2) else if e.1 = 3 then (if fal σ e.2.1 = true then 31 else 0) else (if 400 < σ 90 + e.2.1 then 41 else 0)
def doS (σ : Nat → Nat) (e : Bke) : Nat → Nat := if e.1 = 0 then gof σ e.2.1 e.2.2 else if e.1 = 1 then bowf σ e.2.1 else if e.1 = 2 then prf σ e.2.1 e.2.2 else if e.1 = 3 then swf σ e.2.1 else (if 400 < σ 90 + e.2.1 then σ else hK σ e.2.1)
theorem hK_pr {σ : Nat → Nat} {r : Nat} (hr : r < 6) : ∀ n, hK σ n (172 + r) ≤ σ (172 + r)
  | 0 => Nat.le_refl _
  | n + 1 => by show hour (hK σ n) (172 + r) ≤ _; rw [hour_pr hr]; exact Nat.zero_le _
theorem bowf_lo {σ : Nat → Nat} {q k : Nat} (hq : q < 6) (ha : σ (160 + q) < 64) (hk : k < 90 ∨ 172 ≤ k) : bowf σ q k = σ k := by
  unfold bowf
  split
  · exact bend_lo hq ha (by omega)
  · rfl
theorem swf_lo {σ : Nat → Nat} {q k : Nat} (hq : q < 6) (hk : k < 90 ∨ 172 ≤ k) : swf σ q k = σ k := by
  unfold swf
  split
  · rfl
  · exact curse_hi hq (by omega)
theorem doW_le {σ : Nat → Nat} {e : Bke} : doW σ e ≤ 41 := by
  unfold doW
  have h1 := wgo_le σ e.2.1 e.2.2
  have h2 := wbw_le σ e.2.1
  have h3 := wpr_le σ e.2.1 e.2.2
  repeat (first | omega | split)
/-- the least that the lines keep -/
theorem doS_inv {σ : Nat → Nat} {e : Bke} (hV : Inv σ) (hE : EOk (σ 2) e) (hp : ∀ r, r < 6 → σ (172 + r) + 1 < 1073741824) : Inv (doS σ e) := by
  obtain ⟨h4, hh, hq, hs, hr⟩ := hE
  have b2 := Bd_2 hV.1
  unfold doS
  by_cases c0 : e.1 = 0
  · rw [if_pos c0]; exact Inv_gof hV (hq (by omega))
  rw [if_neg c0]
  by_cases c1 : e.1 = 1
  · rw [if_pos c1]; exact Inv_bowf hV (hq (by omega))
  rw [if_neg c1]
  by_cases c2 : e.1 = 2
  · rw [if_pos c2]; exact Inv_prf hV (hr c2) (hp _ (by have := hr c2; omega))
  rw [if_neg c2]
  by_cases c3 : e.1 = 3
  · rw [if_pos c3]; exact Inv_swf hV (by have := hq (by omega); omega)
  rw [if_neg c3]
  by_cases c4 : 400 < σ 90 + e.2.1
  · rw [if_pos c4]; exact hV
  · rw [if_neg c4]; exact Inv_hK hV _ (by omega)
theorem prf_lo {σ : Nat → Nat} {q r k : Nat} (hr : r < 6) (ha : σ (160 + r) < 64) (hk : k < 90) : prf σ q r k = σ k := by
  unfold prf
  split
  · exact flat_lo hr ha (Or.inl hk)
  · rfl
theorem doS_lo {σ : Nat → Nat} {e : Bke} (hV : Inv σ) (hE : EOk (σ 2) e) {k : Nat} (hk : k < 90) : doS σ e k = σ k := by
  obtain ⟨h4, hh, hq, hs, hr⟩ := hE
  have b2 := Bd_2 hV.1
  have ba : ∀ q, q < 6 → σ (160 + q) < 64 := fun q hq => (Bd_q hV.1 q hq).1
  unfold doS
  by_cases c0 : e.1 = 0
  · rw [if_pos c0]; exact gof_lo (by have := hq (by omega); omega) (by omega)
  rw [if_neg c0]
  by_cases c1 : e.1 = 1
  · rw [if_pos c1]; exact bowf_lo (by have := hq (by omega); omega) (ba _ (by have := hq (by omega); omega)) (by omega)
  rw [if_neg c1]
  by_cases c2 : e.1 = 2
  · rw [if_pos c2]; exact prf_lo (by have := hr c2; omega) (ba _ (by have := hr c2; omega)) hk
  rw [if_neg c2]
  by_cases c3 : e.1 = 3
  · rw [if_pos c3]; exact swf_lo (by have := hq (by omega); omega) (by omega)
  rw [if_neg c3]
  by_cases c4 : 400 < σ 90 + e.2.1
  · rw [if_pos c4]
  · rw [if_neg c4]; exact hK_lo b2 (by omega) _
theorem doS_pr {σ : Nat → Nat} {e : Bke} (hV : Inv σ) (hE : EOk (σ 2) e) {r : Nat} (hr6 : r < 6) : doS σ e (172 + r) ≤ σ (172 + r) + 1 := by
  obtain ⟨h4, hh, hq, hs, hr⟩ := hE
  have b2 := Bd_2 hV.1
  have ba : ∀ q, q < 6 → σ (160 + q) < 64 := fun q hq => (Bd_q hV.1 q hq).1
  unfold doS
  by_cases c0 : e.1 = 0
  · rw [if_pos c0, gof_lo (by have := hq (by omega); omega) (by omega)]; omega
  rw [if_neg c0]
  by_cases c1 : e.1 = 1
  · rw [if_pos c1, bowf_lo (by have := hq (by omega); omega) (ba _ (by have := hq (by omega); omega)) (by omega)]; omega
  rw [if_neg c1]
  by_cases c2 : e.1 = 2
  · rw [if_pos c2]
    unfold prf
    split
    · exact flat_pr (by have := hr c2; omega) (ba _ (by have := hr c2; omega)) hr6
    · omega
  rw [if_neg c2]
  by_cases c3 : e.1 = 3
  · rw [if_pos c3, swf_lo (by have := hq (by omega); omega) (by omega)]; omega
  rw [if_neg c3]
  by_cases c4 : 400 < σ 90 + e.2.1
  · rw [if_pos c4]; omega
  · rw [if_neg c4]; have := hK_pr (σ := σ) hr6 e.2.1; omega
theorem bl_sw : ∀ c, c < 36 → 17 ≤ c → c ≤ 24 → tsw [12, 15, 138, 44, 84, 100, 122] (Int32.ofInt (([0, 0, 0, 0, 0, 0, 0, 0, 17, 0, 5, 6, 7, 8, 9, 10, 11, 1, 2, 3, 4, 13, 14, 15, 12, 27, 26, 16, 18, 19, 20, 21, 22, 23, 24, 25] : List Int).getD ((nI c)).toNatClampNeg 0)) = if c = 24 then 44 else if c = 21 then 84 else if c = 22 then 100 else if c = 23 then 122 else 138 := by decide +kernel
def PLl (M0 : Mm) (σ : Nat → Nat) (r : Nat) : Po := fun r0 M' => r0 = some (.int (nI r)) ∧ StC M' 30 σ ∧ Fr [30, 31, 32, 33, 34] M0 M'
theorem w_bk_reason (d : Nat) (a w : Nat) (ha : a < 1000) (hw : w < 1000) (M : Mm) (Q : Po) (hQ : Q (some (.int (nI (if w = 0 then 0 else a + w)))) M) : Wn (d + 0) 156 Q (0, lv_args 0 [.int (nI a), .int (nI w)], [], M) := by
  refine Wn.run (tab := tb_bk_reason) rfl 2 (c' := (if ¬ (nI w) = 0 then 8 else 4, [(0, .int (nI a)), (1, .int (nI w))], [], M)) (o := []) rfl trivial ?_
  refine Wn.br (fun h => ?_) (fun h => ?_)
  · have h := mt (n_eq rfl nI_0.symm (by omega) (by omega)).mpr h
    refine Wn.run (tab := tb_bk_reason) rfl 3 (c' := (11, [(0, .int (nI a)), (1, .int (nI w))], [.int ((nI a) + (nI w))], M)) (o := []) rfl trivial ?_
    rw [nI_add]
    rw [if_neg h] at hQ
    exact Wn.iret rfl hQ
  · have h := (n_eq rfl nI_0.symm (by omega) (by omega)).mp (Classical.not_not.mp h)
    refine Wn.run (tab := tb_bk_reason) rfl 2 (c' := (11, [(0, .int (nI a)), (1, .int (nI w))], [.int (nI 0)], M)) (o := []) rfl trivial ?_
    rw [if_pos h] at hQ
    exact Wn.iret rfl hQ
set_option maxRecDepth 20000 in
theorem c_bk_liveLine (d : Nat) (M : Mm) (k : Nat) (hk : k < 40) (e : Bke) (σ : Nat → Nat) (hS : StC M 30 σ) (hV : Inv σ) (hA : M.2.2 80 k = 100000 + bkK e) (hD : M.1 81 k = nI (bkD e)) (hO : M.1 82 k = nI (bkO e)) (hE : EOk (σ 2) e) (hp : ∀ r, r < 6 → σ (172 + r) + 1 < 1073741824) : Wn (d + 5) 155 (PLl M (doS σ e) (doW σ e)) (0, lv_args 0 [.ref 79, .int (nI k), .ref 30], [], M) := by
  have hB := hV.1
  have b2 := Bd_2 hB
  have k90 := Bd_90 hB
  obtain ⟨h4, hh, hq, hs, hr⟩ := hE
  have kr : 17 ≤ bkK e ∧ bkK e ≤ 24 := by
    unfold bkK
    repeat (first | omega | split)
  have rA : M.2.2 80 ((nI k)).toNatClampNeg = 100000 + bkK e := by rw [nI_clamp (by omega)]; exact hA
  have rD : M.1 81 ((nI k)).toNatClampNeg = nI (bkD e) := by rw [nI_clamp (by omega)]; exact hD
  have rO : M.1 82 ((nI k)).toNatClampNeg = nI (bkO e) := by rw [nI_clamp (by omega)]; exact hO
  have ka : aok shp 80 4 (nI k) := ak1 (n := 40) rfl rfl rfl hk
  have kb : aok shp 81 0 (nI k) := ak1 (n := 40) rfl rfl rfl hk
  have kc : aok shp 82 0 (nI k) := ak1 (n := 40) rfl rfl rfl hk
  have kk : isK (M.2.2 80 ((nI k)).toNatClampNeg) := by rw [rA]; exact ⟨by omega, by omega⟩
  refine Wn.run (tab := tb_bk_liveLine) rfl 8 (c' := (tsw [12, 15, 138, 44, 84, 100, 122] (Int32.ofInt (([0, 0, 0, 0, 0, 0, 0, 0, 17, 0, 5, 6, 7, 8, 9, 10, 11, 1, 2, 3, 4, 13, 14, 15, 12, 27, 26, 16, 18, 19, 20, 21, 22, 23, 24, 25] : List Int).getD ((nI ((M.2.2 80 ((nI k)).toNatClampNeg) - 100000))).toNatClampNeg 0)), [(0, .ref 79), (1, .int (nI k)), (2, .ref 30)], [], M)) (o := [shp 79 = (0, 0), aok shp 80 4 (nI k), isK (M.2.2 80 ((nI k)).toNatClampNeg), ct [.ref 200003] ≤ 8, 200003 = 200003, vp_in (nI ((M.2.2 80 ((nI k)).toNatClampNeg) - 100000)) 36]) rfl ⟨rfl, ka, kk, Nat.le_of_ble_eq_true rfl, rfl, vp_in_nI (by rw [rA]; omega) (by decide)⟩ ?_
  rw [rA, show 100000 + bkK e - 100000 = bkK e by omega, bl_sw _ (by omega) kr.1 kr.2]
  by_cases c0 : e.1 = 0
  · have eK : bkK e = 17 + e.2.2 := if_pos c0
    have eD : bkD e = e.2.1 := if_neg (by omega)
    have s4 := hs c0
    have q6 := hq (by omega)
    rw [if_neg (by omega), if_neg (by omega), if_neg (by omega), if_neg (by omega)]
    refine Wn.run (tab := tb_bk_liveLine) rfl 9 (c' := (151, [(0, .ref 79), (1, .int (nI k)), (2, .ref 30)], [.ref (M.2.2 80 ((nI k)).toNatClampNeg), .int (M.1 81 ((nI k)).toNatClampNeg), .ref 30], M)) (o := [shp 79 = (0, 0), aok shp 81 0 (nI k), shp 79 = (0, 0), aok shp 80 4 (nI k)]) rfl ⟨rfl, kb, rfl, ka⟩ ?_
    rw [rA, rD, eK, eD]
    have sK : sdK (100000 + (17 + e.2.2)) = nI e.2.2 := by
      unfold sdK
      rw [if_pos (by omega), show 100000 + (17 + e.2.2) - 100017 = e.2.2 by omega]
    refine Wn.callV (p := (100000 + (17 + e.2.2))) (n := 1) (ix := 88) (ci := (-1)) (fun r0 M0 => r0 = some (.int (nI e.2.2)) ∧ M = M0) [] [.int (nI e.2.1), .ref 30] rfl rfl rfl ⟨by omega, by omega⟩ (Nat.le_of_ble_eq_true rfl) (Nat.le_of_ble_eq_true rfl) (w_kd_side _ _ ⟨by omega, by omega⟩ M _ ⟨by rw [sK], rfl⟩) ?_
    rintro _ _ ⟨rfl, rfl⟩
    show Wn _ 155 _ (154, [(0, .ref 79), (1, .int (nI k)), (2, .ref 30)], [.int (nI e.2.2), .int (nI e.2.1), .ref 30], M)
    refine Wn.callV (p := 30) (n := 3) (ix := 128) (ci := (5)) (PS 30 M (gof σ e.2.1 e.2.2) (M.1 30 11) (M.1 30 12) (some (.int (nI (wgo σ e.2.1 e.2.2))))) [.int (nI e.2.1), .int (nI e.2.2)] [] rfl rfl rfl rfl (Nat.le_of_ble_eq_true rfl) (Nat.le_of_ble_eq_true rfl) (c_st_tryGo d M 30 σ hS hB _ _ rfl rfl hV.2.1 e.2.1 e.2.2 q6 s4) ?_
    rintro _ M1 ⟨rfl, a1, a2, a3, a4⟩
    show Wn _ 155 _ (157, [(0, .ref 79), (1, .int (nI k)), (2, .ref 30)], [.int (nI (wgo σ e.2.1 e.2.2))], M1)
    rw [show doS σ e = gof σ e.2.1 e.2.2 from if_pos c0, show doW σ e = wgo σ e.2.1 e.2.2 from if_pos c0]
    exact Wn.iret rfl ⟨rfl, a1, a4⟩
  by_cases c1 : e.1 = 1
  · have eK : bkK e = 21 := by unfold bkK; rw [if_neg c0, if_pos c1]
    have eD : bkD e = e.2.1 := if_neg (by omega)
    have q6 := hq (by omega)
    rw [eK, if_neg (by omega), if_pos rfl]
    refine Wn.run (tab := tb_bk_liveLine) rfl 6 (c' := (93, [(0, .ref 79), (1, .int (nI k)), (2, .ref 30)], [.int (M.1 81 ((nI k)).toNatClampNeg), .ref 30, .int (nI 10)], M)) (o := [shp 79 = (0, 0), aok shp 81 0 (nI k)]) rfl ⟨rfl, kb⟩ ?_
    rw [rD, eD]
    refine Wn.callV (p := 30) (n := 2) (ix := 115) (ci := (5)) (PS 30 M (bowf σ e.2.1) (M.1 30 11) (M.1 30 12) (some (.int (nI (wbw σ e.2.1))))) [.int (nI e.2.1)] [.int (nI 10)] rfl rfl rfl rfl (Nat.le_of_ble_eq_true rfl) (Nat.le_of_ble_eq_true rfl) (c_st_tryBow (d + 2) M 30 σ hS hB _ _ rfl rfl hV.2.1 e.2.1 q6) ?_
    rintro _ M1 ⟨rfl, a1, a2, a3, a4⟩
    show Wn _ 155 _ (96, [(0, .ref 79), (1, .int (nI k)), (2, .ref 30)], [.int (nI (wbw σ e.2.1)), .int (nI 10)], M1)
    have wl := wbw_le σ e.2.1
    refine Wn.callS (n := 2) (ix := 119) (fun r0 M0 => r0 = some (.int (nI (if wbw σ e.2.1 = 0 then 0 else 10 + wbw σ e.2.1))) ∧ M1 = M0) [.int (nI 10), .int (nI (wbw σ e.2.1))] [] rfl rfl rfl (Nat.le_of_ble_eq_true rfl) (Nat.le_of_ble_eq_true rfl) (w_bk_reason _ 10 _ (by decide) (by omega) M1 _ ⟨rfl, rfl⟩) ?_
    rintro _ _ ⟨rfl, rfl⟩
    show Wn _ 155 _ (99, [(0, .ref 79), (1, .int (nI k)), (2, .ref 30)], [.int (nI (if wbw σ e.2.1 = 0 then 0 else 10 + wbw σ e.2.1))], M1)
    rw [show doS σ e = bowf σ e.2.1 from by unfold doS; rw [if_neg c0, if_pos c1], show doW σ e = (if wbw σ e.2.1 = 0 then 0 else 10 + wbw σ e.2.1) from by unfold doW; rw [if_neg c0, if_pos c1]]
    exact Wn.iret rfl ⟨rfl, a1, a4⟩
  by_cases c2 : e.1 = 2
  · have eK : bkK e = 22 := by unfold bkK; rw [if_neg c0, if_neg c1, if_pos c2]
    have eD : bkD e = e.2.1 := if_neg (by omega)
    have eO : bkO e = e.2.2 := by unfold bkO; rw [if_neg (by omega), if_pos c2]
    have q6 := hq (by omega)
    have r6 := hr c2
    rw [eK, if_neg (by omega), if_neg (by omega), if_pos rfl]
    refine Wn.run (tab := tb_bk_liveLine) rfl 10 (c' := (115, [(0, .ref 79), (1, .int (nI k)), (2, .ref 30)], [.int (M.1 82 ((nI k)).toNatClampNeg), .int (M.1 81 ((nI k)).toNatClampNeg), .ref 30, .int (nI 20)], M)) (o := [shp 79 = (0, 0), aok shp 81 0 (nI k), shp 79 = (0, 0), aok shp 82 0 (nI k)]) rfl ⟨rfl, kb, rfl, kc⟩ ?_
    rw [rD, rO, eD, eO]
    refine Wn.callV (p := 30) (n := 3) (ix := 122) (ci := (5)) (PS 30 M (prf σ e.2.1 e.2.2) (M.1 30 11) (M.1 30 12) (some (.int (nI (wpr σ e.2.1 e.2.2))))) [.int (nI e.2.1), .int (nI e.2.2)] [.int (nI 20)] rfl rfl rfl rfl (Nat.le_of_ble_eq_true rfl) (Nat.le_of_ble_eq_true rfl) (c_st_tryPraise (d + 1) M 30 σ hS hB _ _ rfl rfl hV.2.1 hV.2.2.2 e.2.1 e.2.2 q6 r6 (hp _ (by omega))) ?_
    rintro _ M1 ⟨rfl, a1, a2, a3, a4⟩
    show Wn _ 155 _ (118, [(0, .ref 79), (1, .int (nI k)), (2, .ref 30)], [.int (nI (wpr σ e.2.1 e.2.2)), .int (nI 20)], M1)
    have wl := wpr_le σ e.2.1 e.2.2
    refine Wn.callS (n := 2) (ix := 119) (fun r0 M0 => r0 = some (.int (nI (if wpr σ e.2.1 e.2.2 = 0 then 0 else 20 + wpr σ e.2.1 e.2.2))) ∧ M1 = M0) [.int (nI 20), .int (nI (wpr σ e.2.1 e.2.2))] [] rfl rfl rfl (Nat.le_of_ble_eq_true rfl) (Nat.le_of_ble_eq_true rfl) (w_bk_reason _ 20 _ (by decide) (by omega) M1 _ ⟨rfl, rfl⟩) ?_
    rintro _ _ ⟨rfl, rfl⟩
    show Wn _ 155 _ (121, [(0, .ref 79), (1, .int (nI k)), (2, .ref 30)], [.int (nI (if wpr σ e.2.1 e.2.2 = 0 then 0 else 20 + wpr σ e.2.1 e.2.2))], M1)
    rw [show doS σ e = prf σ e.2.1 e.2.2 from by unfold doS; rw [if_neg c0, if_neg c1, if_pos c2], show doW σ e = (if wpr σ e.2.1 e.2.2 = 0 then 0 else 20 + wpr σ e.2.1 e.2.2) from by unfold doW; rw [if_neg c0, if_neg c1, if_pos c2]]
    exact Wn.iret rfl ⟨rfl, a1, a4⟩
  by_cases c3 : e.1 = 3
  · have eK : bkK e = 23 := by unfold bkK; rw [if_neg c0, if_neg c1, if_neg c2, if_pos c3]
    have eD : bkD e = e.2.1 := if_neg (by omega)
    have q6 := hq (by omega)
    rw [eK, if_neg (by omega), if_neg (by omega), if_neg (by omega), if_pos rfl]
    refine Wn.run (tab := tb_bk_liveLine) rfl 6 (c' := (131, [(0, .ref 79), (1, .int (nI k)), (2, .ref 30)], [.int (M.1 81 ((nI k)).toNatClampNeg), .ref 30, .int (nI 30)], M)) (o := [shp 79 = (0, 0), aok shp 81 0 (nI k)]) rfl ⟨rfl, kb⟩ ?_
    rw [rD, eD]
    refine Wn.callV (p := 30) (n := 2) (ix := 125) (ci := (5)) (PS 30 M (swf σ e.2.1) (if fal σ e.2.1 = true then (M.1 30 11) else ((M.1 30 11) ||| nI (2 ^ e.2.1))) (M.1 30 12) (some (.int (nI (if fal σ e.2.1 = true then 1 else 0))))) [.int (nI e.2.1)] [.int (nI 30)] rfl rfl rfl rfl (Nat.le_of_ble_eq_true rfl) (Nat.le_of_ble_eq_true rfl) (c_st_trySwear d M 30 σ hS hB _ _ rfl rfl hV.2.1 e.2.1 q6) ?_
    rintro _ M1 ⟨rfl, a1, a2, a3, a4⟩
    show Wn _ 155 _ (134, [(0, .ref 79), (1, .int (nI k)), (2, .ref 30)], [.int (nI (if fal σ e.2.1 = true then 1 else 0)), .int (nI 30)], M1)
    refine Wn.callS (n := 2) (ix := 119) (fun r0 M0 => r0 = some (.int (nI (if fal σ e.2.1 = true then 31 else 0))) ∧ M1 = M0) [.int (nI 30), .int (nI (if fal σ e.2.1 = true then 1 else 0))] [] rfl rfl rfl (Nat.le_of_ble_eq_true rfl) (Nat.le_of_ble_eq_true rfl) (w_bk_reason _ 30 _ (by decide) (by split <;> omega) M1 _ ⟨by split <;> rfl, rfl⟩) ?_
    rintro _ _ ⟨rfl, rfl⟩
    show Wn _ 155 _ (137, [(0, .ref 79), (1, .int (nI k)), (2, .ref 30)], [.int (nI (if fal σ e.2.1 = true then 31 else 0))], M1)
    rw [show doS σ e = swf σ e.2.1 from by unfold doS; rw [if_neg c0, if_neg c1, if_neg c2, if_pos c3], show doW σ e = (if fal σ e.2.1 = true then 31 else 0) from by unfold doW; rw [if_neg c0, if_neg c1, if_neg c2, if_pos c3]]
    exact Wn.iret rfl ⟨rfl, a1, a4⟩
  have c4 : e.1 = 4 := by omega
  have eK : bkK e = 24 := by unfold bkK; rw [if_neg c0, if_neg c1, if_neg c2, if_neg c3]
  have eO : bkO e = e.2.1 := if_pos c4
  have h60 := hh c4
  rw [eK, if_pos rfl]
  refine Wn.run (tab := tb_bk_liveLine) rfl 5 (c' := (51, [(0, .ref 79), (1, .int (nI k)), (2, .ref 30)], [.ref 30, .int (M.1 82 ((nI k)).toNatClampNeg)], M)) (o := [shp 79 = (0, 0), aok shp 82 0 (nI k)]) rfl ⟨rfl, kc⟩ ?_
  rw [rO, eO]
  refine Wn.callV (p := 30) (n := 1) (ix := 107) (ci := (5)) (fun r0 M0 => r0 = some (.int (nI (400 - σ 90))) ∧ M = M0) [] [.int (nI e.2.1)] rfl rfl rfl rfl (Nat.le_of_ble_eq_true rfl) (Nat.le_of_ble_eq_true rfl) (w_st_hoursLeft _ M 30 σ hS hB _ ⟨rfl, rfl⟩) ?_
  rintro _ _ ⟨rfl, rfl⟩
  show Wn _ 155 _ (54, [(0, .ref 79), (1, .int (nI k)), (2, .ref 30)], [.int (nI (400 - σ 90)), .int (nI e.2.1)], M)
  refine Wn.run (tab := tb_bk_liveLine) rfl 1 (c' := (if (nI e.2.1) ≤ (nI (400 - σ 90)) then 60 else 57, [(0, .ref 79), (1, .int (nI k)), (2, .ref 30)], [], M)) (o := []) rfl trivial ?_
  by_cases c5 : 400 < σ 90 + e.2.1
  · rw [if_neg (mt (n_le rfl rfl (by omega) (by omega)).mp (show ¬ e.2.1 ≤ 400 - σ 90 by omega))]
    refine Wn.run (tab := tb_bk_liveLine) rfl 1 (c' := (59, [(0, .ref 79), (1, .int (nI k)), (2, .ref 30)], [.int (nI 41)], M)) (o := []) rfl trivial ?_
    rw [show doS σ e = σ from by unfold doS; rw [if_neg c0, if_neg c1, if_neg c2, if_neg c3, if_pos c5], show doW σ e = 41 from by unfold doW; rw [if_neg c0, if_neg c1, if_neg c2, if_neg c3, if_pos c5]]
    exact Wn.iret rfl ⟨rfl, hS, fr_rf _ _⟩
  · rw [if_pos ((n_le rfl rfl (by omega) (by omega)).mpr (show e.2.1 ≤ 400 - σ 90 by omega))]
    rw [show doS σ e = hK σ e.2.1 from by unfold doS; rw [if_neg c0, if_neg c1, if_neg c2, if_neg c3, if_neg c5], show doW σ e = 0 from by unfold doW; rw [if_neg c0, if_neg c1, if_neg c2, if_neg c3, if_neg c5]]
    refine Wn.run (tab := tb_bk_liveLine) rfl 2 (c' := (62, [(3, .int (nI 0)), (0, .ref 79), (1, .int (nI k)), (2, .ref 30)], [], M)) (o := []) rfl trivial ?_
    have loop : ∀ (m i : Nat) (N : Mm), e.2.1 - i = m → i ≤ e.2.1 → StC N 30 (hK σ i) → Fr [30, 31, 32, 33, 34] M N → Wn (d + 5) 155 (PLl M (hK σ e.2.1) 0) (62, [(3, .int (nI i)), (0, .ref 79), (1, .int (nI k)), (2, .ref 30)], [], N) := by
      intro m
      induction m using Nat.strongRecOn with
      | _ m ih =>
        intro i N hm hi hSi hF
        refine Wn.run (tab := tb_bk_liveLine) rfl 6 (c' := (if (N.1 82 ((nI k)).toNatClampNeg) ≤ (nI i) then 82 else 72, [(3, .int (nI i)), (0, .ref 79), (1, .int (nI k)), (2, .ref 30)], [], N)) (o := [shp 79 = (0, 0), aok shp 82 0 (nI k)]) rfl ⟨rfl, kc⟩ ?_
        rw [(hF 82 (by decide)).1, rO, eO]
        by_cases hd : e.2.1 ≤ i
        · rw [if_pos ((n_le rfl rfl (by omega) (by omega)).mpr hd)]
          have ei : i = e.2.1 := by omega
          refine Wn.run (tab := tb_bk_liveLine) rfl 1 (c' := (83, [(3, .int (nI i)), (0, .ref 79), (1, .int (nI k)), (2, .ref 30)], [.int (nI 0)], N)) (o := []) rfl trivial ?_
          rw [ei] at hSi
          exact Wn.iret rfl ⟨rfl, hSi, hF⟩
        · rw [if_neg (mt (n_le rfl rfl (by omega) (by omega)).mp hd)]
          refine Wn.run (tab := tb_bk_liveLine) rfl 1 (c' := (73, [(3, .int (nI i)), (0, .ref 79), (1, .int (nI k)), (2, .ref 30)], [.ref 30], N)) (o := []) rfl trivial ?_
          have iv := Inv_hK hV i (by omega)
          have i90 := hK_90 (σ := σ) b2 i
          refine Wn.callV (p := 30) (n := 1) (ix := 112) (ci := (5)) (PS 30 N (hour (hK σ i)) ((N.1 30 11) ||| nI (swN (hK σ i) ((hK σ i) 2))) (N.1 30 12) none) [] [] rfl rfl rfl rfl (Nat.le_of_ble_eq_true rfl) (Nat.le_of_ble_eq_true rfl) (c_st_passHour d N 30 (hK σ i) hSi iv.1 _ _ rfl rfl iv (by omega)) ?_
          rintro _ M1 ⟨rfl, a1, a2, a3, a4⟩
          show Wn _ 155 _ (76, [(3, .int (nI i)), (0, .ref 79), (1, .int (nI k)), (2, .ref 30)], [], M1)
          refine Wn.run (tab := tb_bk_liveLine) rfl 2 (c' := (62, [(3, .int ((nI i) + (nI 1))), (0, .ref 79), (1, .int (nI k)), (2, .ref 30)], [], M1)) (o := []) rfl trivial ?_
          rw [nI_add]
          exact ih (e.2.1 - (i + 1)) (by omega) (i + 1) M1 rfl (by omega) a1 (fr_tr hF a4 (by decide))
    exact loop e.2.1 0 M rfl (Nat.zero_le _) hS (fr_rf _ _)
