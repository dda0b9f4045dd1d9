set_option maxRecDepth 20000 in
theorem c_m_hours (d : Nat) (M : Mm) (f0 g : Nat → Int32) (σ : Nat → Nat) (n : Nat) (H : Nat → Nat → Nat) (hR : Rs f0 (M.1 116) σ) (hV : Inv σ) (hg : M.1 114 = g) (hn : g 25 = nI n) (hn8 : n ≤ 8) (hH : HMr (M.1 121) n H) (z : Nat) (h1z : 1 ≤ z) (h2z : z ≤ 60) : Wn (d + 8) 102 (PA M f0 g [0, 22, 25, 35] [114, 116, 121] (hK σ (mn z (400 - σ 90))) (if 0 < mn z (400 - σ 90) then hpn n else n) (if 0 < mn z (400 - σ 90) then hpH n H σ else H) (some (.int (nI (mn z (400 - σ 90)))))) (0, lv_args 0 [.ref 114, .int (nI z)], [], M) := by
  have hF := fr_rf [114, 116, 121] M
  have hB := hV.1
  have hI := hV.2.1
  have c9_2 := Bd_2 hB
  have k90 := Bd_90 hB
  refine Wn.run (tab := tb_m_hours) rfl 3 (c' := (5, [(0, .ref 114), (1, .int (nI z))], [], (mI M 114 (upd (M.1 114) 0 (nI 0))))) (o := [shp 114 = (0, 10)]) rfl rfl ?_
  generalize hM2 : (mI M 114 (upd (M.1 114) 0 (nI 0))) = M1
  have hk3 := rs_ne hM2 (by decide) hR
  have hk4 := fI_up hM2 hg
  have hH5 := HMr_fr (fr_1I hM2) (by decide) hH
  have hF6 := fr_sI hF hM2 (by decide)
  show Wn _ 102 _ (5, [(0, .ref 114), (1, .int (nI z))], [], M1)
  refine Wn.run (tab := tb_m_hours) rfl 3 (c' := (9, [(0, .ref 114), (1, .int (nI z))], [.int (nI 60), .int (nI 1), .int (nI z)], M1)) (o := []) rfl trivial ?_
  refine Wn.callS (n := 3) (ix := 194) (fun r0 M0 => r0 = some (.int (b2 (1 ≤ z ∧ z ≤ 60))) ∧ M1 = M0) [.int (nI z), .int (nI 1), .int (nI 60)] [] rfl rfl rfl (Nat.le_of_ble_eq_true rfl) (Nat.le_of_ble_eq_true rfl) (w_m_isInN _ z 1 60 (by omega) (by omega) (by omega) M1 _ ⟨rfl, rfl⟩) ?_
  rintro _ _ ⟨rfl, rfl⟩
  show Wn _ 102 _ (12, [(0, .ref 114), (1, .int (nI z))], [.int (b2 (1 ≤ z ∧ z ≤ 60))], M1)
  refine Wn.run (tab := tb_m_hours) rfl 1 (c' := (if ¬ (b2 (1 ≤ z ∧ z ≤ 60)) = 0 then 17 else 15, [(0, .ref 114), (1, .int (nI z))], [], M1)) (o := []) rfl trivial ?_
  rw [if_pos (b2_n0.mpr (by omega))]
  show Wn _ 102 _ (17, [(0, .ref 114), (1, .int (nI z))], [], M1)
  refine Wn.run (tab := tb_m_hours) rfl 6 (c' := (if ¬ (M1.1 116 90) = (nI 400) then 32 else 30, [(0, .ref 114), (1, .int (nI z))], [], M1)) (o := [shp 114 = (0, 10), aok shp 116 0 (nI 90)]) rfl ⟨rfl, ⟨rfl, vp_in_nI (by decide) (by decide)⟩⟩ ?_
  refine Wn.br (fun h1 => ?_) (fun h1 => ?_)
  · show Wn _ 102 _ (32, [(0, .ref 114), (1, .int (nI z))], [], M1)
    have c9_90 := Bd_90 hB
    have h1 := mt (n_eq (rd0 hk3.1 (by omega)) rfl (by omega) (by omega)).mpr h1
    refine Wn.run (tab := tb_m_hours) rfl 1 (c' := (33, [(0, .ref 114), (1, .int (nI z))], [.ref 114], M1)) (o := []) rfl trivial ?_
    refine Wn.callV (p := 114) (n := 1) (ix := 321) (ci := (10)) (PK M1 (upd g 0 (nI 0)) n H σ) [] [] rfl rfl rfl rfl (Nat.le_of_ble_eq_true rfl) (Nat.le_of_ble_eq_true rfl) (c_m_keep _ M1 f0 (upd g 0 (nI 0)) σ n H hk3 hk4 ((pk_un (by decide)).trans hn) (by omega) hH5) ?_
    rintro _ M8 ⟨rfl, hH9, hg10, hF11⟩
    show Wn _ 102 _ (36, [(0, .ref 114), (1, .int (nI z))], [], M8)
    have hk12 := fr_rs hF11 (by decide) hk3
    have hF13 := fr_tr hF6 hF11 (by decide)
    refine Wn.run (tab := tb_m_hours) rfl 2 (c' := (38, [(0, .ref 114), (1, .int (nI z))], [.int (nI z), .ref 114], M8)) (o := []) rfl trivial ?_
    refine Wn.callV (p := 114) (n := 2) (ix := 336) (ci := (10)) (PG M8 f0 (upd (upd g 0 (nI 0)) 25 (nI (hpn n))) [22] (hK σ (mn z (400 - σ 90))) (some (.int (nI (mn z (400 - σ 90)))))) [.int (nI z)] [] rfl rfl rfl rfl (Nat.le_of_ble_eq_true rfl) (Nat.le_of_ble_eq_true rfl) (c_m_goesOn _ M8 f0 (upd (upd g 0 (nI 0)) 25 (nI (hpn n))) σ hk12 hV hg10 z (by omega)) ?_
    rintro _ M14 ⟨rfl, hR15, hx16, hF17⟩
    show Wn _ 102 _ (41, [(0, .ref 114), (1, .int (nI z))], [.int (nI (mn z (400 - σ 90)))], M14)
    obtain ⟨g18, hg19⟩ : ∃ g9, M14.1 114 = g9 := ⟨_, rfl⟩
    have hx20 := hx16
    rw [hg19] at hx20
    have hf21 : g18 25 = (nI (hpn n)) := (hx20 25 (by decide)).trans (show (upd (upd g 0 (nI 0)) 25 (nI (hpn n))) 25 = (nI (hpn n)) from pk_us)
    have hf22 : g18 0 = (nI 0) := (hx20 0 (by decide)).trans (show (upd (upd g 0 (nI 0)) 25 (nI (hpn n))) 0 = (nI 0) from ((pk_un (by decide)).trans pk_us))
    have hH23 := HMr_fr hF17 (by decide) hH9
    have hF24 := fr_tr hF13 hF17 (by decide)
    have m9 : 0 < mn z (400 - σ 90) := by unfold mn; split <;> omega
    rw [if_pos m9, if_pos m9]
    exact Wn.iret rfl ⟨rfl, hR15, hH23, by rw [hg19]; exact hf21, by rw [hg19]; exact hf22, by rw [hg19]; exact (Gx_tr (Gx_up (Gx_up (Gx_rf _ _) (by decide)) (by decide)) (Gx_mono hx20 (by decide))), hF24⟩
  · show Wn _ 102 _ (30, [(0, .ref 114), (1, .int (nI z))], [], M1)
    have c9_90 := Bd_90 hB
    have h1 := (n_eq (rd0 hk3.1 (by omega)) rfl (by omega) (by omega)).mp (Classical.not_not.mp h1)
    refine Wn.run (tab := tb_m_hours) rfl 1 (c' := (31, [(0, .ref 114), (1, .int (nI z))], [.int (nI 0)], M1)) (o := []) rfl trivial ?_
    rw [show mn z (400 - σ 90) = 0 from by unfold mn; rw [if_neg (by omega)]; omega]
    rw [if_neg (by omega), if_neg (by omega)]
    exact Wn.iret rfl ⟨rfl, hk3, hH5, by rw [hk4]; exact ((pk_un (by decide)).trans hn), by rw [hk4]; exact pk_us, by rw [hk4]; exact (Gx_up (Gx_rf _ _) (by decide)), hF6⟩
set_option maxRecDepth 20000 in
theorem c_m_hoursN (d : Nat) (M : Mm) (f0 g : Nat → Int32) (σ : Nat → Nat) (n : Nat) (H : Nat → Nat → Nat) (hR : Rs f0 (M.1 116) σ) (hV : Inv σ) (hg : M.1 114 = g) (hn : g 25 = nI n) (hn8 : n ≤ 8) (hH : HMr (M.1 121) n H) (z : Int32) (hns : ¬ ((nI 1).toInt ≤ z.toInt ∧ z.toInt ≤ (nI 60).toInt)) : Wn (d + 1) 102 (PA M f0 g [0, 22, 25, 35] [114, 116, 121] σ n H (some (.int (-1)))) (0, lv_args 0 [.ref 114, .int z], [], M) := by
  have hF := fr_rf [114, 116, 121] M
  have hB := hV.1
  have hI := hV.2.1
  have c9_2 := Bd_2 hB
  have k90 := Bd_90 hB
  refine Wn.run (tab := tb_m_hours) rfl 3 (c' := (5, [(0, .ref 114), (1, .int z)], [], (mI M 114 (upd (M.1 114) 0 (nI 0))))) (o := [shp 114 = (0, 10)]) rfl rfl ?_
  generalize hM2 : (mI M 114 (upd (M.1 114) 0 (nI 0))) = M1
  have hk3 := rs_ne hM2 (by decide) hR
  have hk4 := fI_up hM2 hg
  have hH5 := HMr_fr (fr_1I hM2) (by decide) hH
  have hF6 := fr_sI hF hM2 (by decide)
  show Wn _ 102 _ (5, [(0, .ref 114), (1, .int z)], [], M1)
  refine Wn.run (tab := tb_m_hours) rfl 3 (c' := (9, [(0, .ref 114), (1, .int z)], [.int (nI 60), .int (nI 1), .int z], M1)) (o := []) rfl trivial ?_
  refine Wn.callS (n := 3) (ix := 194) (fun r0 M0 => r0 = some (.int (b2 ((nI 1).toInt ≤ z.toInt ∧ z.toInt ≤ (nI 60).toInt))) ∧ M1 = M0) [.int z, .int (nI 1), .int (nI 60)] [] rfl rfl rfl (Nat.le_of_ble_eq_true rfl) (Nat.le_of_ble_eq_true rfl) (w_m_isInT _ z (nI 1) (nI 60) M1 _ ⟨rfl, rfl⟩) ?_
  rintro _ _ ⟨rfl, rfl⟩
  show Wn _ 102 _ (12, [(0, .ref 114), (1, .int z)], [.int (b2 ((nI 1).toInt ≤ z.toInt ∧ z.toInt ≤ (nI 60).toInt))], M1)
  refine Wn.run (tab := tb_m_hours) rfl 1 (c' := (if ¬ (b2 ((nI 1).toInt ≤ z.toInt ∧ z.toInt ≤ (nI 60).toInt)) = 0 then 17 else 15, [(0, .ref 114), (1, .int z)], [], M1)) (o := []) rfl trivial ?_
  rw [if_neg (by rw [b2_f hns]; decide)]
  show Wn _ 102 _ (15, [(0, .ref 114), (1, .int z)], [], M1)
  refine Wn.run (tab := tb_m_hours) rfl 1 (c' := (16, [(0, .ref 114), (1, .int z)], [.int (-1 : Int32)], M1)) (o := []) rfl trivial ?_
  exact Wn.iret rfl ⟨rfl, hk3, hH5, by rw [hk4]; exact ((pk_un (by decide)).trans hn), by rw [hk4]; exact pk_us, by rw [hk4]; exact (Gx_up (Gx_rf _ _) (by decide)), hF6⟩
theorem gof_yes {σ : Nat → Nat} {q s k : Nat} (hb : bes σ (σ (160 + q)) s = some k) (h : wgo σ q s = 0) : gof σ q s = su σ (160 + q) k := by
  unfold gof
  rw [hb]
  exact if_pos h
def PD (M0 : Mm) (f0 g : Nat → Int32) (K : List Nat) (σ : Nat → Nat) (x : Int32) (r : Option Value) : Po := fun r0 M' => r0 = r ∧ Rs f0 (M'.1 116) σ ∧ M'.1 114 35 = x ∧ Gx K g (M'.1 114) ∧ Fr [114, 116] M0 M'
def PW (M0 : Mm) (g : Nat → Int32) (x : Int32) (r : Option Value) : Po := fun r0 M' => r0 = r ∧ M'.1 114 = upd g 35 x ∧ Fr [114] M0 M'
set_option maxRecDepth 20000 in
theorem c_m_draw (d : Nat) (M : Mm) (g : Nat → Int32) (hg : M.1 114 = g) (x : Int32) (hx : g 35 = x) (n : Nat) (hn0 : 0 < n) (hn : n < 2 ^ 31) : Wn (d + 0) 129 (PW M g (drS x) (some (.int (nI (drN x n))))) (0, lv_args 0 [.ref 114, .int (nI n)], [], M) := by
  have hF := fr_rf [114] M
  have dl := dr_lt (drS x)
  refine Wn.run (tab := tb_m_draw) rfl 8 (c' := (16, [(0, .ref 114), (1, .int (nI n))], [], (mI M 114 (upd (M.1 114) 35 (((M.1 114 35) * (nI 1103515245)) + (nI 12345)))))) (o := [shp 114 = (0, 10), shp 114 = (0, 10)]) rfl ⟨rfl, rfl⟩ ?_
  rw [show (M.1 114 35) = x from (fr_eq hg (show g 35 = x from hx))]
  generalize hM2 : (mI M 114 (upd (M.1 114) 35 ((x * (nI 1103515245)) + (nI 12345)))) = M1
  have hk3 := fI_up hM2 hg
  have hF4 := fr_sI hF hM2 (by decide)
  show Wn _ 129 _ (16, [(0, .ref 114), (1, .int (nI n))], [], M1)
  have hk5 : M1.1 114 = (upd g 35 (drS x)) := hk3
  refine Wn.run (tab := tb_m_draw) rfl 6 (c' := (25, [(0, .ref 114), (1, .int (nI n))], [.int ((((M1.1 114 35)).toUInt32 >>> (((nI 8)).toUInt32 &&& Int32.toUInt32 31)).toInt32 - (((M1.1 114 35)).toUInt32 >>> (((nI 8)).toUInt32 &&& Int32.toUInt32 31)).toInt32 / (nI n) * (nI n))], M1)) (o := [shp 114 = (0, 10), ¬ (nI n) = 0]) rfl ⟨rfl, (n_ne0 rfl (by omega) (by omega))⟩ ?_
  rw [show (M1.1 114 35) = (drS x) from (fr_eq hk5 (show (upd g 35 (drS x)) 35 = (drS x) from pk_us))]
  rw [show ((((drS x)).toUInt32 >>> (((nI 8)).toUInt32 &&& Int32.toUInt32 31)).toInt32 - (((drS x)).toUInt32 >>> (((nI 8)).toUInt32 &&& Int32.toUInt32 31)).toInt32 / (nI n) * (nI n)) = (nI (((drS x).toUInt32.toNat / 256) % n)) from (n_rem (shr8 (drS x)) rfl (by omega) (by omega) (by omega))]
  exact Wn.iret rfl ⟨rfl, hk5, hF4⟩
set_option maxRecDepth 20000 in
theorem c_m_drawPerson (d : Nat) (M : Mm) (f0 g : Nat → Int32) (σ : Nat → Nat) (hR : Rs f0 (M.1 116) σ) (hV : Inv σ) (hg : M.1 114 = g) (x : Int32) (hx : g 35 = x) (q : Nat) (hq : q < σ 2) (hp : ∀ r, r < 6 → σ (172 + r) + 1 < 1073741824) : Wn (d + 6) 130 (PD M f0 g [35] (daS σ x q) (daX x) none) (0, lv_args 0 [.ref 114, .int (nI q)], [], M) := by
  have hF := fr_rf [114, 116] M
  have hB := hV.1
  have c9_2 := Bd_2 hB
  have f9 := Bd_q hB q (by omega)
  refine Wn.run (tab := tb_m_drawPerson) rfl 2 (c' := (3, [(0, .ref 114), (1, .int (nI q))], [.int (nI 8), .ref 114], M)) (o := []) rfl trivial ?_
  refine Wn.callV (p := 114) (n := 2) (ix := 401) (ci := (10)) (PW M g (drS x) (some (.int (nI (drN x 8))))) [.int (nI 8)] [] rfl rfl rfl rfl (Nat.le_of_ble_eq_true rfl) (Nat.le_of_ble_eq_true rfl) (c_m_draw _ M g hg x hx 8 (by omega) (by omega)) ?_
  rintro _ M1 ⟨rfl, hg2, hF3⟩
  show Wn _ 130 _ (6, [(0, .ref 114), (1, .int (nI q))], [.int (nI (drN x 8))], M1)
  have hk4 := fr_rs hF3 (by decide) hR
  have hF5 := fr_tr hF hF3 (by decide)
  generalize hd1 : drN x 8 = a1
  have dr1 := drN_lt x (n := 8) (by omega)
  rw [hd1] at dr1
  show Wn _ 130 _ (6, [(0, .ref 114), (1, .int (nI q))], [.int (nI a1)], M1)
  refine Wn.run (tab := tb_m_drawPerson) rfl 4 (c' := (if (nI 4) ≤ (nI a1) then 49 else 12, [(2, .int (nI a1)), (0, .ref 114), (1, .int (nI q))], [], M1)) (o := []) rfl trivial ?_
  refine Wn.br (fun h1 => ?_) (fun h1 => ?_)
  · show Wn _ 130 _ (49, [(2, .int (nI a1)), (0, .ref 114), (1, .int (nI q))], [], M1)
    have h1 := (n_le rfl rfl (by omega) (by omega)).mp h1
    refine Wn.run (tab := tb_m_drawPerson) rfl 3 (c' := (if ¬ (nI a1) = (nI 4) then 70 else 54, [(2, .int (nI a1)), (0, .ref 114), (1, .int (nI q))], [], M1)) (o := []) rfl trivial ?_
    refine Wn.br (fun h2 => ?_) (fun h2 => ?_)
    · show Wn _ 130 _ (70, [(2, .int (nI a1)), (0, .ref 114), (1, .int (nI q))], [], M1)
      have h2 := mt (n_eq rfl rfl (by omega) (by omega)).mpr h2
      refine Wn.run (tab := tb_m_drawPerson) rfl 3 (c' := (if ¬ (nI a1) = (nI 5) then 103 else 75, [(2, .int (nI a1)), (0, .ref 114), (1, .int (nI q))], [], M1)) (o := []) rfl trivial ?_
      refine Wn.br (fun h3 => ?_) (fun h3 => ?_)
      · show Wn _ 130 _ (103, [(2, .int (nI a1)), (0, .ref 114), (1, .int (nI q))], [], M1)
        have h3 := mt (n_eq rfl rfl (by omega) (by omega)).mpr h3
        refine Wn.run (tab := tb_m_drawPerson) rfl 3 (c' := (if ¬ (nI a1) = (nI 6) then 130 else 109, [(2, .int (nI a1)), (0, .ref 114), (1, .int (nI q))], [], M1)) (o := []) rfl trivial ?_
        refine Wn.br (fun h4 => ?_) (fun h4 => ?_)
        · show Wn _ 130 _ (130, [(2, .int (nI a1)), (0, .ref 114), (1, .int (nI q))], [], M1)
          have h4 := mt (n_eq rfl rfl (by omega) (by omega)).mpr h4
          have e9 : daS σ x q = σ := by unfold daS; rw [hd1, if_neg (by omega), if_neg (by omega), if_neg (by omega), if_neg (by omega)]
          have e8 : daX x = (drS x) := by unfold daX; rw [hd1, if_neg (by omega)]
          rw [e9, e8]
          exact Wn.vret rfl ⟨rfl, hk4, by rw [hg2]; exact pk_us, by rw [hg2]; exact (Gx_up (Gx_rf _ _) (by decide)), hF5⟩
        · show Wn _ 130 _ (109, [(2, .int (nI a1)), (0, .ref 114), (1, .int (nI q))], [], M1)
          have h4 := (n_eq rfl rfl (by omega) (by omega)).mp (Classical.not_not.mp h4)
          refine Wn.run (tab := tb_m_drawPerson) rfl 2 (c' := (111, [(2, .int (nI a1)), (0, .ref 114), (1, .int (nI q))], [.int (nI 4), .ref 114], M1)) (o := []) rfl trivial ?_
          refine Wn.callV (p := 114) (n := 2) (ix := 401) (ci := (10)) (PW M1 (upd g 35 (drS x)) (drS (drS x)) (some (.int (nI (drN (drS x) 4))))) [.int (nI 4)] [] rfl rfl rfl rfl (Nat.le_of_ble_eq_true rfl) (Nat.le_of_ble_eq_true rfl) (c_m_draw _ M1 (upd g 35 (drS x)) hg2 (drS x) pk_us 4 (by omega) (by omega)) ?_
          rintro _ M6 ⟨rfl, hg7, hF8⟩
          show Wn _ 130 _ (114, [(2, .int (nI a1)), (0, .ref 114), (1, .int (nI q))], [.int (nI (drN (drS x) 4))], M6)
          have hk9 := fr_rs hF8 (by decide) hk4
          have hF10 := fr_tr hF5 hF8 (by decide)
          generalize hd2 : drN (drS x) 4 = a2
          have dr2 := drN_lt (drS x) (n := 4) (by omega)
          rw [hd2] at dr2
          show Wn _ 130 _ (114, [(2, .int (nI a1)), (0, .ref 114), (1, .int (nI q))], [.int (nI a2)], M6)
          refine Wn.run (tab := tb_m_drawPerson) rfl 1 (c' := (if ¬ (nI a2) = 0 then 130 else 117, [(2, .int (nI a1)), (0, .ref 114), (1, .int (nI q))], [], M6)) (o := []) rfl trivial ?_
          refine Wn.br (fun h5 => ?_) (fun h5 => ?_)
          · show Wn _ 130 _ (130, [(2, .int (nI a1)), (0, .ref 114), (1, .int (nI q))], [], M6)
            have h5 := mt (n_eq rfl nI_0.symm (by omega) (by omega)).mpr h5
            have e9 : daS σ x q = σ := by unfold daS; rw [hd1, hd2, if_neg (by omega), if_neg (by omega), if_neg (by omega), if_neg (by omega)]
            have e8 : daX x = (drS (drS x)) := by unfold daX; rw [hd1, if_pos (by omega)]
            rw [e9, e8]
            exact Wn.vret rfl ⟨rfl, hk9, by rw [hg7]; exact pk_us, by rw [hg7]; exact (Gx_up (Gx_up (Gx_rf _ _) (by decide)) (by decide)), hF10⟩
          · show Wn _ 130 _ (117, [(2, .int (nI a1)), (0, .ref 114), (1, .int (nI q))], [], M6)
            have h5 := (n_eq rfl nI_0.symm (by omega) (by omega)).mp (Classical.not_not.mp h5)
            refine Wn.run (tab := tb_m_drawPerson) rfl 2 (c' := (119, [(2, .int (nI a1)), (0, .ref 114), (1, .int (nI q))], [.int (nI q), .ref 114], M6)) (o := []) rfl trivial ?_
            refine Wn.callV (p := 114) (n := 2) (ix := 260) (ci := (10)) (fun r0 M0 => r0 = some (.int (b2 (fal σ q = true))) ∧ M6 = M0) [.int (nI q)] [] rfl rfl rfl rfl (Nat.le_of_ble_eq_true rfl) (Nat.le_of_ble_eq_true rfl) (w_m_hasFallen _ q (by omega) M6 σ ⟨hk9.1, hB⟩ _ ⟨rfl, rfl⟩) ?_
            rintro _ _ ⟨rfl, rfl⟩
            show Wn _ 130 _ (122, [(2, .int (nI a1)), (0, .ref 114), (1, .int (nI q))], [.int (b2 (fal σ q = true))], M6)
            refine Wn.run (tab := tb_m_drawPerson) rfl 1 (c' := (if ¬ (b2 (fal σ q = true)) = 0 then 130 else 125, [(2, .int (nI a1)), (0, .ref 114), (1, .int (nI q))], [], M6)) (o := []) rfl trivial ?_
            refine Wn.br (fun h6 => ?_) (fun h6 => ?_)
            · show Wn _ 130 _ (130, [(2, .int (nI a1)), (0, .ref 114), (1, .int (nI q))], [], M6)
              have h6 := b2_pos h6
              have e9 : daS σ x q = σ := by unfold daS; rw [hd1, hd2, if_neg (by omega), if_neg (by omega), if_neg (by omega), if_pos (by omega), show swf σ q = σ from if_pos h6]
              have e8 : daX x = (drS (drS x)) := by unfold daX; rw [hd1, if_pos (by omega)]
              rw [e9, e8]
              exact Wn.vret rfl ⟨rfl, hk9, by rw [hg7]; exact pk_us, by rw [hg7]; exact (Gx_up (Gx_up (Gx_rf _ _) (by decide)) (by decide)), hF10⟩
            · show Wn _ 130 _ (125, [(2, .int (nI a1)), (0, .ref 114), (1, .int (nI q))], [], M6)
              have h6 := b2_nneg h6
              refine Wn.run (tab := tb_m_drawPerson) rfl 2 (c' := (127, [(2, .int (nI a1)), (0, .ref 114), (1, .int (nI q))], [.int (nI q), .ref 114], M6)) (o := []) rfl trivial ?_
              refine Wn.callV (p := 114) (n := 2) (ix := 315) (ci := (10)) (PM M6 f0 (upd (upd g 35 (drS x)) 35 (drS (drS x))) (curse σ q) none) [.int (nI q)] [] rfl rfl rfl rfl (Nat.le_of_ble_eq_true rfl) (Nat.le_of_ble_eq_true rfl) (c_m_curses _ M6 f0 (upd (upd g 35 (drS x)) 35 (drS (drS x))) σ hk9 hB hg7 q (by omega)) ?_
              rintro _ M11 ⟨rfl, hR12, hg13, hF14⟩
              show Wn _ 130 _ (130, [(2, .int (nI a1)), (0, .ref 114), (1, .int (nI q))], [], M11)
              have hF15 := fr_tr hF10 hF14 (by decide)
              have e9 : daS σ x q = (curse σ q) := by unfold daS; rw [hd1, hd2, if_neg (by omega), if_neg (by omega), if_neg (by omega), if_pos (by omega), show swf σ q = (curse σ q) from if_neg h6]
              have e8 : daX x = (drS (drS x)) := by unfold daX; rw [hd1, if_pos (by omega)]
              rw [e9, e8]
              exact Wn.vret rfl ⟨rfl, hR12, by rw [hg13]; exact pk_us, by rw [hg13]; exact (Gx_up (Gx_up (Gx_rf _ _) (by decide)) (by decide)), hF15⟩
      · show Wn _ 130 _ (75, [(2, .int (nI a1)), (0, .ref 114), (1, .int (nI q))], [], M1)
        have h3 := (n_eq rfl rfl (by omega) (by omega)).mp (Classical.not_not.mp h3)
        refine Wn.run (tab := tb_m_drawPerson) rfl 5 (c' := (82, [(2, .int (nI a1)), (0, .ref 114), (1, .int (nI q))], [.int (M1.1 116 2), .ref 114], M1)) (o := [shp 114 = (0, 10), aok shp 116 0 (nI 2)]) rfl ⟨rfl, ⟨rfl, vp_in_nI (by decide) (by decide)⟩⟩ ?_
        have c9_2 := Bd_2 hB
        rw [show (M1.1 116 2) = (nI (σ 2)) from (rd0 hk4.1 (by omega))]
        refine Wn.callV (p := 114) (n := 2) (ix := 401) (ci := (10)) (PW M1 (upd g 35 (drS x)) (drS (drS x)) (some (.int (nI (drN (drS x) (σ 2)))))) [.int (nI (σ 2))] [] rfl rfl rfl rfl (Nat.le_of_ble_eq_true rfl) (Nat.le_of_ble_eq_true rfl) (c_m_draw _ M1 (upd g 35 (drS x)) hg2 (drS x) pk_us (σ 2) (by omega) (by omega)) ?_
        rintro _ M16 ⟨rfl, hg17, hF18⟩
        show Wn _ 130 _ (85, [(2, .int (nI a1)), (0, .ref 114), (1, .int (nI q))], [.int (nI (drN (drS x) (σ 2)))], M16)
        have hk19 := fr_rs hF18 (by decide) hk4
        have hF20 := fr_tr hF5 hF18 (by decide)
        generalize hd3 : drN (drS x) (σ 2) = a3
        have dr3 := drN_lt (drS x) (n := (σ 2)) (by omega)
        rw [hd3] at dr3
        show Wn _ 130 _ (85, [(2, .int (nI a1)), (0, .ref 114), (1, .int (nI q))], [.int (nI a3)], M16)
        refine Wn.run (tab := tb_m_drawPerson) rfl 4 (c' := (89, [(3, .int (nI a3)), (2, .int (nI a1)), (0, .ref 114), (1, .int (nI q))], [.int (nI a3), .int (nI q), .ref 114], M16)) (o := []) rfl trivial ?_
        refine Wn.callV (p := 114) (n := 3) (ix := 330) (ci := (10)) (fun r0 M0 => r0 = some (.int (nI (wpr σ q a3))) ∧ M16 = M0) [.int (nI q), .int (nI a3)] [] rfl rfl rfl rfl (Nat.le_of_ble_eq_true rfl) (Nat.le_of_ble_eq_true rfl) (w_m_whyPraise _ q a3 (by omega) (by omega) M16 σ ⟨hk19.1, hB⟩ _ ⟨rfl, rfl⟩) ?_
        rintro _ _ ⟨rfl, rfl⟩
        show Wn _ 130 _ (92, [(3, .int (nI a3)), (2, .int (nI a1)), (0, .ref 114), (1, .int (nI q))], [.int (nI (wpr σ q a3))], M16)
        have wp9 := wpr_le σ q a3
        refine Wn.run (tab := tb_m_drawPerson) rfl 1 (c' := (if ¬ (nI (wpr σ q a3)) = 0 then 100 else 95, [(3, .int (nI a3)), (2, .int (nI a1)), (0, .ref 114), (1, .int (nI q))], [], M16)) (o := []) rfl trivial ?_
        refine Wn.br (fun h7 => ?_) (fun h7 => ?_)
        · show Wn _ 130 _ (100, [(3, .int (nI a3)), (2, .int (nI a1)), (0, .ref 114), (1, .int (nI q))], [], M16)
          have h7 := mt (n_eq rfl nI_0.symm (by omega) (by omega)).mpr h7
          refine Wn.run (tab := tb_m_drawPerson) rfl 1 (c' := (130, [(3, .int (nI a3)), (2, .int (nI a1)), (0, .ref 114), (1, .int (nI q))], [], M16)) (o := []) rfl trivial ?_
          have e9 : daS σ x q = σ := by unfold daS; rw [hd1, hd3, if_neg (by omega), if_neg (by omega), if_pos (by omega), show prf σ q a3 = σ from if_neg (by omega)]
          have e8 : daX x = (drS (drS x)) := by unfold daX; rw [hd1, if_pos (by omega)]
          rw [e9, e8]
          exact Wn.vret rfl ⟨rfl, hk19, by rw [hg17]; exact pk_us, by rw [hg17]; exact (Gx_up (Gx_up (Gx_rf _ _) (by decide)) (by decide)), hF20⟩
        · show Wn _ 130 _ (95, [(3, .int (nI a3)), (2, .int (nI a1)), (0, .ref 114), (1, .int (nI q))], [], M16)
          have h7 := (n_eq rfl nI_0.symm (by omega) (by omega)).mp (Classical.not_not.mp h7)
          refine Wn.run (tab := tb_m_drawPerson) rfl 2 (c' := (97, [(3, .int (nI a3)), (2, .int (nI a1)), (0, .ref 114), (1, .int (nI q))], [.int (nI a3), .ref 114], M16)) (o := []) rfl trivial ?_
          refine Wn.callV (p := 114) (n := 2) (ix := 333) (ci := (10)) (PM M16 f0 (upd (upd g 35 (drS x)) 35 (drS (drS x))) (flat σ a3) none) [.int (nI a3)] [] rfl rfl rfl rfl (Nat.le_of_ble_eq_true rfl) (Nat.le_of_ble_eq_true rfl) (c_m_flatters _ M16 f0 (upd (upd g 35 (drS x)) 35 (drS (drS x))) σ hk19 hB hg17 a3 (by omega) (hp a3 (by omega))) ?_
          rintro _ M21 ⟨rfl, hR22, hg23, hF24⟩
          show Wn _ 130 _ (100, [(3, .int (nI a3)), (2, .int (nI a1)), (0, .ref 114), (1, .int (nI q))], [], M21)
          have hF25 := fr_tr hF20 hF24 (by decide)
          refine Wn.run (tab := tb_m_drawPerson) rfl 1 (c' := (130, [(3, .int (nI a3)), (2, .int (nI a1)), (0, .ref 114), (1, .int (nI q))], [], M21)) (o := []) rfl trivial ?_
          have e9 : daS σ x q = (flat σ a3) := by unfold daS; rw [hd1, hd3, if_neg (by omega), if_neg (by omega), if_pos (by omega), show prf σ q a3 = (flat σ a3) from if_pos (by omega)]
          have e8 : daX x = (drS (drS x)) := by unfold daX; rw [hd1, if_pos (by omega)]
          rw [e9, e8]
          exact Wn.vret rfl ⟨rfl, hR22, by rw [hg23]; exact pk_us, by rw [hg23]; exact (Gx_up (Gx_up (Gx_rf _ _) (by decide)) (by decide)), hF25⟩
    · show Wn _ 130 _ (54, [(2, .int (nI a1)), (0, .ref 114), (1, .int (nI q))], [], M1)
      have h2 := (n_eq rfl rfl (by omega) (by omega)).mp (Classical.not_not.mp h2)
      refine Wn.run (tab := tb_m_drawPerson) rfl 2 (c' := (56, [(2, .int (nI a1)), (0, .ref 114), (1, .int (nI q))], [.int (nI q), .ref 114], M1)) (o := []) rfl trivial ?_
      refine Wn.callV (p := 114) (n := 2) (ix := 324) (ci := (10)) (fun r0 M0 => r0 = some (.int (nI (wbw σ q))) ∧ M1 = M0) [.int (nI q)] [] rfl rfl rfl rfl (Nat.le_of_ble_eq_true rfl) (Nat.le_of_ble_eq_true rfl) (w_m_whyBow _ q (by omega) M1 σ ⟨hk4.1, hB⟩ _ ⟨rfl, rfl⟩) ?_
      rintro _ _ ⟨rfl, rfl⟩
      show Wn _ 130 _ (59, [(2, .int (nI a1)), (0, .ref 114), (1, .int (nI q))], [.int (nI (wbw σ q))], M1)
      have wb9 := wbw_le σ q
      refine Wn.run (tab := tb_m_drawPerson) rfl 1 (c' := (if ¬ (nI (wbw σ q)) = 0 then 130 else 62, [(2, .int (nI a1)), (0, .ref 114), (1, .int (nI q))], [], M1)) (o := []) rfl trivial ?_
      refine Wn.br (fun h8 => ?_) (fun h8 => ?_)
      · show Wn _ 130 _ (130, [(2, .int (nI a1)), (0, .ref 114), (1, .int (nI q))], [], M1)
        have h8 := mt (n_eq rfl nI_0.symm (by omega) (by omega)).mpr h8
        have e9 : daS σ x q = σ := by unfold daS; rw [hd1, if_neg (by omega), if_pos (by omega), show bowf σ q = σ from if_neg (by omega)]
        have e8 : daX x = (drS x) := by unfold daX; rw [hd1, if_neg (by omega)]
        rw [e9, e8]
        exact Wn.vret rfl ⟨rfl, hk4, by rw [hg2]; exact pk_us, by rw [hg2]; exact (Gx_up (Gx_rf _ _) (by decide)), hF5⟩
      · show Wn _ 130 _ (62, [(2, .int (nI a1)), (0, .ref 114), (1, .int (nI q))], [], M1)
        have h8 := (n_eq rfl nI_0.symm (by omega) (by omega)).mp (Classical.not_not.mp h8)
        refine Wn.run (tab := tb_m_drawPerson) rfl 2 (c' := (64, [(2, .int (nI a1)), (0, .ref 114), (1, .int (nI q))], [.int (nI q), .ref 114], M1)) (o := []) rfl trivial ?_
        refine Wn.callV (p := 114) (n := 2) (ix := 327) (ci := (10)) (PM M1 f0 (upd g 35 (drS x)) (bend σ q) none) [.int (nI q)] [] rfl rfl rfl rfl (Nat.le_of_ble_eq_true rfl) (Nat.le_of_ble_eq_true rfl) (c_m_bends _ M1 f0 (upd g 35 (drS x)) σ hk4 hB hg2 q (by omega)) ?_
        rintro _ M26 ⟨rfl, hR27, hg28, hF29⟩
        show Wn _ 130 _ (67, [(2, .int (nI a1)), (0, .ref 114), (1, .int (nI q))], [], M26)
        have hF30 := fr_tr hF5 hF29 (by decide)
        refine Wn.run (tab := tb_m_drawPerson) rfl 1 (c' := (130, [(2, .int (nI a1)), (0, .ref 114), (1, .int (nI q))], [], M26)) (o := []) rfl trivial ?_
        have e9 : daS σ x q = (bend σ q) := by unfold daS; rw [hd1, if_neg (by omega), if_pos (by omega), show bowf σ q = (bend σ q) from if_pos (by omega)]
        have e8 : daX x = (drS x) := by unfold daX; rw [hd1, if_neg (by omega)]
        rw [e9, e8]
        exact Wn.vret rfl ⟨rfl, hR27, by rw [hg28]; exact pk_us, by rw [hg28]; exact (Gx_up (Gx_rf _ _) (by decide)), hF30⟩
  · show Wn _ 130 _ (12, [(2, .int (nI a1)), (0, .ref 114), (1, .int (nI q))], [], M1)
    have h1 := mt (n_le rfl rfl (by omega) (by omega)).mpr h1
    refine Wn.run (tab := tb_m_drawPerson) rfl 3 (c' := (15, [(2, .int (nI a1)), (0, .ref 114), (1, .int (nI q))], [.int (nI a1), .int (nI q), .ref 114], M1)) (o := []) rfl trivial ?_
    refine Wn.callV (p := 114) (n := 3) (ix := 287) (ci := (10)) (fun r0 M0 => r0 = some (.int (nI (wgo σ q a1))) ∧ M1 = M0) [.int (nI q), .int (nI a1)] [] rfl rfl rfl rfl (Nat.le_of_ble_eq_true rfl) (Nat.le_of_ble_eq_true rfl) (w_m_whyGo _ q a1 (by omega) (by omega) M1 σ ⟨hk4.1, hB⟩ _ ⟨rfl, rfl⟩) ?_
    rintro _ _ ⟨rfl, rfl⟩
    show Wn _ 130 _ (18, [(2, .int (nI a1)), (0, .ref 114), (1, .int (nI q))], [.int (nI (wgo σ q a1))], M1)
    have wl9 := wgo_le σ q a1
    refine Wn.run (tab := tb_m_drawPerson) rfl 1 (c' := (if ¬ (nI (wgo σ q a1)) = 0 then 130 else 21, [(2, .int (nI a1)), (0, .ref 114), (1, .int (nI q))], [], M1)) (o := []) rfl trivial ?_
    refine Wn.br (fun h9 => ?_) (fun h9 => ?_)
    · show Wn _ 130 _ (130, [(2, .int (nI a1)), (0, .ref 114), (1, .int (nI q))], [], M1)
      have h9 := mt (n_eq rfl nI_0.symm (by omega) (by omega)).mpr h9
      have e9 : daS σ x q = σ := by unfold daS; rw [hd1, if_pos (by omega), gof_no h9]
      have e8 : daX x = (drS x) := by unfold daX; rw [hd1, if_neg (by omega)]
      rw [e9, e8]
      exact Wn.vret rfl ⟨rfl, hk4, by rw [hg2]; exact pk_us, by rw [hg2]; exact (Gx_up (Gx_rf _ _) (by decide)), hF5⟩
    · show Wn _ 130 _ (21, [(2, .int (nI a1)), (0, .ref 114), (1, .int (nI q))], [], M1)
      have h9 := (n_eq rfl nI_0.symm (by omega) (by omega)).mp (Classical.not_not.mp h9)
      have h0 : wgo σ q a1 = 0 := by omega
      obtain ⟨k1, hb1, hf1, hl1⟩ := wgo_some h0
      have hk1 := bes_lt hB (by omega) hb1
      refine Wn.run (tab := tb_m_drawPerson) rfl 13 (c' := (42, [(2, .int (nI a1)), (0, .ref 114), (1, .int (nI q))], [.int (nI a1), .int (M1.1 116 (((nI 160) + (nI q))).toNatClampNeg), .ref 114, .int ((nI 160) + (nI q)), .ref 116], M1)) (o := [shp 114 = (0, 10), shp 114 = (0, 10), aok shp 116 0 ((nI 160) + (nI q))]) rfl ⟨rfl, rfl, (ak1 (n := 359) rfl rfl (n_add rfl rfl) (by omega))⟩ ?_
      have f9 := Bd_q hB q (by omega)
      rw [show (M1.1 116 (((nI 160) + (nI q))).toNatClampNeg) = (nI (σ (160 + q))) from (rd1 hk4.1 (n_add rfl rfl) (by omega) (by omega))]
      rw [show ((nI 160) + (nI q)) = (nI (160 + q)) from (n_add rfl rfl)]
      refine Wn.callV (p := 114) (n := 3) (ix := 281) (ci := (10)) (fun r0 M0 => r0 = some (.int (oI (bes σ (σ (160 + q)) a1))) ∧ M1 = M0) [.int (nI (σ (160 + q))), .int (nI a1)] [.int (nI (160 + q)), .ref 116] rfl rfl rfl rfl (Nat.le_of_ble_eq_true rfl) (Nat.le_of_ble_eq_true rfl) (w_m_beside _ (σ (160 + q)) a1 (by omega) (by omega) M1 σ ⟨hk4.1, hB⟩ _ ⟨rfl, rfl⟩) ?_
      rintro _ _ ⟨rfl, rfl⟩
      show Wn _ 130 _ (45, [(2, .int (nI a1)), (0, .ref 114), (1, .int (nI q))], [.int (oI (bes σ (σ (160 + q)) a1)), .int (nI (160 + q)), .ref 116], M1)
      rw [hb1]
      show Wn _ 130 _ (45, [(2, .int (nI a1)), (0, .ref 114), (1, .int (nI q))], [.int (nI k1), .int (nI (160 + q)), .ref 116], M1)
      refine Wn.run (tab := tb_m_drawPerson) rfl 1 (c' := (46, [(2, .int (nI a1)), (0, .ref 114), (1, .int (nI q))], [], (mI M1 116 (upd (M1.1 116) ((nI (160 + q))).toNatClampNeg (nI k1))))) (o := [aok shp 116 0 (nI (160 + q))]) rfl (ak1 (n := 359) rfl rfl rfl (by omega)) ?_
      generalize hM32 : (mI M1 116 (upd (M1.1 116) ((nI (160 + q))).toNatClampNeg (nI k1))) = M31
      have hk33 : Rs f0 (M31.1 116) (su σ (160 + q) k1) := rs_up hM32 hk4 (cl1 rfl (by omega)) (by omega) rfl
      have hk34 := fI_ne hM32 (by decide) hg2
      have hF35 := fr_sI hF5 hM32 (by decide)
      show Wn _ 130 _ (46, [(2, .int (nI a1)), (0, .ref 114), (1, .int (nI q))], [], M31)
      refine Wn.run (tab := tb_m_drawPerson) rfl 1 (c' := (130, [(2, .int (nI a1)), (0, .ref 114), (1, .int (nI q))], [], M31)) (o := []) rfl trivial ?_
      have e9 : daS σ x q = (su σ (160 + q) k1) := by unfold daS; rw [hd1, if_pos (by omega), gof_yes hb1 h0]
      have e8 : daX x = (drS x) := by unfold daX; rw [hd1, if_neg (by omega)]
      rw [e9, e8]
      exact Wn.vret rfl ⟨rfl, hk33, by rw [hk34]; exact pk_us, by rw [hk34]; exact (Gx_up (Gx_rf _ _) (by decide)), hF35⟩
