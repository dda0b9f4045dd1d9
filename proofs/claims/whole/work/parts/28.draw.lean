theorem shr8 (x : Int32) : (x.toUInt32 >>> ((nI 8).toUInt32 &&& Int32.toUInt32 31)).toInt32 = nI (x.toUInt32.toNat / 256) := by
  have e : (nI 8).toUInt32 &&& Int32.toUInt32 31 = 8 := by decide
  rw [e]
  have h : (x.toUInt32 >>> 8).toNat = x.toUInt32.toNat / 256 := by
    rw [UInt32.toNat_shiftRight]
    show x.toUInt32.toNat >>> (8 % 32) = _
    rw [Nat.shiftRight_eq_div_pow]
  have hl : x.toUInt32.toNat / 256 < 2 ^ 31 := by
    have := x.toUInt32.toNat_lt
    omega
  apply Int32.toInt_inj.mp
  rw [nI_toInt hl, ← h]
  have hl2 : (x.toUInt32 >>> 8).toNat < 2 ^ 31 := by rw [h]; exact hl
  show (x.toUInt32 >>> 8).toBitVec.toInt = _
  rw [BitVec.toInt_eq_toNat_of_lt (by show 2 * (x.toUInt32 >>> 8).toNat < 2 ^ 32; omega)]
  rfl
def drS (x : Int32) : Int32 := x * nI 1103515245 + nI 12345
def drN (x : Int32) (n : Nat) : Nat := (drS x).toUInt32.toNat / 256 % n
theorem dr_lt (x : Int32) : x.toUInt32.toNat / 256 < 16777216 := by
  have := x.toUInt32.toNat_lt
  omega
/-- an act that is drawn; the seed behind it -/
def daS (σ : Nat → Nat) (x : Int32) (q : Nat) : Nat → Nat := if drN x 8 < 4 then gof σ q (drN x 8) else if drN x 8 = 4 then bowf σ q else if drN x 8 = 5 then prf σ q (drN (drS x) (σ 2)) else if drN x 8 = 6 ∧ drN (drS x) 4 = 0 then swf σ q else σ
def daX (x : Int32) : Int32 := if drN x 8 = 5 ∨ drN x 8 = 6 then drS (drS x) else drS x
def PX (b : Nat) (M0 : Mm) (σ : Nat → Nat) (x : Int32) (r : Option Value) : Po := fun r0 M' => r0 = r ∧ StC M' b σ ∧ M'.1 b 12 = x ∧ Fr [b, (b + 1), (b + 2), (b + 3), (b + 4)] M0 M'
theorem drN_lt (x : Int32) {n : Nat} (h : 0 < n) : drN x n < n := Nat.mod_lt _ h
set_option maxRecDepth 20000 in
theorem c_st_draw (d : Nat) (M : Mm) (b : Nat) (σ : Nat → Nat) (hS : StC M b σ) (hB : Bd σ) (w x : Int32) (hw : M.1 b 11 = w) (hx : M.1 b 12 = x) (n : Nat) (hn0 : 0 < n) (hn : n < 2 ^ 31) : Wn (d + 0) 227 (PS b M σ w (drS x) (some (.int (nI (drN x n))))) (0, lv_args 0 [.ref b, .int (nI n)], [], M) := by
  have hF := fr_rf [b, (b + 1), (b + 2), (b + 3), (b + 4)] M
  have c9_2 := Bd_2 hB
  have dl := dr_lt (drS x)
  refine Wn.run (tab := tb_st_draw) rfl 8 (c' := (15, [(0, .ref b), (1, .int (nI n))], [], (mI M b (upd (M.1 b) 12 (((M.1 b 12) * (nI 1103515245)) + (nI 12345)))))) (o := [shp b = (0, 5), shp b = (0, 5)]) rfl ⟨hS.1.1, hS.1.1⟩ ?_
  rw [show (M.1 b 12) = x from hx]
  generalize hM2 : (mI M b (upd (M.1 b) 12 ((x * (nI 1103515245)) + (nI 12345)))) = M1
  have hs3 := st_fx hM2 hS (by decide)
  have hc4 := cl_nx hM2 (by decide) hw
  have hc5 := cl_eq hM2
  have hF6 := fr_sI hF hM2 (by simp)
  show Wn _ 227 _ (15, [(0, .ref b), (1, .int (nI n))], [], M1)
  have hx7 : M1.1 b 12 = (drS x) := hc5
  refine Wn.run (tab := tb_st_draw) rfl 2 (c' := (if (nI n) ≤ 0 then 31 else 19, [(0, .ref b), (1, .int (nI n))], [], M1)) (o := []) rfl trivial ?_
  refine Wn.br (fun h1 => ?_) (fun h1 => ?_)
  · show Wn _ 227 _ (31, [(0, .ref b), (1, .int (nI n))], [], M1)
    have h1 := (n_le rfl nI_0.symm (by omega) (by omega)).mp h1
    refine Wn.run (tab := tb_st_draw) rfl 1 (c' := (32, [(0, .ref b), (1, .int (nI n))], [.int (nI 0)], M1)) (o := []) rfl trivial ?_
    exact absurd hn0 (by omega)
  · show Wn _ 227 _ (19, [(0, .ref b), (1, .int (nI n))], [], M1)
    have h1 := mt (n_le rfl nI_0.symm (by omega) (by omega)).mpr h1
    refine Wn.run (tab := tb_st_draw) rfl 7 (c' := (32, [(0, .ref b), (1, .int (nI n))], [.int ((((M1.1 b 12)).toUInt32 >>> (((nI 8)).toUInt32 &&& Int32.toUInt32 31)).toInt32 - (((M1.1 b 12)).toUInt32 >>> (((nI 8)).toUInt32 &&& Int32.toUInt32 31)).toInt32 / (nI n) * (nI n))], M1)) (o := [shp b = (0, 5), ¬ (nI n) = 0]) rfl ⟨hs3.1.1, (n_ne0 rfl (by omega) (by omega))⟩ ?_
    rw [show (M1.1 b 12) = (drS x) from hx7]
    rw [show ((((drS x)).toUInt32 >>> (((nI 8)).toUInt32 &&& Int32.toUInt32 31)).toInt32 - (((drS x)).toUInt32 >>> (((nI 8)).toUInt32 &&& Int32.toUInt32 31)).toInt32 / (nI n) * (nI n)) = (nI (((drS x).toUInt32.toNat / 256) % n)) from (n_rem (shr8 (drS x)) rfl (by omega) (by omega) (by omega))]
    exact Wn.iret rfl ⟨rfl, hs3, hc4, hx7, hF6⟩
set_option maxRecDepth 20000 in
theorem c_st_drawAct (d : Nat) (M : Mm) (b : Nat) (σ : Nat → Nat) (hS : StC M b σ) (hV : Inv σ) (x : Int32) (hx : M.1 b 12 = x) (q : Nat) (hq : q < σ 2) (hp : ∀ r, r < 6 → σ (172 + r) + 1 < 1073741824) : Wn (d + 5) 226 (PX b M (daS σ x q) (daX x) none) (0, lv_args 0 [.ref b, .int (nI q)], [], M) := by
  have hF := fr_rf [b, (b + 1), (b + 2), (b + 3), (b + 4)] M
  obtain ⟨w, hw⟩ : ∃ w, M.1 b 11 = w := ⟨_, rfl⟩
  have hB := hV.1
  have hI := hV.2.1
  have hb := hV.2.2.2
  have c9_2 := Bd_2 hB
  refine Wn.run (tab := tb_st_drawAct) rfl 2 (c' := (3, [(0, .ref b), (1, .int (nI q))], [.int (nI 8), .ref b], M)) (o := []) rfl trivial ?_
  refine Wn.callV (p := b) (n := 2) (ix := 160) (ci := (5)) (PS b M σ w (drS x) (some (.int (nI (drN x 8))))) [.int (nI 8)] [] rfl rfl rfl hS.1.1 (Nat.le_of_ble_eq_true rfl) (Nat.le_of_ble_eq_true rfl) (c_st_draw _ M b σ hS hB w x hw hx 8 (by omega) (by omega)) ?_
  rintro _ M1 ⟨rfl, hs2, hw3, hx4, hF5⟩
  show Wn _ 226 _ (6, [(0, .ref b), (1, .int (nI q))], [.int (nI (drN x 8))], M1)
  have hF6 := fr_tr hF hF5 (by simp)
  have dr9 := drN_lt x (n := 8) (by omega)
  refine Wn.run (tab := tb_st_drawAct) rfl 4 (c' := (if (nI 4) ≤ (nI (drN x 8)) then 22 else 12, [(2, .int (nI (drN x 8))), (0, .ref b), (1, .int (nI q))], [], M1)) (o := []) rfl trivial ?_
  refine Wn.br (fun h1 => ?_) (fun h1 => ?_)
  · show Wn _ 226 _ (22, [(2, .int (nI (drN x 8))), (0, .ref b), (1, .int (nI q))], [], M1)
    have h1 := (n_le rfl rfl (by omega) (by omega)).mp h1
    refine Wn.run (tab := tb_st_drawAct) rfl 3 (c' := (if ¬ (nI (drN x 8)) = (nI 4) then 36 else 27, [(2, .int (nI (drN x 8))), (0, .ref b), (1, .int (nI q))], [], M1)) (o := []) rfl trivial ?_
    refine Wn.br (fun h2 => ?_) (fun h2 => ?_)
    · show Wn _ 226 _ (36, [(2, .int (nI (drN x 8))), (0, .ref b), (1, .int (nI q))], [], M1)
      have h2 := mt (n_eq rfl rfl (by omega) (by omega)).mpr h2
      refine Wn.run (tab := tb_st_drawAct) rfl 3 (c' := (if ¬ (nI (drN x 8)) = (nI 5) then 61 else 41, [(2, .int (nI (drN x 8))), (0, .ref b), (1, .int (nI q))], [], M1)) (o := []) rfl trivial ?_
      refine Wn.br (fun h3 => ?_) (fun h3 => ?_)
      · show Wn _ 226 _ (61, [(2, .int (nI (drN x 8))), (0, .ref b), (1, .int (nI q))], [], M1)
        have h3 := mt (n_eq rfl rfl (by omega) (by omega)).mpr h3
        refine Wn.run (tab := tb_st_drawAct) rfl 3 (c' := (if ¬ (nI (drN x 8)) = (nI 6) then 81 else 67, [(2, .int (nI (drN x 8))), (0, .ref b), (1, .int (nI q))], [], M1)) (o := []) rfl trivial ?_
        refine Wn.br (fun h4 => ?_) (fun h4 => ?_)
        · show Wn _ 226 _ (81, [(2, .int (nI (drN x 8))), (0, .ref b), (1, .int (nI q))], [], M1)
          have h4 := mt (n_eq rfl rfl (by omega) (by omega)).mpr h4
          have e9 : daS σ x q = σ := by unfold daS; rw [if_neg (by omega), if_neg (by omega), if_neg (by omega), if_neg (by omega)]
          have e8 : daX x = (drS x) := by unfold daX; rw [if_neg (by omega)]
          rw [e9, e8]
          exact Wn.vret rfl ⟨rfl, hs2, hx4, hF6⟩
        · show Wn _ 226 _ (67, [(2, .int (nI (drN x 8))), (0, .ref b), (1, .int (nI q))], [], M1)
          have h4 := (n_eq rfl rfl (by omega) (by omega)).mp (Classical.not_not.mp h4)
          refine Wn.run (tab := tb_st_drawAct) rfl 2 (c' := (69, [(2, .int (nI (drN x 8))), (0, .ref b), (1, .int (nI q))], [.int (nI 4), .ref b], M1)) (o := []) rfl trivial ?_
          refine Wn.callV (p := b) (n := 2) (ix := 160) (ci := (5)) (PS b M1 σ w (drS (drS x)) (some (.int (nI (drN (drS x) 4))))) [.int (nI 4)] [] rfl rfl rfl hs2.1.1 (Nat.le_of_ble_eq_true rfl) (Nat.le_of_ble_eq_true rfl) (c_st_draw _ M1 b σ hs2 hB w (drS x) hw3 hx4 4 (by omega) (by omega)) ?_
          rintro _ M7 ⟨rfl, hs8, hw9, hx10, hF11⟩
          show Wn _ 226 _ (72, [(2, .int (nI (drN x 8))), (0, .ref b), (1, .int (nI q))], [.int (nI (drN (drS x) 4))], M7)
          have hF12 := fr_tr hF6 hF11 (by simp)
          have dr9 := drN_lt (drS x) (n := 4) (by omega)
          refine Wn.run (tab := tb_st_drawAct) rfl 1 (c' := (if ¬ (nI (drN (drS x) 4)) = 0 then 81 else 75, [(2, .int (nI (drN x 8))), (0, .ref b), (1, .int (nI q))], [], M7)) (o := []) rfl trivial ?_
          refine Wn.br (fun h5 => ?_) (fun h5 => ?_)
          · show Wn _ 226 _ (81, [(2, .int (nI (drN x 8))), (0, .ref b), (1, .int (nI q))], [], M7)
            have h5 := mt (n_eq rfl nI_0.symm (by omega) (by omega)).mpr h5
            have e9 : daS σ x q = σ := by unfold daS; rw [if_neg (by omega), if_neg (by omega), if_neg (by omega), if_neg (by omega)]
            have e8 : daX x = (drS (drS x)) := by unfold daX; rw [if_pos (by omega)]
            rw [e9, e8]
            exact Wn.vret rfl ⟨rfl, hs8, hx10, hF12⟩
          · show Wn _ 226 _ (75, [(2, .int (nI (drN x 8))), (0, .ref b), (1, .int (nI q))], [], M7)
            have h5 := (n_eq rfl nI_0.symm (by omega) (by omega)).mp (Classical.not_not.mp h5)
            refine Wn.run (tab := tb_st_drawAct) rfl 2 (c' := (77, [(2, .int (nI (drN x 8))), (0, .ref b), (1, .int (nI q))], [.int (nI q), .ref b], M7)) (o := []) rfl trivial ?_
            refine Wn.callV (p := b) (n := 2) (ix := 172) (ci := (5)) (PS b M7 (swf σ q) (if fal σ q = true then w else (w ||| nI (2 ^ q))) (drS (drS x)) (some (.int (nI (if fal σ q = true then 1 else 0))))) [.int (nI q)] [] rfl rfl rfl hs8.1.1 (Nat.le_of_ble_eq_true rfl) (Nat.le_of_ble_eq_true rfl) (c_st_trySwear _ M7 b σ hs8 hB w (drS (drS x)) hw9 hx10 hI q (by omega)) ?_
            rintro _ M13 ⟨rfl, hs14, hw15, hx16, hF17⟩
            show Wn _ 226 _ (80, [(2, .int (nI (drN x 8))), (0, .ref b), (1, .int (nI q))], [.int (nI (if fal σ q = true then 1 else 0))], M13)
            have hF18 := fr_tr hF12 hF17 (by simp)
            refine Wn.run (tab := tb_st_drawAct) rfl 1 (c' := (81, [(2, .int (nI (drN x 8))), (0, .ref b), (1, .int (nI q))], [], M13)) (o := []) rfl trivial ?_
            have e9 : daS σ x q = (swf σ q) := by unfold daS; rw [if_neg (by omega), if_neg (by omega), if_neg (by omega), if_pos (by omega)]
            have e8 : daX x = (drS (drS x)) := by unfold daX; rw [if_pos (by omega)]
            rw [e9, e8]
            exact Wn.vret rfl ⟨rfl, hs14, hx16, hF18⟩
      · show Wn _ 226 _ (41, [(2, .int (nI (drN x 8))), (0, .ref b), (1, .int (nI q))], [], M1)
        have h3 := (n_eq rfl rfl (by omega) (by omega)).mp (Classical.not_not.mp h3)
        refine Wn.run (tab := tb_st_drawAct) rfl 6 (c' := (51, [(2, .int (nI (drN x 8))), (0, .ref b), (1, .int (nI q))], [.int (M1.1 (lkp b) 2), .ref b, .int (nI q), .ref b], M1)) (o := [shp b = (0, 5), shp (lkp b) = (0, 2)]) rfl ⟨hs2.1.1, hs2.2.1.1⟩ ?_
        have c9_2 := Bd_2 hB
        rw [show (M1.1 (lkp b) 2) = (nI (σ 2)) from (hs2.2.1.2.2.2.1 2 (by decide))]
        refine Wn.callV (p := b) (n := 2) (ix := 160) (ci := (5)) (PS b M1 σ w (drS (drS x)) (some (.int (nI (drN (drS x) (σ 2)))))) [.int (nI (σ 2))] [.int (nI q), .ref b] rfl rfl rfl hs2.1.1 (Nat.le_of_ble_eq_true rfl) (Nat.le_of_ble_eq_true rfl) (c_st_draw _ M1 b σ hs2 hB w (drS x) hw3 hx4 (σ 2) (by omega) (by omega)) ?_
        rintro _ M19 ⟨rfl, hs20, hw21, hx22, hF23⟩
        show Wn _ 226 _ (54, [(2, .int (nI (drN x 8))), (0, .ref b), (1, .int (nI q))], [.int (nI (drN (drS x) (σ 2))), .int (nI q), .ref b], M19)
        have hF24 := fr_tr hF6 hF23 (by simp)
        have dr9 := drN_lt (drS x) (n := (σ 2)) (by omega)
        refine Wn.callV (p := b) (n := 3) (ix := 169) (ci := (5)) (PS b M19 (prf σ q (drN (drS x) (σ 2))) w (drS (drS x)) (some (.int (nI (wpr σ q (drN (drS x) (σ 2))))))) [.int (nI q), .int (nI (drN (drS x) (σ 2)))] [] rfl rfl rfl hs20.1.1 (Nat.le_of_ble_eq_true rfl) (Nat.le_of_ble_eq_true rfl) (c_st_tryPraise _ M19 b σ hs20 hB w (drS (drS x)) hw21 hx22 hI hb q (drN (drS x) (σ 2)) (by omega) (by omega) (hp (drN (drS x) (σ 2)) (by omega))) ?_
        rintro _ M25 ⟨rfl, hs26, hw27, hx28, hF29⟩
        show Wn _ 226 _ (57, [(2, .int (nI (drN x 8))), (0, .ref b), (1, .int (nI q))], [.int (nI (wpr σ q (drN (drS x) (σ 2))))], M25)
        have hF30 := fr_tr hF24 hF29 (by simp)
        refine Wn.run (tab := tb_st_drawAct) rfl 2 (c' := (81, [(2, .int (nI (drN x 8))), (0, .ref b), (1, .int (nI q))], [], M25)) (o := []) rfl trivial ?_
        have e9 : daS σ x q = (prf σ q (drN (drS x) (σ 2))) := by unfold daS; rw [if_neg (by omega), if_neg (by omega), if_pos (by omega)]
        have e8 : daX x = (drS (drS x)) := by unfold daX; rw [if_pos (by omega)]
        rw [e9, e8]
        exact Wn.vret rfl ⟨rfl, hs26, hx28, hF30⟩
    · show Wn _ 226 _ (27, [(2, .int (nI (drN x 8))), (0, .ref b), (1, .int (nI q))], [], M1)
      have h2 := (n_eq rfl rfl (by omega) (by omega)).mp (Classical.not_not.mp h2)
      refine Wn.run (tab := tb_st_drawAct) rfl 2 (c' := (29, [(2, .int (nI (drN x 8))), (0, .ref b), (1, .int (nI q))], [.int (nI q), .ref b], M1)) (o := []) rfl trivial ?_
      refine Wn.callV (p := b) (n := 2) (ix := 166) (ci := (5)) (PS b M1 (bowf σ q) w (drS x) (some (.int (nI (wbw σ q))))) [.int (nI q)] [] rfl rfl rfl hs2.1.1 (Nat.le_of_ble_eq_true rfl) (Nat.le_of_ble_eq_true rfl) (c_st_tryBow _ M1 b σ hs2 hB w (drS x) hw3 hx4 hI q (by omega)) ?_
      rintro _ M31 ⟨rfl, hs32, hw33, hx34, hF35⟩
      show Wn _ 226 _ (32, [(2, .int (nI (drN x 8))), (0, .ref b), (1, .int (nI q))], [.int (nI (wbw σ q))], M31)
      have hF36 := fr_tr hF6 hF35 (by simp)
      refine Wn.run (tab := tb_st_drawAct) rfl 2 (c' := (81, [(2, .int (nI (drN x 8))), (0, .ref b), (1, .int (nI q))], [], M31)) (o := []) rfl trivial ?_
      have e9 : daS σ x q = (bowf σ q) := by unfold daS; rw [if_neg (by omega), if_pos (by omega)]
      have e8 : daX x = (drS x) := by unfold daX; rw [if_neg (by omega)]
      rw [e9, e8]
      exact Wn.vret rfl ⟨rfl, hs32, hx34, hF36⟩
  · show Wn _ 226 _ (12, [(2, .int (nI (drN x 8))), (0, .ref b), (1, .int (nI q))], [], M1)
    have h1 := mt (n_le rfl rfl (by omega) (by omega)).mpr h1
    refine Wn.run (tab := tb_st_drawAct) rfl 3 (c' := (15, [(2, .int (nI (drN x 8))), (0, .ref b), (1, .int (nI q))], [.int (nI (drN x 8)), .int (nI q), .ref b], M1)) (o := []) rfl trivial ?_
    refine Wn.callV (p := b) (n := 3) (ix := 163) (ci := (5)) (PS b M1 (gof σ q (drN x 8)) w (drS x) (some (.int (nI (wgo σ q (drN x 8)))))) [.int (nI q), .int (nI (drN x 8))] [] rfl rfl rfl hs2.1.1 (Nat.le_of_ble_eq_true rfl) (Nat.le_of_ble_eq_true rfl) (c_st_tryGo _ M1 b σ hs2 hB w (drS x) hw3 hx4 hI q (drN x 8) (by omega) (by omega)) ?_
    rintro _ M37 ⟨rfl, hs38, hw39, hx40, hF41⟩
    show Wn _ 226 _ (18, [(2, .int (nI (drN x 8))), (0, .ref b), (1, .int (nI q))], [.int (nI (wgo σ q (drN x 8)))], M37)
    have hF42 := fr_tr hF6 hF41 (by simp)
    refine Wn.run (tab := tb_st_drawAct) rfl 2 (c' := (81, [(2, .int (nI (drN x 8))), (0, .ref b), (1, .int (nI q))], [], M37)) (o := []) rfl trivial ?_
    have e9 : daS σ x q = (gof σ q (drN x 8)) := by unfold daS; rw [if_pos (by omega)]
    have e8 : daX x = (drS x) := by unfold daX; rw [if_neg (by omega)]
    rw [e9, e8]
    exact Wn.vret rfl ⟨rfl, hs38, hx40, hF42⟩
/-- the acts of an hour that is drawn -/
def dhN (σ : Nat → Nat) (x : Int32) : Nat → (Nat → Nat) × Int32
  | 0 => (σ, x)
  | n + 1 => (daS (dhN σ x n).1 (dhN σ x n).2 n, daX (dhN σ x n).2)
theorem thn_172 {σ : Nat → Nat} {c k : Nat} (hc : c < 64) (hk : k < 90 ∨ k = 90 ∨ 160 ≤ k) : thn σ c k = σ k := by
  unfold thn
  split
  · rw [su_ne (by omega), su_ne (by omega)]
  · rw [su_ne (by omega)]
theorem flat_pr {σ : Nat → Nat} {r k : Nat} (hr : r < 6) (ha : σ (160 + r) < 64) (hk : k < 6) : flat σ r (172 + k) ≤ σ (172 + k) + 1 := by
  have h1 : flt0 σ r (172 + k) ≤ σ (172 + k) + 1 := by
    unfold flt0
    rw [su_ne (by omega)]
    unfold su
    split
    · rw [show k = r by omega]; omega
    · split <;> omega
  unfold flat
  split
  · rw [sink_lo (by omega), su_ne (by omega)]; exact h1
  · exact h1
theorem flat_lo {σ : Nat → Nat} {r k : Nat} (hr : r < 6) (ha : σ (160 + r) < 64) (hk : k < 90 ∨ k = 90) : flat σ r k = σ k := by
  have h1 : flt0 σ r k = σ k := by unfold flt0; rw [su_ne (by omega), su_ne (by omega), su_ne (by omega)]
  unfold flat
  split
  · rw [sink_lo (by omega), su_ne (by omega)]; exact h1
  · exact h1
theorem gof_lo {σ : Nat → Nat} {q s k : Nat} (hq : q < 6) (hk : k < 160 ∨ 166 ≤ k) : gof σ q s k = σ k := by
  by_cases hw : wgo σ q s = 0
  · obtain ⟨j, hb, -, -⟩ := wgo_some hw
    rw [show gof σ q s = su σ (160 + q) j from by unfold gof; rw [hb]; exact if_pos hw]
    exact su_ne (by omega)
  · rw [gof_no hw]
theorem bend_lo {σ : Nat → Nat} {q k : Nat} (hq : q < 6) (ha : σ (160 + q) < 64) (hk : k < 92 ∨ 94 ≤ k ∧ k < 96 ∨ 160 ≤ k ∧ k < 166 ∨ 172 ≤ k) : bend σ q k = σ k := by
  unfold bend
  rw [su_ne (by omega), su_ne (by omega), su_ne (by omega), su_ne (by omega)]
theorem curse_hi {σ : Nat → Nat} {q k : Nat} (hq : q < 6) (hk : k < 91 ∨ 172 ≤ k) : curse σ q k = σ k := by
  unfold curse
  rw [sink_lo (by omega), su_ne (by omega), su_ne (by omega), crs_lo (by omega)]
theorem daS_lo {σ : Nat → Nat} (hB : Bd σ) {x : Int32} {q k : Nat} (hq : q < σ 2) (hk : k < 90 ∨ k = 90) : daS σ x q k = σ k := by
  have h26 := Bd_2 hB
  have f9 := Bd_q hB q (by omega)
  have d9 := drN_lt (drS x) (n := σ 2) (by omega)
  have g9 := Bd_q hB (drN (drS x) (σ 2)) (by omega)
  unfold daS
  split
  · exact gof_lo (by omega) (by omega)
  · split
    · unfold bowf; split
      · exact bend_lo (by omega) f9.1 (by omega)
      · rfl
    · split
      · unfold prf; split
        · exact flat_lo (by omega) g9.1 (by omega)
        · rfl
      · split
        · unfold swf; split
          · rfl
          · exact curse_hi (by omega) (by omega)
        · rfl
theorem daS_pr {σ : Nat → Nat} (hB : Bd σ) {x : Int32} {q k : Nat} (hq : q < σ 2) (hk : k < 6) : daS σ x q (172 + k) ≤ σ (172 + k) + 1 := by
  have h26 := Bd_2 hB
  have f9 := Bd_q hB q (by omega)
  have d9 := drN_lt (drS x) (n := σ 2) (by omega)
  have g9 := Bd_q hB (drN (drS x) (σ 2)) (by omega)
  unfold daS
  split
  · rw [gof_lo (by omega) (by omega)]; omega
  · split
    · unfold bowf; split
      · rw [bend_lo (by omega) f9.1 (by omega)]; omega
      · omega
    · split
      · unfold prf; split
        · exact flat_pr (by omega) g9.1 hk
        · omega
      · split
        · unfold swf; split
          · omega
          · rw [curse_hi (by omega) (by omega)]; omega
        · omega
theorem Inv_daS {σ : Nat → Nat} (h : Inv σ) {x : Int32} {q : Nat} (hq : q < σ 2) (hp : ∀ r, r < 6 → σ (172 + r) + 1 < 1073741824) : Inv (daS σ x q) := by
  have h26 := Bd_2 h.1
  have d9 := drN_lt (drS x) (n := σ 2) (by omega)
  unfold daS
  split
  · exact Inv_gof h hq
  · split
    · exact Inv_bowf h hq
    · split
      · exact Inv_prf h d9 (hp _ (by omega))
      · split
        · exact Inv_swf h (by omega)
        · exact h
theorem dhN_ok {σ : Nat → Nat} (h : Inv σ) {x : Int32} (hp : ∀ r, r < 6 → σ (172 + r) + 6 < 1073741824) : ∀ n, n ≤ σ 2 → Inv (dhN σ x n).1 ∧ (dhN σ x n).1 2 = σ 2 ∧ (dhN σ x n).1 90 = σ 90 ∧ ∀ r, r < 6 → (dhN σ x n).1 (172 + r) ≤ σ (172 + r) + n
  | 0, _ => ⟨h, rfl, rfl, fun r hr => Nat.le_refl _⟩
  | n + 1, hn => by
    have h26 := Bd_2 h.1
    obtain ⟨i1, i2, i3, i4⟩ := dhN_ok h hp n (by omega)
    refine ⟨Inv_daS i1 (by omega) (fun r hr => ?_), ?_, ?_, fun r hr => ?_⟩
    · have := i4 r hr; have := hp r hr; omega
    · show daS _ _ _ 2 = _; rw [daS_lo i1.1 (by omega) (by omega)]; exact i2
    · show daS _ _ _ 90 = _; rw [daS_lo i1.1 (by omega) (by omega)]; exact i3
    · have h1 := daS_pr (σ := (dhN σ x n).1) i1.1 (x := (dhN σ x n).2) (q := n) (by omega) hr
      have := i4 r hr
      show daS _ _ _ (172 + r) ≤ _
      omega
set_option maxRecDepth 20000 in
theorem c_st_drawHour (d : Nat) (M : Mm) (b : Nat) (σ : Nat → Nat) (hS : StC M b σ) (hV : Inv σ) (x : Int32) (hx : M.1 b 12 = x) (hp : ∀ r, r < 6 → σ (172 + r) + 6 < 1073741824) (h400 : σ 90 < 400) : Wn (d + 6) 225 (PX b M (hour (dhN σ x (σ 2)).1) (dhN σ x (σ 2)).2 none) (0, lv_args 0 [.ref b], [], M) := by
  have hF := fr_rf [b, (b + 1), (b + 2), (b + 3), (b + 4)] M
  obtain ⟨w, hw⟩ : ∃ w, M.1 b 11 = w := ⟨_, rfl⟩
  have hB := hV.1
  have hI := hV.2.1
  have hb := hV.2.2.2
  have c9_2 := Bd_2 hB
  refine Wn.run (tab := tb_st_drawHour) rfl 2 (c' := (2, [(1, .int (nI 0)), (0, .ref b)], [], M)) (o := []) rfl trivial ?_
  have hV0 := hV
  have loop : ∀ (m z : Nat) (N : Mm), σ 2 - z = m → z ≤ σ 2 → StC N b (dhN σ x z).1 → N.1 b 12 = (dhN σ x z).2 → Fr [b, (b + 1), (b + 2), (b + 3), (b + 4)] M N → Wn (d + 6) 225 (PX b M (hour (dhN σ x (σ 2)).1) (dhN σ x (σ 2)).2 none) (2, [(1, .int (nI z)), (0, .ref b)], [], N) := by
    intro m
    induction m using Nat.strongRecOn with
    | _ m ih =>
      intro z N hm hz loop_0 loop_1 loop_2
      obtain ⟨i1, i2, i3, i4⟩ := dhN_ok hV0 (x := x) hp z hz
      obtain ⟨τ, hτ⟩ : ∃ τ, (dhN σ x z).1 = τ := ⟨_, rfl⟩
      obtain ⟨y, hy⟩ : ∃ y, (dhN σ x z).2 = y := ⟨_, rfl⟩
      rw [hτ] at loop_0 i1 i2 i3 i4
      rw [hy] at loop_1
      have hV := i1
      have hB := hV.1
      obtain ⟨w9, hw9⟩ : ∃ w, N.1 b 11 = w := ⟨_, rfl⟩
      refine Wn.run (tab := tb_st_drawHour) rfl 5 (c' := (if (N.1 (lkp b) 2) ≤ (nI z) then 24 else 13, [(1, .int (nI z)), (0, .ref b)], [], N)) (o := [shp b = (0, 5), shp (lkp b) = (0, 2)]) rfl ⟨loop_0.1.1, loop_0.2.1.1⟩ ?_
      refine Wn.br (fun h1 => ?_) (fun h1 => ?_)
      · show Wn _ 225 _ (24, [(1, .int (nI z)), (0, .ref b)], [], N)
        have c9_2 := Bd_2 hB
        have h1 := (n_le (loop_0.2.1.2.2.2.1 2 (by decide)) rfl (by omega) (by omega)).mp h1
        refine Wn.run (tab := tb_st_drawHour) rfl 1 (c' := (25, [(1, .int (nI z)), (0, .ref b)], [.ref b], N)) (o := []) rfl trivial ?_
        refine Wn.callV (p := b) (n := 1) (ix := 157) (ci := (5)) (PS b N (hour τ) (w9 ||| nI (swN τ (τ 2))) y none) [] [] rfl rfl rfl loop_0.1.1 (Nat.le_of_ble_eq_true rfl) (Nat.le_of_ble_eq_true rfl) (c_st_passHour _ N b τ loop_0 hB w9 y hw9 loop_1 hV (by omega)) ?_
        rintro _ M1 ⟨rfl, hs2, hw3, hx4, hF5⟩
        show Wn _ 225 _ (28, [(1, .int (nI z)), (0, .ref b)], [], M1)
        have hF6 := fr_tr loop_2 hF5 (by simp)
        have e8 : z = σ 2 := by omega
        rw [← e8, hτ, hy]
        exact Wn.vret rfl ⟨rfl, hs2, hx4, hF6⟩
      · show Wn _ 225 _ (13, [(1, .int (nI z)), (0, .ref b)], [], N)
        have c9_2 := Bd_2 hB
        have h1 := mt (n_le (loop_0.2.1.2.2.2.1 2 (by decide)) rfl (by omega) (by omega)).mpr h1
        refine Wn.run (tab := tb_st_drawHour) rfl 2 (c' := (15, [(1, .int (nI z)), (0, .ref b)], [.int (nI z), .ref b], N)) (o := []) rfl trivial ?_
        refine Wn.callV (p := b) (n := 2) (ix := 154) (ci := (5)) (PX b N (daS τ y z) (daX y) none) [.int (nI z)] [] rfl rfl rfl loop_0.1.1 (Nat.le_of_ble_eq_true rfl) (Nat.le_of_ble_eq_true rfl) (c_st_drawAct _ N b τ loop_0 hV y loop_1 z (by omega) (fun r hr => by have := i4 r hr; have := hp r hr; omega)) ?_
        rintro _ M7 ⟨rfl, hs8, hx9, hF10⟩
        show Wn _ 225 _ (18, [(1, .int (nI z)), (0, .ref b)], [], M7)
        obtain ⟨w12, hw11⟩ : ∃ w, M7.1 b 11 = w := ⟨_, rfl⟩
        have hF13 := fr_tr loop_2 hF10 (by simp)
        refine Wn.run (tab := tb_st_drawHour) rfl 2 (c' := (2, [(1, .int ((nI z) + (nI 1))), (0, .ref b)], [], M7)) (o := []) rfl trivial ?_
        rw [show ((nI z) + (nI 1)) = (nI (z + 1)) from (n_add rfl rfl)]
        exact ih (σ 2 - (z + 1)) (by omega) (z + 1) M7 rfl (by omega) (show StC M7 b (daS (dhN σ x z).1 (dhN σ x z).2 z) by rw [hτ, hy]; exact hs8) (show M7.1 b 12 = daX (dhN σ x z).2 by rw [hy]; exact hx9) hF13
  exact loop (σ 2 - 0) 0 M rfl (by omega) hS hx hF
