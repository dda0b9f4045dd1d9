/-! Books. -/
/-- what is done (0 to 4: a step, a bow, a praise, an oath, hours), by whom (or how many), to whom (or whither) -/
abbrev Bke : Type := Nat × Nat × Nat
def rdB1 (T : Nat → Nat) (L mo p : Nat) (ν : Nat → Int64) (np q : Nat) : Flt ⊕ (Nat × Bke) :=
  if 17 ≤ tKd T L mo p ∧ tKd T L mo p ≤ 20 then .inr (tNx T L p, 0, q, tKd T L mo p - 17)
  else if tKd T L mo p = 21 then .inr (tNx T L p, 1, q, 0)
  else if tKd T L mo p = 23 then .inr (tNx T L p, 3, q, 0)
  else if tKd T L mo p = 22 then (if ¬ tKd T L mo (tNx T L p) = 3 then .inl (1, tAt T L mo (tNx T L p)) else
    match pcl ν (tNm T L (tNx T L p)) np with
    | none => .inl (3, tAt T L mo (tNx T L p))
    | some r => .inr (tNx T L (tNx T L p), 2, q, r))
  else .inl (1, tAt T L mo p)
def rdB (T : Nat → Nat) (L mo p : Nat) (ν : Nat → Int64) (np k : Nat) : Flt ⊕ (Nat × Bke) :=
  if tKd T L mo p = 24 then (if k = 40 then .inl (4, tAt T L mo p) else
    match tkN T L mo (tNx T L p) 1 60 with
    | .inl f => .inl f
    | .inr (n, p1) => .inr (p1, 4, n, 0))
  else if ¬ tKd T L mo p = 3 then .inl (1, tAt T L mo p) else
  match pcl ν (tNm T L p) np with
  | none => .inl (3, tAt T L mo p)
  | some q => if k = 40 then .inl (4, tAt T L mo p) else rdB1 T L mo (tNx T L p) ν np q
def bkK (e : Bke) : Nat := if e.1 = 0 then 17 + e.2.2 else if e.1 = 1 then 21 else if e.1 = 2 then 22 else if e.1 = 3 then 23 else 24
def bkD (e : Bke) : Nat := if e.1 = 4 then 0 else e.2.1
def bkO (e : Bke) : Nat := if e.1 = 4 then e.2.1 else if e.1 = 2 then e.2.2 else 0
/-- the class's book behind a line -/
def PBk (M0 : Mm) (T : Nat → Nat) (L mo k : Nat) (res : Flt ⊕ (Nat × Bke)) : Po := fun r0 M' => r0 = none ∧ Fr [77, 80, 81, 82] M0 M' ∧ match res with
  | .inl f => RdD M' f.1 f.2
  | .inr (p2, e) => (∃ ta, RdL M' T L mo p2 ta) ∧ (M'.2.2 80 k = 100000 + bkK e ∧ M'.1 81 k = nI (bkD e) ∧ M'.1 82 k = nI (bkO e)) ∧ ∀ i, ¬ i = k → M'.2.2 80 i = M0.2.2 80 i ∧ M'.1 81 i = M0.1 81 i ∧ M'.1 82 i = M0.1 82 i
/-- the side of a kind -/
def sdK (q : Nat) : Int32 := if 100017 ≤ q ∧ q ≤ 100020 then nI (q - 100017) else -1
theorem sd_sw : ∀ c, c < 36 → tsw [1, 4, 48, 40, 42, 44, 46] (Int32.ofInt (([0, 0, 0, 0, 0, 0, 0, 0, 17, 0, 5, 6, 7, 8, 9, 10, 11, 1, 2, 3, 4, 13, 14, 15, 12, 27, 26, 16, 18, 19, 20, 21, 22, 23, 24, 25] : List Int).getD ((nI c)).toNatClampNeg 0)) = if 17 ≤ c ∧ c ≤ 20 then 40 + 2 * (c - 17) else 48 := by decide +kernel
theorem w_kd_side (d : Nat) (q : Nat) (hq : isK q) (M : Mm) (Q : Po) (hQ : Q (some (.int (sdK q))) M) : Wn (d + 0) 161 Q (0, lv_args 0 [.ref q], [], M) := by
  have h2 := hq
  unfold isK at h2
  refine Wn.run (tab := tb_kd_side) rfl 5 (c' := (tsw [1, 4, 48, 40, 42, 44, 46] (Int32.ofInt (([0, 0, 0, 0, 0, 0, 0, 0, 17, 0, 5, 6, 7, 8, 9, 10, 11, 1, 2, 3, 4, 13, 14, 15, 12, 27, 26, 16, 18, 19, 20, 21, 22, 23, 24, 25] : List Int).getD ((nI (q - 100000))).toNatClampNeg 0)), [(0, .ref q)], [], M)) (o := [isK q, ct [.ref 200003] ≤ 8, 200003 = 200003, vp_in (nI (q - 100000)) 36]) rfl ⟨hq, Nat.le_of_ble_eq_true rfl, rfl, vp_in_nI (by omega) (by decide)⟩ ?_
  rw [sd_sw (q - 100000) (by omega)]
  unfold sdK at hQ
  by_cases h : 100017 ≤ q ∧ q ≤ 100020
  · rw [if_pos h] at hQ
    rw [if_pos (by omega)]
    have hc : q = 100017 ∨ q = 100018 ∨ q = 100019 ∨ q = 100020 := by omega
    rcases hc with rfl | rfl | rfl | rfl
    · refine Wn.run (tab := tb_kd_side) rfl 1 (c' := (41, [(0, .ref 100017)], [.int (nI 0)], M)) (o := []) rfl trivial ?_
      exact Wn.iret rfl hQ
    · refine Wn.run (tab := tb_kd_side) rfl 1 (c' := (43, [(0, .ref 100018)], [.int (nI 1)], M)) (o := []) rfl trivial ?_
      exact Wn.iret rfl hQ
    · refine Wn.run (tab := tb_kd_side) rfl 1 (c' := (45, [(0, .ref 100019)], [.int (nI 2)], M)) (o := []) rfl trivial ?_
      exact Wn.iret rfl hQ
    · refine Wn.run (tab := tb_kd_side) rfl 1 (c' := (47, [(0, .ref 100020)], [.int (nI 3)], M)) (o := []) rfl trivial ?_
      exact Wn.iret rfl hQ
  · rw [if_neg h] at hQ
    rw [if_neg (by omega)]
    refine Wn.run (tab := tb_kd_side) rfl 1 (c' := (49, [(0, .ref q)], [.int (-1 : Int32)], M)) (o := []) rfl trivial ?_
    exact Wn.iret rfl hQ
theorem sdK_yes {T : Nat → Nat} {L mo p : Nat} (h : 17 ≤ tKd T L mo p ∧ tKd T L mo p ≤ 20) : ¬ sdK (kR T L mo p) = -1 := by
  have e : kR T L mo p = 100000 + tKd T L mo p := (kR_iff (by omega) (by omega)).mpr rfl
  have hc : tKd T L mo p = 17 ∨ tKd T L mo p = 18 ∨ tKd T L mo p = 19 ∨ tKd T L mo p = 20 := by omega
  rw [e]
  rcases hc with h | h | h | h <;> rw [h] <;> decide
theorem sdK_no {T : Nat → Nat} {L mo p : Nat} (h : ¬ (17 ≤ tKd T L mo p ∧ tKd T L mo p ≤ 20)) : sdK (kR T L mo p) = -1 := by
  refine if_neg ?_
  unfold kR
  split <;> omega
set_option maxRecDepth 20000 in
theorem c_bk_readLine_h (d : Nat) (M : Mm) (T : Nat → Nat) (L mo p ta : Nat) (hR : RdL M T L mo p ta) (σ : Nat → Nat) (hL : LkC M 3 σ) (c9_2 : σ 2 ≤ 6) (ν : Nat → Int64) (hN : NmC M 3 ν (σ 2)) (k : Nat) (hk40 : k < 40) (hsz : M.1 79 3 = nI k) (hk : tKd T L mo p = 24) : Wn (d + 3) 153 (PBk M T L mo k (rdB T L mo p ν (σ 2) k)) (0, lv_args 0 [.ref 79, .ref 77, .ref 3], [], M) := by
  have hF := fr_rf [77, 80, 81, 82] M
  obtain ⟨g, h79⟩ : ∃ g, M.1 79 = g := ⟨_, rfl⟩
  have hk3 : g 3 = nI k := by rw [← h79]; exact hsz
  obtain ⟨A, h80⟩ : ∃ g, M.2.2 80 = g := ⟨_, rfl⟩
  obtain ⟨Dd, h81⟩ : ∃ g, M.1 81 = g := ⟨_, rfl⟩
  obtain ⟨Oo, h82⟩ : ∃ g, M.1 82 = g := ⟨_, rfl⟩
  refine Wn.run (tab := tb_bk_readLine) rfl 6 (c' := (10, [(0, .ref 79), (1, .ref 77), (2, .ref 3)], [], (mI M 81 (upd (M.1 81) ((M.1 79 3)).toNatClampNeg (nI 0))))) (o := [shp 79 = (0, 0), shp 79 = (0, 0), aok shp 81 0 (M.1 79 3)]) rfl ⟨rfl, rfl, (ak1 (n := 40) rfl rfl (fr_eq h79 (show g 3 = (nI k) from hk3)) (by omega))⟩ ?_
  rw [show (M.1 79 3) = (nI k) from (fr_eq h79 (show g 3 = (nI k) from hk3))]
  generalize hM2 : (mI M 81 (upd (M.1 81) ((nI k)).toNatClampNeg (nI 0))) = M1
  have hq3 := RdL_fr (fr_1I hM2) (by decide) hR
  have hk4 := fI_ne hM2 (by decide) h79
  have hk5 := fR_oI hM2 h80
  have hk6 := fI_upx hM2 h81 (cl1 rfl (by omega))
  have hk7 := fI_ne hM2 (by decide) h82
  have hF8 := fr_sI hF hM2 (by decide)
  show Wn _ 153 _ (10, [(0, .ref 79), (1, .ref 77), (2, .ref 3)], [], M1)
  refine Wn.run (tab := tb_bk_readLine) rfl 6 (c' := (20, [(0, .ref 79), (1, .ref 77), (2, .ref 3)], [], (mI M1 82 (upd (M1.1 82) ((M1.1 79 3)).toNatClampNeg (nI 0))))) (o := [shp 79 = (0, 0), shp 79 = (0, 0), aok shp 82 0 (M1.1 79 3)]) rfl ⟨rfl, rfl, (ak1 (n := 40) rfl rfl (fr_eq hk4 (show g 3 = (nI k) from hk3)) (by omega))⟩ ?_
  rw [show (M1.1 79 3) = (nI k) from (fr_eq hk4 (show g 3 = (nI k) from hk3))]
  generalize hM10 : (mI M1 82 (upd (M1.1 82) ((nI k)).toNatClampNeg (nI 0))) = M9
  have hq11 := RdL_fr (fr_1I hM10) (by decide) hq3
  have hk12 := fI_ne hM10 (by decide) hk4
  have hk13 := fR_oI hM10 hk5
  have hk14 := fI_ne hM10 (by decide) hk6
  have hk15 := fI_upx hM10 hk7 (cl1 rfl (by omega))
  have hF16 := fr_sI hF8 hM10 (by decide)
  show Wn _ 153 _ (20, [(0, .ref 79), (1, .ref 77), (2, .ref 3)], [], M9)
  refine Wn.run (tab := tb_bk_readLine) rfl 4 (c' := (if ((M9.2.2 77 10) = 100024) = (false = true) then 63 else 30, [(0, .ref 79), (1, .ref 77), (2, .ref 3)], [], M9)) (o := [shp 77 = (0, 3), isK (M9.2.2 77 10), isK 100024]) rfl ⟨rfl, (by rw [hq11.1.2.2.2.2.2.2.1]; exact isK_kR _ _ _ _), ⟨by decide, by decide⟩⟩ ?_
  rw [if_neg (fun q9 => ac_f.mp q9 (by rw [hq11.1.2.2.2.2.2.2.1]; exact (kR_iff (c := 24) (by omega) (by omega)).mpr (by omega)))]
  show Wn _ 153 _ (30, [(0, .ref 79), (1, .ref 77), (2, .ref 3)], [], M9)
  refine Wn.run (tab := tb_bk_readLine) rfl 6 (c' := (42, [(0, .ref 79), (1, .ref 77), (2, .ref 3)], [], (mR M9 80 (va_up (M9.2.2 80) ((M9.1 79 3)).toNatClampNeg 100024)))) (o := [shp 79 = (0, 0), shp 79 = (0, 0), aok shp 80 4 (M9.1 79 3), isK 100024]) rfl ⟨rfl, rfl, (ak1 (n := 40) rfl rfl (fr_eq hk12 (show g 3 = (nI k) from hk3)) (by omega)), ⟨by decide, by decide⟩⟩ ?_
  rw [show (M9.1 79 3) = (nI k) from (fr_eq hk12 (show g 3 = (nI k) from hk3))]
  generalize hM18 : (mR M9 80 (va_up (M9.2.2 80) ((nI k)).toNatClampNeg 100024)) = M17
  have hq19 := RdL_fr (fr_1R hM18) (by decide) hq11
  have hk20 := fI_oR hM18 hk12
  have hk21 := fR_upx hM18 hk13 (cl1 rfl (by omega))
  have hk22 := fI_oR hM18 hk14
  have hk23 := fI_oR hM18 hk15
  have hF24 := fr_sR hF16 hM18 (by decide)
  show Wn _ 153 _ (42, [(0, .ref 79), (1, .ref 77), (2, .ref 3)], [], M17)
  refine Wn.run (tab := tb_bk_readLine) rfl 1 (c' := (43, [(0, .ref 79), (1, .ref 77), (2, .ref 3)], [.ref 77], M17)) (o := []) rfl trivial ?_
  refine Wn.callV (p := 77) (n := 1) (ix := 72) (ci := (3)) (PLv M17 T L mo (tNx T L p) (tAt T L mo p) none) [] [] rfl rfl rfl rfl (Nat.le_of_ble_eq_true rfl) (Nat.le_of_ble_eq_true rfl) (c_rd_adv _ M17 T L mo p ta hq19 (by omega) (by omega)) ?_
  rintro _ M25 ⟨rfl, hq26, hF27⟩
  show Wn _ 153 _ (46, [(0, .ref 79), (1, .ref 77), (2, .ref 3)], [], M25)
  have hk28 := frI_fun hF27 (by decide) hk20
  have hk29 := frR_fun hF27 (by decide) hk21
  have hk30 := frI_fun hF27 (by decide) hk22
  have hk31 := frI_fun hF27 (by decide) hk23
  have hF32 := fr_tr hF24 hF27 (by decide)
  refine Wn.run (tab := tb_bk_readLine) rfl 7 (c' := (58, [(0, .ref 79), (1, .ref 77), (2, .ref 3)], [.int (nI 60), .int (nI 1), .ref 77, .int (M25.1 79 3), .ref 82], M25)) (o := [shp 79 = (0, 0), shp 79 = (0, 0)]) rfl ⟨rfl, rfl⟩ ?_
  rw [show (M25.1 79 3) = (nI k) from (fr_eq hk28 (show g 3 = (nI k) from hk3))]
  cases hc1 : tkN T L mo (tNx T L p) 1 60 with
  | inl f1 =>
    refine Wn.callV (p := 77) (n := 3) (ix := 75) (ci := (3)) (PFl M25 f1.1 f1.2 (some (.int (nI 1)))) [.int (nI 1), .int (nI 60)] [.int (nI k), .ref 82] rfl rfl rfl rfl (Nat.le_of_ble_eq_true rfl) (Nat.le_of_ble_eq_true rfl) (c_rd_takeE _ M25 T L mo (tNx T L p) (tAt T L mo p) hq26 1 60 (by omega) (by omega) f1 hc1) ?_
    rintro _ M33 ⟨rfl, hq34, hF35⟩
    show Wn _ 153 _ (61, [(0, .ref 79), (1, .ref 77), (2, .ref 3)], [.int (nI 1), .int (nI k), .ref 82], M33)
    have hk36 := frI_fun hF35 (by decide) hk28
    have hk37 := frR_fun hF35 (by decide) hk29
    have hk38 := frI_fun hF35 (by decide) hk30
    have hk39 := frI_fun hF35 (by decide) hk31
    have hF40 := fr_tr hF32 hF35 (by decide)
    refine Wn.run (tab := tb_bk_readLine) rfl 1 (c' := (62, [(0, .ref 79), (1, .ref 77), (2, .ref 3)], [], (mI M33 82 (upd (M33.1 82) ((nI k)).toNatClampNeg (nI 1))))) (o := [aok shp 82 0 (nI k)]) rfl (ak1 (n := 40) rfl rfl rfl (by omega)) ?_
    generalize hM42 : (mI M33 82 (upd (M33.1 82) ((nI k)).toNatClampNeg (nI 1))) = M41
    have hq43 := RdD_fr (fr_1I hM42) (by decide) hq34
    have hk44 := fI_ne hM42 (by decide) hk36
    have hk45 := fR_oI hM42 hk37
    have hk46 := fI_ne hM42 (by decide) hk38
    have hk47 := fI_upx hM42 hk39 (cl1 rfl (by omega))
    have hF48 := fr_sI hF40 hM42 (by decide)
    show Wn _ 153 _ (62, [(0, .ref 79), (1, .ref 77), (2, .ref 3)], [], M41)
    have e9 : rdB T L mo p ν (σ 2) k = .inl f1 := by unfold rdB; rw [if_pos hk, if_neg (show ¬ k = 40 by omega)]; simp only [hc1]
    rw [e9]
    exact Wn.vret rfl ⟨rfl, hF48, hq43⟩
  | inr v1 =>
    obtain ⟨x1, p1⟩ := v1
    have bd1 : 1 ≤ x1 ∧ x1 ≤ 60 := by obtain ⟨q1, q2, q3⟩ := tkN_inr hc1; cases q3; exact q2
    refine Wn.callV (p := 77) (n := 3) (ix := 75) (ci := (3)) (PLv M25 T L mo p1 (tAt T L mo (tNx T L p)) (some (.int (nI x1)))) [.int (nI 1), .int (nI 60)] [.int (nI k), .ref 82] rfl rfl rfl rfl (Nat.le_of_ble_eq_true rfl) (Nat.le_of_ble_eq_true rfl) (c_rd_takeV _ M25 T L mo (tNx T L p) (tAt T L mo p) hq26 1 60 (by omega) (by omega) (x1, p1) hc1) ?_
    rintro _ M49 ⟨rfl, hq50, hF51⟩
    show Wn _ 153 _ (61, [(0, .ref 79), (1, .ref 77), (2, .ref 3)], [.int (nI x1), .int (nI k), .ref 82], M49)
    have hk52 := frI_fun hF51 (by decide) hk28
    have hk53 := frR_fun hF51 (by decide) hk29
    have hk54 := frI_fun hF51 (by decide) hk30
    have hk55 := frI_fun hF51 (by decide) hk31
    have hF56 := fr_tr hF32 hF51 (by decide)
    refine Wn.run (tab := tb_bk_readLine) rfl 1 (c' := (62, [(0, .ref 79), (1, .ref 77), (2, .ref 3)], [], (mI M49 82 (upd (M49.1 82) ((nI k)).toNatClampNeg (nI x1))))) (o := [aok shp 82 0 (nI k)]) rfl (ak1 (n := 40) rfl rfl rfl (by omega)) ?_
    generalize hM58 : (mI M49 82 (upd (M49.1 82) ((nI k)).toNatClampNeg (nI x1))) = M57
    have hq59 := RdL_fr (fr_1I hM58) (by decide) hq50
    have hk60 := fI_ne hM58 (by decide) hk52
    have hk61 := fR_oI hM58 hk53
    have hk62 := fI_ne hM58 (by decide) hk54
    have hk63 := fI_upx hM58 hk55 (cl1 rfl (by omega))
    have hF64 := fr_sI hF56 hM58 (by decide)
    show Wn _ 153 _ (62, [(0, .ref 79), (1, .ref 77), (2, .ref 3)], [], M57)
    have e9 : rdB T L mo p ν (σ 2) k = .inr (p1, 4, x1, 0) := by unfold rdB; rw [if_pos hk, if_neg (show ¬ k = 40 by omega)]; simp only [hc1]
    rw [e9]
    refine Wn.vret rfl ⟨rfl, hF64, ⟨_, hq59⟩, ⟨?_, ?_, ?_⟩, fun i hi => ⟨?_, ?_, ?_⟩⟩
    · rw [hk61, va_up_self]; rfl
    · rw [hk62]; exact pk_us
    · rw [hk63]; exact pk_us
    · rw [hk61, va_up_ne _ _ hi, h80]
    · rw [hk62, pk_un hi, h81]
    · rw [hk63, pk_un hi, pk_un hi, h82]
set_option maxRecDepth 20000 in
theorem c_bk_readLine_n (d : Nat) (M : Mm) (T : Nat → Nat) (L mo p ta : Nat) (hR : RdL M T L mo p ta) (σ : Nat → Nat) (hL : LkC M 3 σ) (c9_2 : σ 2 ≤ 6) (ν : Nat → Int64) (hN : NmC M 3 ν (σ 2)) (k : Nat) (hk40 : k < 40) (hsz : M.1 79 3 = nI k) (hk : ¬ tKd T L mo p = 24) (h0 : ¬ tKd T L mo p = 0) : Wn (d + 3) 153 (PBk M T L mo k (rdB T L mo p ν (σ 2) k)) (0, lv_args 0 [.ref 79, .ref 77, .ref 3], [], M) := by
  have hF := fr_rf [77, 80, 81, 82] M
  obtain ⟨g, h79⟩ : ∃ g, M.1 79 = g := ⟨_, rfl⟩
  have hk3 : g 3 = nI k := by rw [← h79]; exact hsz
  obtain ⟨A, h80⟩ : ∃ g, M.2.2 80 = g := ⟨_, rfl⟩
  obtain ⟨Dd, h81⟩ : ∃ g, M.1 81 = g := ⟨_, rfl⟩
  obtain ⟨Oo, h82⟩ : ∃ g, M.1 82 = g := ⟨_, rfl⟩
  refine Wn.run (tab := tb_bk_readLine) rfl 6 (c' := (10, [(0, .ref 79), (1, .ref 77), (2, .ref 3)], [], (mI M 81 (upd (M.1 81) ((M.1 79 3)).toNatClampNeg (nI 0))))) (o := [shp 79 = (0, 0), shp 79 = (0, 0), aok shp 81 0 (M.1 79 3)]) rfl ⟨rfl, rfl, (ak1 (n := 40) rfl rfl (fr_eq h79 (show g 3 = (nI k) from hk3)) (by omega))⟩ ?_
  rw [show (M.1 79 3) = (nI k) from (fr_eq h79 (show g 3 = (nI k) from hk3))]
  generalize hM2 : (mI M 81 (upd (M.1 81) ((nI k)).toNatClampNeg (nI 0))) = M1
  have hq3 := RdL_fr (fr_1I hM2) (by decide) hR
  have hk4 := fI_ne hM2 (by decide) h79
  have hk5 := fR_oI hM2 h80
  have hk6 := fI_upx hM2 h81 (cl1 rfl (by omega))
  have hk7 := fI_ne hM2 (by decide) h82
  have hF8 := fr_sI hF hM2 (by decide)
  show Wn _ 153 _ (10, [(0, .ref 79), (1, .ref 77), (2, .ref 3)], [], M1)
  refine Wn.run (tab := tb_bk_readLine) rfl 6 (c' := (20, [(0, .ref 79), (1, .ref 77), (2, .ref 3)], [], (mI M1 82 (upd (M1.1 82) ((M1.1 79 3)).toNatClampNeg (nI 0))))) (o := [shp 79 = (0, 0), shp 79 = (0, 0), aok shp 82 0 (M1.1 79 3)]) rfl ⟨rfl, rfl, (ak1 (n := 40) rfl rfl (fr_eq hk4 (show g 3 = (nI k) from hk3)) (by omega))⟩ ?_
  rw [show (M1.1 79 3) = (nI k) from (fr_eq hk4 (show g 3 = (nI k) from hk3))]
  generalize hM10 : (mI M1 82 (upd (M1.1 82) ((nI k)).toNatClampNeg (nI 0))) = M9
  have hq11 := RdL_fr (fr_1I hM10) (by decide) hq3
  have hk12 := fI_ne hM10 (by decide) hk4
  have hk13 := fR_oI hM10 hk5
  have hk14 := fI_ne hM10 (by decide) hk6
  have hk15 := fI_upx hM10 hk7 (cl1 rfl (by omega))
  have hF16 := fr_sI hF8 hM10 (by decide)
  show Wn _ 153 _ (20, [(0, .ref 79), (1, .ref 77), (2, .ref 3)], [], M9)
  refine Wn.run (tab := tb_bk_readLine) rfl 4 (c' := (if ((M9.2.2 77 10) = 100024) = (false = true) then 63 else 30, [(0, .ref 79), (1, .ref 77), (2, .ref 3)], [], M9)) (o := [shp 77 = (0, 3), isK (M9.2.2 77 10), isK 100024]) rfl ⟨rfl, (by rw [hq11.1.2.2.2.2.2.2.1]; exact isK_kR _ _ _ _), ⟨by decide, by decide⟩⟩ ?_
  rw [if_pos (ac_f.mpr (by rw [hq11.1.2.2.2.2.2.2.1]; exact mt (kR_iff (c := 24) (by omega) (by omega)).mp (by omega)))]
  show Wn _ 153 _ (63, [(0, .ref 79), (1, .ref 77), (2, .ref 3)], [], M9)
  refine Wn.run (tab := tb_bk_readLine) rfl 6 (c' := (73, [(0, .ref 79), (1, .ref 77), (2, .ref 3)], [.ref 3, .ref 77, .int (M9.1 79 3), .ref 81], M9)) (o := [shp 79 = (0, 0), shp 79 = (0, 0)]) rfl ⟨rfl, rfl⟩ ?_
  rw [show (M9.1 79 3) = (nI k) from (fr_eq hk12 (show g 3 = (nI k) from hk3))]
  by_cases hk1_3 : tKd T L mo p = 3
  · cases hpc1 : pcl ν (tNm T L p) (σ 2) with
    | some q1 =>
      have q1_6 : q1 < 6 := by have t9 := til_lt _ _ _ hpc1; omega
      have q1_s : q1 < σ 2 := by have t9 := til_lt _ _ _ hpc1; omega
      refine Wn.callV (p := 77) (n := 2) (ix := 61) (ci := (3)) (PLv M9 T L mo (tNx T L p) (tAt T L mo p) (some (.int (nI q1)))) [.ref 3] [.int (nI k), .ref 81] rfl rfl rfl rfl (Nat.le_of_ble_eq_true rfl) (Nat.le_of_ble_eq_true rfl) (c_rd_takePerson_ok _ M9 T L mo p ta hq11 3 σ (LkC_fr hL (hF16 3 (by decide)).1 (hF16 5 (by decide)).1) c9_2 ν (NmC_fr hF16 (by decide) hN) (by decide) hk1_3 q1 q1_6 hpc1) ?_
      rintro _ M19 ⟨rfl, hq17, hF18⟩
      show Wn _ 153 _ (76, [(0, .ref 79), (1, .ref 77), (2, .ref 3)], [.int (nI q1), .int (nI k), .ref 81], M19)
      have hk20 := frI_fun hF18 (by decide) hk12
      have hk21 := frR_fun hF18 (by decide) hk13
      have hk22 := frI_fun hF18 (by decide) hk14
      have hk23 := frI_fun hF18 (by decide) hk15
      have hF24 := fr_tr hF16 hF18 (by decide)
      have kl9 := tKd_le T L mo (tNx T L p)
      by_cases hs : 17 ≤ tKd T L mo (tNx T L p) ∧ tKd T L mo (tNx T L p) ≤ 20
      · refine Wn.run (tab := tb_bk_readLine) rfl 1 (c' := (77, [(0, .ref 79), (1, .ref 77), (2, .ref 3)], [], (mI M19 81 (upd (M19.1 81) ((nI k)).toNatClampNeg (nI q1))))) (o := [aok shp 81 0 (nI k)]) rfl (ak1 (n := 40) rfl rfl rfl (by omega)) ?_
        generalize hM26 : (mI M19 81 (upd (M19.1 81) ((nI k)).toNatClampNeg (nI q1))) = M25
        have hq27 := RdL_fr (fr_1I hM26) (by decide) hq17
        have hk28 := fI_ne hM26 (by decide) hk20
        have hk29 := fR_oI hM26 hk21
        have hk30 := fI_upx hM26 hk22 (cl1 rfl (by omega))
        have hk31 := fI_ne hM26 (by decide) hk23
        have hF32 := fr_sI hF24 hM26 (by decide)
        show Wn _ 153 _ (77, [(0, .ref 79), (1, .ref 77), (2, .ref 3)], [], M25)
        refine Wn.run (tab := tb_bk_readLine) rfl 7 (c' := (90, [(0, .ref 79), (1, .ref 77), (2, .ref 3)], [], (mR M25 80 (va_up (M25.2.2 80) ((M25.1 79 3)).toNatClampNeg (M25.2.2 77 10))))) (o := [shp 79 = (0, 0), shp 79 = (0, 0), shp 77 = (0, 3), aok shp 80 4 (M25.1 79 3), isK (M25.2.2 77 10)]) rfl ⟨rfl, rfl, rfl, (ak1 (n := 40) rfl rfl (fr_eq hk28 (show g 3 = (nI k) from hk3)) (by omega)), (by rw [hq27.1.2.2.2.2.2.2.1]; exact isK_kR _ _ _ _)⟩ ?_
        rw [show (M25.2.2 77 10) = (kR T L mo (tNx T L p)) from hq27.1.2.2.2.2.2.2.1]
        rw [show (M25.1 79 3) = (nI k) from (fr_eq hk28 (show g 3 = (nI k) from hk3))]
        generalize hM34 : (mR M25 80 (va_up (M25.2.2 80) ((nI k)).toNatClampNeg (kR T L mo (tNx T L p)))) = M33
        have hq35 := RdL_fr (fr_1R hM34) (by decide) hq27
        have hk36 := fI_oR hM34 hk28
        have hk37 := fR_upx hM34 hk29 (cl1 rfl (by omega))
        have hk38 := fI_oR hM34 hk30
        have hk39 := fI_oR hM34 hk31
        have hF40 := fr_sR hF32 hM34 (by decide)
        show Wn _ 153 _ (90, [(0, .ref 79), (1, .ref 77), (2, .ref 3)], [], M33)
        refine Wn.run (tab := tb_bk_readLine) rfl 4 (c' := (if ((M33.2.2 77 10) = 100022) = (false = true) then 124 else 100, [(0, .ref 79), (1, .ref 77), (2, .ref 3)], [], M33)) (o := [shp 77 = (0, 3), isK (M33.2.2 77 10), isK 100022]) rfl ⟨rfl, (by rw [hq35.1.2.2.2.2.2.2.1]; exact isK_kR _ _ _ _), ⟨by decide, by decide⟩⟩ ?_
        rw [if_pos (ac_f.mpr (by rw [hq35.1.2.2.2.2.2.2.1]; exact mt (kR_iff (c := 22) (by omega) (by omega)).mp (by omega)))]
        show Wn _ 153 _ (124, [(0, .ref 79), (1, .ref 77), (2, .ref 3)], [], M33)
        refine Wn.run (tab := tb_bk_readLine) rfl 4 (c' := (if ((M33.2.2 77 10) = 100021) = (true = true) then 155 else 134, [(0, .ref 79), (1, .ref 77), (2, .ref 3)], [], M33)) (o := [shp 77 = (0, 3), isK (M33.2.2 77 10), isK 100021]) rfl ⟨rfl, (by rw [hq35.1.2.2.2.2.2.2.1]; exact isK_kR _ _ _ _), ⟨by decide, by decide⟩⟩ ?_
        rw [if_neg (fun q9 => absurd (ac_t.mp q9) (by rw [hq35.1.2.2.2.2.2.2.1]; exact mt (kR_iff (c := 21) (by omega) (by omega)).mp (by omega)))]
        show Wn _ 153 _ (134, [(0, .ref 79), (1, .ref 77), (2, .ref 3)], [], M33)
        refine Wn.run (tab := tb_bk_readLine) rfl 4 (c' := (if ((M33.2.2 77 10) = 100023) = (true = true) then 155 else 144, [(0, .ref 79), (1, .ref 77), (2, .ref 3)], [], M33)) (o := [shp 77 = (0, 3), isK (M33.2.2 77 10), isK 100023]) rfl ⟨rfl, (by rw [hq35.1.2.2.2.2.2.2.1]; exact isK_kR _ _ _ _), ⟨by decide, by decide⟩⟩ ?_
        rw [if_neg (fun q9 => absurd (ac_t.mp q9) (by rw [hq35.1.2.2.2.2.2.2.1]; exact mt (kR_iff (c := 23) (by omega) (by omega)).mp (by omega)))]
        show Wn _ 153 _ (144, [(0, .ref 79), (1, .ref 77), (2, .ref 3)], [], M33)
        refine Wn.run (tab := tb_bk_readLine) rfl 2 (c' := (148, [(0, .ref 79), (1, .ref 77), (2, .ref 3)], [.ref (M33.2.2 77 10)], M33)) (o := [shp 77 = (0, 3)]) rfl rfl ?_
        rw [show (M33.2.2 77 10) = (kR T L mo (tNx T L p)) from hq35.1.2.2.2.2.2.2.1]
        refine Wn.callV (p := (kR T L mo (tNx T L p))) (n := 1) (ix := 88) (ci := (-1)) (fun r0 M0 => r0 = some (.int (sdK (kR T L mo (tNx T L p)))) ∧ M33 = M0) [] [] rfl rfl rfl (isK_kR _ _ _ _) (Nat.le_of_ble_eq_true rfl) (Nat.le_of_ble_eq_true rfl) (w_kd_side _ (kR T L mo (tNx T L p)) (isK_kR _ _ _ _) M33 _ ⟨rfl, rfl⟩) ?_
        rintro _ _ ⟨rfl, rfl⟩
        show Wn _ 153 _ (151, [(0, .ref 79), (1, .ref 77), (2, .ref 3)], [.int (sdK (kR T L mo (tNx T L p)))], M33)
        refine Wn.run (tab := tb_bk_readLine) rfl 2 (c' := (if (sdK (kR T L mo (tNx T L p))) = (-1 : Int32) then 166 else 155, [(0, .ref 79), (1, .ref 77), (2, .ref 3)], [], M33)) (o := []) rfl trivial ?_
        rw [if_neg (sdK_yes (by omega))]
        show Wn _ 153 _ (155, [(0, .ref 79), (1, .ref 77), (2, .ref 3)], [], M33)
        refine Wn.run (tab := tb_bk_readLine) rfl 3 (c' := (160, [(0, .ref 79), (1, .ref 77), (2, .ref 3)], [.ref (M33.2.2 77 10), .ref 77], M33)) (o := [shp 77 = (0, 3)]) rfl rfl ?_
        rw [show (M33.2.2 77 10) = (kR T L mo (tNx T L p)) from hq35.1.2.2.2.2.2.2.1]
        rw [show (kR T L mo (tNx T L p)) = (100000 + (tKd T L mo (tNx T L p))) from (kR_iff (by omega) (by omega)).mpr rfl]
        refine Wn.callV (p := 77) (n := 2) (ix := 48) (ci := (3)) (PLv M33 T L mo (tNx T L (tNx T L p)) (tAt T L mo (tNx T L p)) none) [.ref (100000 + (tKd T L mo (tNx T L p)))] [] rfl rfl rfl rfl (Nat.le_of_ble_eq_true rfl) (Nat.le_of_ble_eq_true rfl) (c_rd_take_ok _ M33 T L mo (tNx T L p) (tAt T L mo p) hq35 (tKd T L mo (tNx T L p)) (by omega) rfl) ?_
        rintro _ M41 ⟨rfl, hq42, hF43⟩
        show Wn _ 153 _ (163, [(0, .ref 79), (1, .ref 77), (2, .ref 3)], [], M41)
        have hk44 := frI_fun hF43 (by decide) hk36
        have hk45 := frR_fun hF43 (by decide) hk37
        have hk46 := frI_fun hF43 (by decide) hk38
        have hk47 := frI_fun hF43 (by decide) hk39
        have hF48 := fr_tr hF40 hF43 (by decide)
        refine Wn.run (tab := tb_bk_readLine) rfl 1 (c' := (171, [(0, .ref 79), (1, .ref 77), (2, .ref 3)], [], M41)) (o := []) rfl trivial ?_
        have e9 : rdB T L mo p ν (σ 2) k = .inr (tNx T L (tNx T L p), 0, q1, tKd T L mo (tNx T L p) - 17) := by unfold rdB; rw [if_neg hk, if_neg (fun q9 => q9 hk1_3)]; simp only [hpc1]; rw [if_neg (show ¬ k = 40 by omega)]; unfold rdB1; rw [if_pos hs]
        rw [e9]
        refine Wn.vret rfl ⟨rfl, hF48, ⟨_, hq42⟩, ⟨?_, ?_, ?_⟩, fun i hi => ⟨?_, ?_, ?_⟩⟩
        · rw [hk45, va_up_self]; rw [(kR_iff (c := tKd T L mo (tNx T L p)) (by omega) (by omega)).mpr rfl]; show _ = 100000 + (17 + (tKd T L mo (tNx T L p) - 17)); omega
        · rw [hk46]; exact pk_us
        · rw [hk47]; exact pk_us
        · rw [hk45, va_up_ne _ _ hi, h80]
        · rw [hk46, pk_un hi, pk_un hi, h81]
        · rw [hk47, pk_un hi, h82]
      have hn1 := hs
      clear hs
      by_cases hs : tKd T L mo (tNx T L p) = 21
      · refine Wn.run (tab := tb_bk_readLine) rfl 1 (c' := (77, [(0, .ref 79), (1, .ref 77), (2, .ref 3)], [], (mI M19 81 (upd (M19.1 81) ((nI k)).toNatClampNeg (nI q1))))) (o := [aok shp 81 0 (nI k)]) rfl (ak1 (n := 40) rfl rfl rfl (by omega)) ?_
        generalize hM50 : (mI M19 81 (upd (M19.1 81) ((nI k)).toNatClampNeg (nI q1))) = M49
        have hq51 := RdL_fr (fr_1I hM50) (by decide) hq17
        have hk52 := fI_ne hM50 (by decide) hk20
        have hk53 := fR_oI hM50 hk21
        have hk54 := fI_upx hM50 hk22 (cl1 rfl (by omega))
        have hk55 := fI_ne hM50 (by decide) hk23
        have hF56 := fr_sI hF24 hM50 (by decide)
        show Wn _ 153 _ (77, [(0, .ref 79), (1, .ref 77), (2, .ref 3)], [], M49)
        refine Wn.run (tab := tb_bk_readLine) rfl 7 (c' := (90, [(0, .ref 79), (1, .ref 77), (2, .ref 3)], [], (mR M49 80 (va_up (M49.2.2 80) ((M49.1 79 3)).toNatClampNeg (M49.2.2 77 10))))) (o := [shp 79 = (0, 0), shp 79 = (0, 0), shp 77 = (0, 3), aok shp 80 4 (M49.1 79 3), isK (M49.2.2 77 10)]) rfl ⟨rfl, rfl, rfl, (ak1 (n := 40) rfl rfl (fr_eq hk52 (show g 3 = (nI k) from hk3)) (by omega)), (by rw [hq51.1.2.2.2.2.2.2.1]; exact isK_kR _ _ _ _)⟩ ?_
        rw [show (M49.2.2 77 10) = (kR T L mo (tNx T L p)) from hq51.1.2.2.2.2.2.2.1]
        rw [show (M49.1 79 3) = (nI k) from (fr_eq hk52 (show g 3 = (nI k) from hk3))]
        generalize hM58 : (mR M49 80 (va_up (M49.2.2 80) ((nI k)).toNatClampNeg (kR T L mo (tNx T L p)))) = M57
        have hq59 := RdL_fr (fr_1R hM58) (by decide) hq51
        have hk60 := fI_oR hM58 hk52
        have hk61 := fR_upx hM58 hk53 (cl1 rfl (by omega))
        have hk62 := fI_oR hM58 hk54
        have hk63 := fI_oR hM58 hk55
        have hF64 := fr_sR hF56 hM58 (by decide)
        show Wn _ 153 _ (90, [(0, .ref 79), (1, .ref 77), (2, .ref 3)], [], M57)
        refine Wn.run (tab := tb_bk_readLine) rfl 4 (c' := (if ((M57.2.2 77 10) = 100022) = (false = true) then 124 else 100, [(0, .ref 79), (1, .ref 77), (2, .ref 3)], [], M57)) (o := [shp 77 = (0, 3), isK (M57.2.2 77 10), isK 100022]) rfl ⟨rfl, (by rw [hq59.1.2.2.2.2.2.2.1]; exact isK_kR _ _ _ _), ⟨by decide, by decide⟩⟩ ?_
        rw [if_pos (ac_f.mpr (by rw [hq59.1.2.2.2.2.2.2.1]; exact mt (kR_iff (c := 22) (by omega) (by omega)).mp (by omega)))]
        show Wn _ 153 _ (124, [(0, .ref 79), (1, .ref 77), (2, .ref 3)], [], M57)
        refine Wn.run (tab := tb_bk_readLine) rfl 4 (c' := (if ((M57.2.2 77 10) = 100021) = (true = true) then 155 else 134, [(0, .ref 79), (1, .ref 77), (2, .ref 3)], [], M57)) (o := [shp 77 = (0, 3), isK (M57.2.2 77 10), isK 100021]) rfl ⟨rfl, (by rw [hq59.1.2.2.2.2.2.2.1]; exact isK_kR _ _ _ _), ⟨by decide, by decide⟩⟩ ?_
        rw [if_pos (ac_t.mpr (by rw [hq59.1.2.2.2.2.2.2.1]; exact (kR_iff (c := 21) (by omega) (by omega)).mpr (by omega)))]
        show Wn _ 153 _ (155, [(0, .ref 79), (1, .ref 77), (2, .ref 3)], [], M57)
        refine Wn.run (tab := tb_bk_readLine) rfl 3 (c' := (160, [(0, .ref 79), (1, .ref 77), (2, .ref 3)], [.ref (M57.2.2 77 10), .ref 77], M57)) (o := [shp 77 = (0, 3)]) rfl rfl ?_
        rw [show (M57.2.2 77 10) = (kR T L mo (tNx T L p)) from hq59.1.2.2.2.2.2.2.1]
        rw [show (kR T L mo (tNx T L p)) = (100000 + (tKd T L mo (tNx T L p))) from (kR_iff (by omega) (by omega)).mpr rfl]
        refine Wn.callV (p := 77) (n := 2) (ix := 48) (ci := (3)) (PLv M57 T L mo (tNx T L (tNx T L p)) (tAt T L mo (tNx T L p)) none) [.ref (100000 + (tKd T L mo (tNx T L p)))] [] rfl rfl rfl rfl (Nat.le_of_ble_eq_true rfl) (Nat.le_of_ble_eq_true rfl) (c_rd_take_ok _ M57 T L mo (tNx T L p) (tAt T L mo p) hq59 (tKd T L mo (tNx T L p)) (by omega) rfl) ?_
        rintro _ M65 ⟨rfl, hq66, hF67⟩
        show Wn _ 153 _ (163, [(0, .ref 79), (1, .ref 77), (2, .ref 3)], [], M65)
        have hk68 := frI_fun hF67 (by decide) hk60
        have hk69 := frR_fun hF67 (by decide) hk61
        have hk70 := frI_fun hF67 (by decide) hk62
        have hk71 := frI_fun hF67 (by decide) hk63
        have hF72 := fr_tr hF64 hF67 (by decide)
        refine Wn.run (tab := tb_bk_readLine) rfl 1 (c' := (171, [(0, .ref 79), (1, .ref 77), (2, .ref 3)], [], M65)) (o := []) rfl trivial ?_
        have e9 : rdB T L mo p ν (σ 2) k = .inr (tNx T L (tNx T L p), 1, q1, 0) := by unfold rdB; rw [if_neg hk, if_neg (fun q9 => q9 hk1_3)]; simp only [hpc1]; rw [if_neg (show ¬ k = 40 by omega)]; unfold rdB1; rw [if_neg hn1, if_pos hs]
        rw [e9]
        refine Wn.vret rfl ⟨rfl, hF72, ⟨_, hq66⟩, ⟨?_, ?_, ?_⟩, fun i hi => ⟨?_, ?_, ?_⟩⟩
        · rw [hk69, va_up_self]; exact (kR_iff (c := 21) (by decide) (by decide)).mpr hs
        · rw [hk70]; exact pk_us
        · rw [hk71]; exact pk_us
        · rw [hk69, va_up_ne _ _ hi, h80]
        · rw [hk70, pk_un hi, pk_un hi, h81]
        · rw [hk71, pk_un hi, h82]
      have hn2 := hs
      clear hs
      by_cases hs : tKd T L mo (tNx T L p) = 23
      · refine Wn.run (tab := tb_bk_readLine) rfl 1 (c' := (77, [(0, .ref 79), (1, .ref 77), (2, .ref 3)], [], (mI M19 81 (upd (M19.1 81) ((nI k)).toNatClampNeg (nI q1))))) (o := [aok shp 81 0 (nI k)]) rfl (ak1 (n := 40) rfl rfl rfl (by omega)) ?_
        generalize hM74 : (mI M19 81 (upd (M19.1 81) ((nI k)).toNatClampNeg (nI q1))) = M73
        have hq75 := RdL_fr (fr_1I hM74) (by decide) hq17
        have hk76 := fI_ne hM74 (by decide) hk20
        have hk77 := fR_oI hM74 hk21
        have hk78 := fI_upx hM74 hk22 (cl1 rfl (by omega))
        have hk79 := fI_ne hM74 (by decide) hk23
        have hF80 := fr_sI hF24 hM74 (by decide)
        show Wn _ 153 _ (77, [(0, .ref 79), (1, .ref 77), (2, .ref 3)], [], M73)
        refine Wn.run (tab := tb_bk_readLine) rfl 7 (c' := (90, [(0, .ref 79), (1, .ref 77), (2, .ref 3)], [], (mR M73 80 (va_up (M73.2.2 80) ((M73.1 79 3)).toNatClampNeg (M73.2.2 77 10))))) (o := [shp 79 = (0, 0), shp 79 = (0, 0), shp 77 = (0, 3), aok shp 80 4 (M73.1 79 3), isK (M73.2.2 77 10)]) rfl ⟨rfl, rfl, rfl, (ak1 (n := 40) rfl rfl (fr_eq hk76 (show g 3 = (nI k) from hk3)) (by omega)), (by rw [hq75.1.2.2.2.2.2.2.1]; exact isK_kR _ _ _ _)⟩ ?_
        rw [show (M73.2.2 77 10) = (kR T L mo (tNx T L p)) from hq75.1.2.2.2.2.2.2.1]
        rw [show (M73.1 79 3) = (nI k) from (fr_eq hk76 (show g 3 = (nI k) from hk3))]
        generalize hM82 : (mR M73 80 (va_up (M73.2.2 80) ((nI k)).toNatClampNeg (kR T L mo (tNx T L p)))) = M81
        have hq83 := RdL_fr (fr_1R hM82) (by decide) hq75
        have hk84 := fI_oR hM82 hk76
        have hk85 := fR_upx hM82 hk77 (cl1 rfl (by omega))
        have hk86 := fI_oR hM82 hk78
        have hk87 := fI_oR hM82 hk79
        have hF88 := fr_sR hF80 hM82 (by decide)
        show Wn _ 153 _ (90, [(0, .ref 79), (1, .ref 77), (2, .ref 3)], [], M81)
        refine Wn.run (tab := tb_bk_readLine) rfl 4 (c' := (if ((M81.2.2 77 10) = 100022) = (false = true) then 124 else 100, [(0, .ref 79), (1, .ref 77), (2, .ref 3)], [], M81)) (o := [shp 77 = (0, 3), isK (M81.2.2 77 10), isK 100022]) rfl ⟨rfl, (by rw [hq83.1.2.2.2.2.2.2.1]; exact isK_kR _ _ _ _), ⟨by decide, by decide⟩⟩ ?_
        rw [if_pos (ac_f.mpr (by rw [hq83.1.2.2.2.2.2.2.1]; exact mt (kR_iff (c := 22) (by omega) (by omega)).mp (by omega)))]
        show Wn _ 153 _ (124, [(0, .ref 79), (1, .ref 77), (2, .ref 3)], [], M81)
        refine Wn.run (tab := tb_bk_readLine) rfl 4 (c' := (if ((M81.2.2 77 10) = 100021) = (true = true) then 155 else 134, [(0, .ref 79), (1, .ref 77), (2, .ref 3)], [], M81)) (o := [shp 77 = (0, 3), isK (M81.2.2 77 10), isK 100021]) rfl ⟨rfl, (by rw [hq83.1.2.2.2.2.2.2.1]; exact isK_kR _ _ _ _), ⟨by decide, by decide⟩⟩ ?_
        rw [if_neg (fun q9 => absurd (ac_t.mp q9) (by rw [hq83.1.2.2.2.2.2.2.1]; exact mt (kR_iff (c := 21) (by omega) (by omega)).mp (by omega)))]
        show Wn _ 153 _ (134, [(0, .ref 79), (1, .ref 77), (2, .ref 3)], [], M81)
        refine Wn.run (tab := tb_bk_readLine) rfl 4 (c' := (if ((M81.2.2 77 10) = 100023) = (true = true) then 155 else 144, [(0, .ref 79), (1, .ref 77), (2, .ref 3)], [], M81)) (o := [shp 77 = (0, 3), isK (M81.2.2 77 10), isK 100023]) rfl ⟨rfl, (by rw [hq83.1.2.2.2.2.2.2.1]; exact isK_kR _ _ _ _), ⟨by decide, by decide⟩⟩ ?_
        rw [if_pos (ac_t.mpr (by rw [hq83.1.2.2.2.2.2.2.1]; exact (kR_iff (c := 23) (by omega) (by omega)).mpr (by omega)))]
        show Wn _ 153 _ (155, [(0, .ref 79), (1, .ref 77), (2, .ref 3)], [], M81)
        refine Wn.run (tab := tb_bk_readLine) rfl 3 (c' := (160, [(0, .ref 79), (1, .ref 77), (2, .ref 3)], [.ref (M81.2.2 77 10), .ref 77], M81)) (o := [shp 77 = (0, 3)]) rfl rfl ?_
        rw [show (M81.2.2 77 10) = (kR T L mo (tNx T L p)) from hq83.1.2.2.2.2.2.2.1]
        rw [show (kR T L mo (tNx T L p)) = (100000 + (tKd T L mo (tNx T L p))) from (kR_iff (by omega) (by omega)).mpr rfl]
        refine Wn.callV (p := 77) (n := 2) (ix := 48) (ci := (3)) (PLv M81 T L mo (tNx T L (tNx T L p)) (tAt T L mo (tNx T L p)) none) [.ref (100000 + (tKd T L mo (tNx T L p)))] [] rfl rfl rfl rfl (Nat.le_of_ble_eq_true rfl) (Nat.le_of_ble_eq_true rfl) (c_rd_take_ok _ M81 T L mo (tNx T L p) (tAt T L mo p) hq83 (tKd T L mo (tNx T L p)) (by omega) rfl) ?_
        rintro _ M89 ⟨rfl, hq90, hF91⟩
        show Wn _ 153 _ (163, [(0, .ref 79), (1, .ref 77), (2, .ref 3)], [], M89)
        have hk92 := frI_fun hF91 (by decide) hk84
        have hk93 := frR_fun hF91 (by decide) hk85
        have hk94 := frI_fun hF91 (by decide) hk86
        have hk95 := frI_fun hF91 (by decide) hk87
        have hF96 := fr_tr hF88 hF91 (by decide)
        refine Wn.run (tab := tb_bk_readLine) rfl 1 (c' := (171, [(0, .ref 79), (1, .ref 77), (2, .ref 3)], [], M89)) (o := []) rfl trivial ?_
        have e9 : rdB T L mo p ν (σ 2) k = .inr (tNx T L (tNx T L p), 3, q1, 0) := by unfold rdB; rw [if_neg hk, if_neg (fun q9 => q9 hk1_3)]; simp only [hpc1]; rw [if_neg (show ¬ k = 40 by omega)]; unfold rdB1; rw [if_neg hn1, if_neg hn2, if_pos hs]
        rw [e9]
        refine Wn.vret rfl ⟨rfl, hF96, ⟨_, hq90⟩, ⟨?_, ?_, ?_⟩, fun i hi => ⟨?_, ?_, ?_⟩⟩
        · rw [hk93, va_up_self]; exact (kR_iff (c := 23) (by decide) (by decide)).mpr hs
        · rw [hk94]; exact pk_us
        · rw [hk95]; exact pk_us
        · rw [hk93, va_up_ne _ _ hi, h80]
        · rw [hk94, pk_un hi, pk_un hi, h81]
        · rw [hk95, pk_un hi, h82]
      have hn3 := hs
      clear hs
      by_cases hs : tKd T L mo (tNx T L p) = 22
      · refine Wn.run (tab := tb_bk_readLine) rfl 1 (c' := (77, [(0, .ref 79), (1, .ref 77), (2, .ref 3)], [], (mI M19 81 (upd (M19.1 81) ((nI k)).toNatClampNeg (nI q1))))) (o := [aok shp 81 0 (nI k)]) rfl (ak1 (n := 40) rfl rfl rfl (by omega)) ?_
        generalize hM98 : (mI M19 81 (upd (M19.1 81) ((nI k)).toNatClampNeg (nI q1))) = M97
        have hq99 := RdL_fr (fr_1I hM98) (by decide) hq17
        have hk100 := fI_ne hM98 (by decide) hk20
        have hk101 := fR_oI hM98 hk21
        have hk102 := fI_upx hM98 hk22 (cl1 rfl (by omega))
        have hk103 := fI_ne hM98 (by decide) hk23
        have hF104 := fr_sI hF24 hM98 (by decide)
        show Wn _ 153 _ (77, [(0, .ref 79), (1, .ref 77), (2, .ref 3)], [], M97)
        refine Wn.run (tab := tb_bk_readLine) rfl 7 (c' := (90, [(0, .ref 79), (1, .ref 77), (2, .ref 3)], [], (mR M97 80 (va_up (M97.2.2 80) ((M97.1 79 3)).toNatClampNeg (M97.2.2 77 10))))) (o := [shp 79 = (0, 0), shp 79 = (0, 0), shp 77 = (0, 3), aok shp 80 4 (M97.1 79 3), isK (M97.2.2 77 10)]) rfl ⟨rfl, rfl, rfl, (ak1 (n := 40) rfl rfl (fr_eq hk100 (show g 3 = (nI k) from hk3)) (by omega)), (by rw [hq99.1.2.2.2.2.2.2.1]; exact isK_kR _ _ _ _)⟩ ?_
        rw [show (M97.2.2 77 10) = (kR T L mo (tNx T L p)) from hq99.1.2.2.2.2.2.2.1]
        rw [show (M97.1 79 3) = (nI k) from (fr_eq hk100 (show g 3 = (nI k) from hk3))]
        generalize hM106 : (mR M97 80 (va_up (M97.2.2 80) ((nI k)).toNatClampNeg (kR T L mo (tNx T L p)))) = M105
        have hq107 := RdL_fr (fr_1R hM106) (by decide) hq99
        have hk108 := fI_oR hM106 hk100
        have hk109 := fR_upx hM106 hk101 (cl1 rfl (by omega))
        have hk110 := fI_oR hM106 hk102
        have hk111 := fI_oR hM106 hk103
        have hF112 := fr_sR hF104 hM106 (by decide)
        show Wn _ 153 _ (90, [(0, .ref 79), (1, .ref 77), (2, .ref 3)], [], M105)
        refine Wn.run (tab := tb_bk_readLine) rfl 4 (c' := (if ((M105.2.2 77 10) = 100022) = (false = true) then 124 else 100, [(0, .ref 79), (1, .ref 77), (2, .ref 3)], [], M105)) (o := [shp 77 = (0, 3), isK (M105.2.2 77 10), isK 100022]) rfl ⟨rfl, (by rw [hq107.1.2.2.2.2.2.2.1]; exact isK_kR _ _ _ _), ⟨by decide, by decide⟩⟩ ?_
        rw [if_neg (fun q9 => ac_f.mp q9 (by rw [hq107.1.2.2.2.2.2.2.1]; exact (kR_iff (c := 22) (by omega) (by omega)).mpr (by omega)))]
        show Wn _ 153 _ (100, [(0, .ref 79), (1, .ref 77), (2, .ref 3)], [], M105)
        refine Wn.run (tab := tb_bk_readLine) rfl 2 (c' := (104, [(0, .ref 79), (1, .ref 77), (2, .ref 3)], [.ref 100022, .ref 77], M105)) (o := []) rfl trivial ?_
        refine Wn.callV (p := 77) (n := 2) (ix := 48) (ci := (3)) (PLv M105 T L mo (tNx T L (tNx T L p)) (tAt T L mo (tNx T L p)) none) [.ref 100022] [] rfl rfl rfl rfl (Nat.le_of_ble_eq_true rfl) (Nat.le_of_ble_eq_true rfl) (c_rd_take_ok _ M105 T L mo (tNx T L p) (tAt T L mo p) hq107 22 (by omega) (by omega)) ?_
        rintro _ M113 ⟨rfl, hq114, hF115⟩
        show Wn _ 153 _ (107, [(0, .ref 79), (1, .ref 77), (2, .ref 3)], [], M113)
        have hk116 := frI_fun hF115 (by decide) hk108
        have hk117 := frR_fun hF115 (by decide) hk109
        have hk118 := frI_fun hF115 (by decide) hk110
        have hk119 := frI_fun hF115 (by decide) hk111
        have hF120 := fr_tr hF112 hF115 (by decide)
        refine Wn.run (tab := tb_bk_readLine) rfl 6 (c' := (117, [(0, .ref 79), (1, .ref 77), (2, .ref 3)], [.ref 3, .ref 77, .int (M113.1 79 3), .ref 82], M113)) (o := [shp 79 = (0, 0), shp 79 = (0, 0)]) rfl ⟨rfl, rfl⟩ ?_
        rw [show (M113.1 79 3) = (nI k) from (fr_eq hk116 (show g 3 = (nI k) from hk3))]
        by_cases hk2_3 : tKd T L mo (tNx T L (tNx T L p)) = 3
        · cases hpc2 : pcl ν (tNm T L (tNx T L (tNx T L p))) (σ 2) with
          | some q2 =>
            have q2_6 : q2 < 6 := by have t9 := til_lt _ _ _ hpc2; omega
            have q2_s : q2 < σ 2 := by have t9 := til_lt _ _ _ hpc2; omega
            refine Wn.callV (p := 77) (n := 2) (ix := 61) (ci := (3)) (PLv M113 T L mo (tNx T L (tNx T L (tNx T L p))) (tAt T L mo (tNx T L (tNx T L p))) (some (.int (nI q2)))) [.ref 3] [.int (nI k), .ref 82] rfl rfl rfl rfl (Nat.le_of_ble_eq_true rfl) (Nat.le_of_ble_eq_true rfl) (c_rd_takePerson_ok _ M113 T L mo (tNx T L (tNx T L p)) (tAt T L mo (tNx T L p)) hq114 3 σ (LkC_fr hL (hF120 3 (by decide)).1 (hF120 5 (by decide)).1) c9_2 ν (NmC_fr hF120 (by decide) hN) (by decide) hk2_3 q2 q2_6 hpc2) ?_
            rintro _ M123 ⟨rfl, hq121, hF122⟩
            show Wn _ 153 _ (120, [(0, .ref 79), (1, .ref 77), (2, .ref 3)], [.int (nI q2), .int (nI k), .ref 82], M123)
            have hk124 := frI_fun hF122 (by decide) hk116
            have hk125 := frR_fun hF122 (by decide) hk117
            have hk126 := frI_fun hF122 (by decide) hk118
            have hk127 := frI_fun hF122 (by decide) hk119
            have hF128 := fr_tr hF120 hF122 (by decide)
            refine Wn.run (tab := tb_bk_readLine) rfl 1 (c' := (121, [(0, .ref 79), (1, .ref 77), (2, .ref 3)], [], (mI M123 82 (upd (M123.1 82) ((nI k)).toNatClampNeg (nI q2))))) (o := [aok shp 82 0 (nI k)]) rfl (ak1 (n := 40) rfl rfl rfl (by omega)) ?_
            generalize hM130 : (mI M123 82 (upd (M123.1 82) ((nI k)).toNatClampNeg (nI q2))) = M129
            have hq131 := RdL_fr (fr_1I hM130) (by decide) hq121
            have hk132 := fI_ne hM130 (by decide) hk124
            have hk133 := fR_oI hM130 hk125
            have hk134 := fI_ne hM130 (by decide) hk126
            have hk135 := fI_upx hM130 hk127 (cl1 rfl (by omega))
            have hF136 := fr_sI hF128 hM130 (by decide)
            show Wn _ 153 _ (121, [(0, .ref 79), (1, .ref 77), (2, .ref 3)], [], M129)
            refine Wn.run (tab := tb_bk_readLine) rfl 1 (c' := (171, [(0, .ref 79), (1, .ref 77), (2, .ref 3)], [], M129)) (o := []) rfl trivial ?_
            have e9 : rdB T L mo p ν (σ 2) k = .inr (tNx T L (tNx T L (tNx T L p)), 2, q1, q2) := by unfold rdB; rw [if_neg hk, if_neg (fun q9 => q9 hk1_3)]; simp only [hpc1]; rw [if_neg (show ¬ k = 40 by omega)]; unfold rdB1; rw [if_neg hn1, if_neg hn2, if_neg hn3, if_pos hs, if_neg (fun q9 => q9 hk2_3)]; simp only [hpc2]
            rw [e9]
            refine Wn.vret rfl ⟨rfl, hF136, ⟨_, hq131⟩, ⟨?_, ?_, ?_⟩, fun i hi => ⟨?_, ?_, ?_⟩⟩
            · rw [hk133, va_up_self]; exact (kR_iff (c := 22) (by decide) (by decide)).mpr hs
            · rw [hk134]; exact pk_us
            · rw [hk135]; exact pk_us
            · rw [hk133, va_up_ne _ _ hi, h80]
            · rw [hk134, pk_un hi, pk_un hi, h81]
            · rw [hk135, pk_un hi, pk_un hi, h82]
          | none =>
            refine Wn.callV (p := 77) (n := 2) (ix := 61) (ci := (3)) (PFl M113 3 (tAt T L mo (tNx T L (tNx T L p))) (some (.int (nI 0)))) [.ref 3] [.int (nI k), .ref 82] rfl rfl rfl rfl (Nat.le_of_ble_eq_true rfl) (Nat.le_of_ble_eq_true rfl) (c_rd_takePerson_no3 _ M113 T L mo (tNx T L (tNx T L p)) (tAt T L mo (tNx T L p)) hq114 3 σ (LkC_fr hL (hF120 3 (by decide)).1 (hF120 5 (by decide)).1) c9_2 ν (NmC_fr hF120 (by decide) hN) (by decide) hk2_3 hpc2) ?_
            rintro _ M139 ⟨rfl, hq137, hF138⟩
            show Wn _ 153 _ (120, [(0, .ref 79), (1, .ref 77), (2, .ref 3)], [.int (nI 0), .int (nI k), .ref 82], M139)
            have hk140 := frI_fun hF138 (by decide) hk116
            have hk141 := frR_fun hF138 (by decide) hk117
            have hk142 := frI_fun hF138 (by decide) hk118
            have hk143 := frI_fun hF138 (by decide) hk119
            have hF144 := fr_tr hF120 hF138 (by decide)
            refine Wn.run (tab := tb_bk_readLine) rfl 1 (c' := (121, [(0, .ref 79), (1, .ref 77), (2, .ref 3)], [], (mI M139 82 (upd (M139.1 82) ((nI k)).toNatClampNeg (nI 0))))) (o := [aok shp 82 0 (nI k)]) rfl (ak1 (n := 40) rfl rfl rfl (by omega)) ?_
            generalize hM146 : (mI M139 82 (upd (M139.1 82) ((nI k)).toNatClampNeg (nI 0))) = M145
            have hq147 := RdD_fr (fr_1I hM146) (by decide) hq137
            have hk148 := fI_ne hM146 (by decide) hk140
            have hk149 := fR_oI hM146 hk141
            have hk150 := fI_ne hM146 (by decide) hk142
            have hk151 := fI_upx hM146 hk143 (cl1 rfl (by omega))
            have hF152 := fr_sI hF144 hM146 (by decide)
            show Wn _ 153 _ (121, [(0, .ref 79), (1, .ref 77), (2, .ref 3)], [], M145)
            refine Wn.run (tab := tb_bk_readLine) rfl 1 (c' := (171, [(0, .ref 79), (1, .ref 77), (2, .ref 3)], [], M145)) (o := []) rfl trivial ?_
            have e9 : rdB T L mo p ν (σ 2) k = .inl (3, tAt T L mo (tNx T L (tNx T L p))) := by unfold rdB; rw [if_neg hk, if_neg (fun q9 => q9 hk1_3)]; simp only [hpc1]; rw [if_neg (show ¬ k = 40 by omega)]; unfold rdB1; rw [if_neg hn1, if_neg hn2, if_neg hn3, if_pos hs, if_neg (fun q9 => q9 hk2_3)]; simp only [hpc2]
            rw [e9]
            exact Wn.vret rfl ⟨rfl, hF152, hq147⟩
        · refine Wn.callV (p := 77) (n := 2) (ix := 61) (ci := (3)) (PFl M113 1 (tAt T L mo (tNx T L (tNx T L p))) (some (.int (nI 0)))) [.ref 3] [.int (nI k), .ref 82] rfl rfl rfl rfl (Nat.le_of_ble_eq_true rfl) (Nat.le_of_ble_eq_true rfl) (c_rd_takePerson_no1 _ M113 T L mo (tNx T L (tNx T L p)) (tAt T L mo (tNx T L p)) hq114 3 σ (LkC_fr hL (hF120 3 (by decide)).1 (hF120 5 (by decide)).1) c9_2 ν (NmC_fr hF120 (by decide) hN) (by decide) hk2_3) ?_
          rintro _ M155 ⟨rfl, hq153, hF154⟩
          show Wn _ 153 _ (120, [(0, .ref 79), (1, .ref 77), (2, .ref 3)], [.int (nI 0), .int (nI k), .ref 82], M155)
          have hk156 := frI_fun hF154 (by decide) hk116
          have hk157 := frR_fun hF154 (by decide) hk117
          have hk158 := frI_fun hF154 (by decide) hk118
          have hk159 := frI_fun hF154 (by decide) hk119
          have hF160 := fr_tr hF120 hF154 (by decide)
          refine Wn.run (tab := tb_bk_readLine) rfl 1 (c' := (121, [(0, .ref 79), (1, .ref 77), (2, .ref 3)], [], (mI M155 82 (upd (M155.1 82) ((nI k)).toNatClampNeg (nI 0))))) (o := [aok shp 82 0 (nI k)]) rfl (ak1 (n := 40) rfl rfl rfl (by omega)) ?_
          generalize hM162 : (mI M155 82 (upd (M155.1 82) ((nI k)).toNatClampNeg (nI 0))) = M161
          have hq163 := RdD_fr (fr_1I hM162) (by decide) hq153
          have hk164 := fI_ne hM162 (by decide) hk156
          have hk165 := fR_oI hM162 hk157
          have hk166 := fI_ne hM162 (by decide) hk158
          have hk167 := fI_upx hM162 hk159 (cl1 rfl (by omega))
          have hF168 := fr_sI hF160 hM162 (by decide)
          show Wn _ 153 _ (121, [(0, .ref 79), (1, .ref 77), (2, .ref 3)], [], M161)
          refine Wn.run (tab := tb_bk_readLine) rfl 1 (c' := (171, [(0, .ref 79), (1, .ref 77), (2, .ref 3)], [], M161)) (o := []) rfl trivial ?_
          have e9 : rdB T L mo p ν (σ 2) k = .inl (1, tAt T L mo (tNx T L (tNx T L p))) := by unfold rdB; rw [if_neg hk, if_neg (fun q9 => q9 hk1_3)]; simp only [hpc1]; rw [if_neg (show ¬ k = 40 by omega)]; unfold rdB1; rw [if_neg hn1, if_neg hn2, if_neg hn3, if_pos hs, if_pos hk2_3]
          rw [e9]
          exact Wn.vret rfl ⟨rfl, hF168, hq163⟩
      have hn4 := hs
      clear hs
      refine Wn.run (tab := tb_bk_readLine) rfl 1 (c' := (77, [(0, .ref 79), (1, .ref 77), (2, .ref 3)], [], (mI M19 81 (upd (M19.1 81) ((nI k)).toNatClampNeg (nI q1))))) (o := [aok shp 81 0 (nI k)]) rfl (ak1 (n := 40) rfl rfl rfl (by omega)) ?_
      generalize hM170 : (mI M19 81 (upd (M19.1 81) ((nI k)).toNatClampNeg (nI q1))) = M169
      have hq171 := RdL_fr (fr_1I hM170) (by decide) hq17
      have hk172 := fI_ne hM170 (by decide) hk20
      have hk173 := fR_oI hM170 hk21
      have hk174 := fI_upx hM170 hk22 (cl1 rfl (by omega))
      have hk175 := fI_ne hM170 (by decide) hk23
      have hF176 := fr_sI hF24 hM170 (by decide)
      show Wn _ 153 _ (77, [(0, .ref 79), (1, .ref 77), (2, .ref 3)], [], M169)
      refine Wn.run (tab := tb_bk_readLine) rfl 7 (c' := (90, [(0, .ref 79), (1, .ref 77), (2, .ref 3)], [], (mR M169 80 (va_up (M169.2.2 80) ((M169.1 79 3)).toNatClampNeg (M169.2.2 77 10))))) (o := [shp 79 = (0, 0), shp 79 = (0, 0), shp 77 = (0, 3), aok shp 80 4 (M169.1 79 3), isK (M169.2.2 77 10)]) rfl ⟨rfl, rfl, rfl, (ak1 (n := 40) rfl rfl (fr_eq hk172 (show g 3 = (nI k) from hk3)) (by omega)), (by rw [hq171.1.2.2.2.2.2.2.1]; exact isK_kR _ _ _ _)⟩ ?_
      rw [show (M169.2.2 77 10) = (kR T L mo (tNx T L p)) from hq171.1.2.2.2.2.2.2.1]
      rw [show (M169.1 79 3) = (nI k) from (fr_eq hk172 (show g 3 = (nI k) from hk3))]
      generalize hM178 : (mR M169 80 (va_up (M169.2.2 80) ((nI k)).toNatClampNeg (kR T L mo (tNx T L p)))) = M177
      have hq179 := RdL_fr (fr_1R hM178) (by decide) hq171
      have hk180 := fI_oR hM178 hk172
      have hk181 := fR_upx hM178 hk173 (cl1 rfl (by omega))
      have hk182 := fI_oR hM178 hk174
      have hk183 := fI_oR hM178 hk175
      have hF184 := fr_sR hF176 hM178 (by decide)
      show Wn _ 153 _ (90, [(0, .ref 79), (1, .ref 77), (2, .ref 3)], [], M177)
      refine Wn.run (tab := tb_bk_readLine) rfl 4 (c' := (if ((M177.2.2 77 10) = 100022) = (false = true) then 124 else 100, [(0, .ref 79), (1, .ref 77), (2, .ref 3)], [], M177)) (o := [shp 77 = (0, 3), isK (M177.2.2 77 10), isK 100022]) rfl ⟨rfl, (by rw [hq179.1.2.2.2.2.2.2.1]; exact isK_kR _ _ _ _), ⟨by decide, by decide⟩⟩ ?_
      rw [if_pos (ac_f.mpr (by rw [hq179.1.2.2.2.2.2.2.1]; exact mt (kR_iff (c := 22) (by omega) (by omega)).mp (by omega)))]
      show Wn _ 153 _ (124, [(0, .ref 79), (1, .ref 77), (2, .ref 3)], [], M177)
      refine Wn.run (tab := tb_bk_readLine) rfl 4 (c' := (if ((M177.2.2 77 10) = 100021) = (true = true) then 155 else 134, [(0, .ref 79), (1, .ref 77), (2, .ref 3)], [], M177)) (o := [shp 77 = (0, 3), isK (M177.2.2 77 10), isK 100021]) rfl ⟨rfl, (by rw [hq179.1.2.2.2.2.2.2.1]; exact isK_kR _ _ _ _), ⟨by decide, by decide⟩⟩ ?_
      rw [if_neg (fun q9 => absurd (ac_t.mp q9) (by rw [hq179.1.2.2.2.2.2.2.1]; exact mt (kR_iff (c := 21) (by omega) (by omega)).mp (by omega)))]
      show Wn _ 153 _ (134, [(0, .ref 79), (1, .ref 77), (2, .ref 3)], [], M177)
      refine Wn.run (tab := tb_bk_readLine) rfl 4 (c' := (if ((M177.2.2 77 10) = 100023) = (true = true) then 155 else 144, [(0, .ref 79), (1, .ref 77), (2, .ref 3)], [], M177)) (o := [shp 77 = (0, 3), isK (M177.2.2 77 10), isK 100023]) rfl ⟨rfl, (by rw [hq179.1.2.2.2.2.2.2.1]; exact isK_kR _ _ _ _), ⟨by decide, by decide⟩⟩ ?_
      rw [if_neg (fun q9 => absurd (ac_t.mp q9) (by rw [hq179.1.2.2.2.2.2.2.1]; exact mt (kR_iff (c := 23) (by omega) (by omega)).mp (by omega)))]
      show Wn _ 153 _ (144, [(0, .ref 79), (1, .ref 77), (2, .ref 3)], [], M177)
      refine Wn.run (tab := tb_bk_readLine) rfl 2 (c' := (148, [(0, .ref 79), (1, .ref 77), (2, .ref 3)], [.ref (M177.2.2 77 10)], M177)) (o := [shp 77 = (0, 3)]) rfl rfl ?_
      rw [show (M177.2.2 77 10) = (kR T L mo (tNx T L p)) from hq179.1.2.2.2.2.2.2.1]
      refine Wn.callV (p := (kR T L mo (tNx T L p))) (n := 1) (ix := 88) (ci := (-1)) (fun r0 M0 => r0 = some (.int (sdK (kR T L mo (tNx T L p)))) ∧ M177 = M0) [] [] rfl rfl rfl (isK_kR _ _ _ _) (Nat.le_of_ble_eq_true rfl) (Nat.le_of_ble_eq_true rfl) (w_kd_side _ (kR T L mo (tNx T L p)) (isK_kR _ _ _ _) M177 _ ⟨rfl, rfl⟩) ?_
      rintro _ _ ⟨rfl, rfl⟩
      show Wn _ 153 _ (151, [(0, .ref 79), (1, .ref 77), (2, .ref 3)], [.int (sdK (kR T L mo (tNx T L p)))], M177)
      refine Wn.run (tab := tb_bk_readLine) rfl 2 (c' := (if (sdK (kR T L mo (tNx T L p))) = (-1 : Int32) then 166 else 155, [(0, .ref 79), (1, .ref 77), (2, .ref 3)], [], M177)) (o := []) rfl trivial ?_
      rw [if_pos (sdK_no (by omega))]
      show Wn _ 153 _ (166, [(0, .ref 79), (1, .ref 77), (2, .ref 3)], [], M177)
      refine Wn.run (tab := tb_bk_readLine) rfl 2 (c' := (168, [(0, .ref 79), (1, .ref 77), (2, .ref 3)], [.int (nI 1), .ref 77], M177)) (o := []) rfl trivial ?_
      refine Wn.callV (p := 77) (n := 2) (ix := 69) (ci := (3)) (PFl M177 1 (tAt T L mo (tNx T L p)) none) [.int (nI 1)] [] rfl rfl rfl rfl (Nat.le_of_ble_eq_true rfl) (Nat.le_of_ble_eq_true rfl) (c_rd_fail _ M177 T L mo (tNx T L p) (tAt T L mo p) hq179.1 1 (by omega)) ?_
      rintro _ M185 ⟨rfl, hd186, hF187⟩
      show Wn _ 153 _ (171, [(0, .ref 79), (1, .ref 77), (2, .ref 3)], [], M185)
      have hk188 := frI_fun hF187 (by decide) hk180
      have hk189 := frR_fun hF187 (by decide) hk181
      have hk190 := frI_fun hF187 (by decide) hk182
      have hk191 := frI_fun hF187 (by decide) hk183
      have hF192 := fr_tr hF184 hF187 (by decide)
      have e9 : rdB T L mo p ν (σ 2) k = .inl (1, tAt T L mo (tNx T L p)) := by unfold rdB; rw [if_neg hk, if_neg (fun q9 => q9 hk1_3)]; simp only [hpc1]; rw [if_neg (show ¬ k = 40 by omega)]; unfold rdB1; rw [if_neg hn1, if_neg hn2, if_neg hn3, if_neg hn4]
      rw [e9]
      exact Wn.vret rfl ⟨rfl, hF192, hd186⟩
    | none =>
      refine Wn.callV (p := 77) (n := 2) (ix := 61) (ci := (3)) (PFl M9 3 (tAt T L mo p) (some (.int (nI 0)))) [.ref 3] [.int (nI k), .ref 81] rfl rfl rfl rfl (Nat.le_of_ble_eq_true rfl) (Nat.le_of_ble_eq_true rfl) (c_rd_takePerson_no3 _ M9 T L mo p ta hq11 3 σ (LkC_fr hL (hF16 3 (by decide)).1 (hF16 5 (by decide)).1) c9_2 ν (NmC_fr hF16 (by decide) hN) (by decide) hk1_3 hpc1) ?_
      rintro _ M195 ⟨rfl, hq193, hF194⟩
      show Wn _ 153 _ (76, [(0, .ref 79), (1, .ref 77), (2, .ref 3)], [.int (nI 0), .int (nI k), .ref 81], M195)
      have hk196 := frI_fun hF194 (by decide) hk12
      have hk197 := frR_fun hF194 (by decide) hk13
      have hk198 := frI_fun hF194 (by decide) hk14
      have hk199 := frI_fun hF194 (by decide) hk15
      have hF200 := fr_tr hF16 hF194 (by decide)
      refine Wn.run (tab := tb_bk_readLine) rfl 1 (c' := (77, [(0, .ref 79), (1, .ref 77), (2, .ref 3)], [], (mI M195 81 (upd (M195.1 81) ((nI k)).toNatClampNeg (nI 0))))) (o := [aok shp 81 0 (nI k)]) rfl (ak1 (n := 40) rfl rfl rfl (by omega)) ?_
      generalize hM202 : (mI M195 81 (upd (M195.1 81) ((nI k)).toNatClampNeg (nI 0))) = M201
      have hq203 := RdD_fr (fr_1I hM202) (by decide) hq193
      have hk204 := fI_ne hM202 (by decide) hk196
      have hk205 := fR_oI hM202 hk197
      have hk206 := fI_upx hM202 hk198 (cl1 rfl (by omega))
      have hk207 := fI_ne hM202 (by decide) hk199
      have hF208 := fr_sI hF200 hM202 (by decide)
      show Wn _ 153 _ (77, [(0, .ref 79), (1, .ref 77), (2, .ref 3)], [], M201)
      refine Wn.run (tab := tb_bk_readLine) rfl 7 (c' := (90, [(0, .ref 79), (1, .ref 77), (2, .ref 3)], [], (mR M201 80 (va_up (M201.2.2 80) ((M201.1 79 3)).toNatClampNeg (M201.2.2 77 10))))) (o := [shp 79 = (0, 0), shp 79 = (0, 0), shp 77 = (0, 3), aok shp 80 4 (M201.1 79 3), isK (M201.2.2 77 10)]) rfl ⟨rfl, rfl, rfl, (ak1 (n := 40) rfl rfl (fr_eq hk204 (show g 3 = (nI k) from hk3)) (by omega)), (hq203.2.2.2)⟩ ?_
      rw [show (M201.1 79 3) = (nI k) from (fr_eq hk204 (show g 3 = (nI k) from hk3))]
      generalize hM210 : (mR M201 80 (va_up (M201.2.2 80) ((nI k)).toNatClampNeg (M201.2.2 77 10))) = M209
      have hq211 := RdD_fr (fr_1R hM210) (by decide) hq203
      have hk212 := fI_oR hM210 hk204
      have hk213 := fR_upx hM210 hk205 (cl1 rfl (by omega))
      have hk214 := fI_oR hM210 hk206
      have hk215 := fI_oR hM210 hk207
      have hF216 := fr_sR hF208 hM210 (by decide)
      show Wn _ 153 _ (90, [(0, .ref 79), (1, .ref 77), (2, .ref 3)], [], M209)
      refine Wn.run (tab := tb_bk_readLine) rfl 4 (c' := (if ((M209.2.2 77 10) = 100022) = (false = true) then 124 else 100, [(0, .ref 79), (1, .ref 77), (2, .ref 3)], [], M209)) (o := [shp 77 = (0, 3), isK (M209.2.2 77 10), isK 100022]) rfl ⟨rfl, (hq211.2.2.2), ⟨by decide, by decide⟩⟩ ?_
      refine Wn.br (fun h1 => ?_) (fun h1 => ?_)
      · show Wn _ 153 _ (124, [(0, .ref 79), (1, .ref 77), (2, .ref 3)], [], M209)
        refine Wn.run (tab := tb_bk_readLine) rfl 4 (c' := (if ((M209.2.2 77 10) = 100021) = (true = true) then 155 else 134, [(0, .ref 79), (1, .ref 77), (2, .ref 3)], [], M209)) (o := [shp 77 = (0, 3), isK (M209.2.2 77 10), isK 100021]) rfl ⟨rfl, (hq211.2.2.2), ⟨by decide, by decide⟩⟩ ?_
        refine Wn.br (fun h2 => ?_) (fun h2 => ?_)
        · show Wn _ 153 _ (155, [(0, .ref 79), (1, .ref 77), (2, .ref 3)], [], M209)
          refine Wn.run (tab := tb_bk_readLine) rfl 3 (c' := (160, [(0, .ref 79), (1, .ref 77), (2, .ref 3)], [.ref (M209.2.2 77 10), .ref 77], M209)) (o := [shp 77 = (0, 3)]) rfl rfl ?_
          refine Wn.callV (p := 77) (n := 2) (ix := 48) (ci := (3)) (fun r0 M9 => r0 = none ∧ M9 = M209) [.ref (M209.2.2 77 10)] [] rfl rfl rfl rfl (Nat.le_of_ble_eq_true rfl) (Nat.le_of_ble_eq_true rfl) (c_rd_takeD _ M209 3 (tAt T L mo p) hq211 (M209.2.2 77 10)) ?_
          rintro _ M9 ⟨rfl, hsm⟩
          obtain rfl := hsm.symm
          show Wn _ 153 _ (163, [(0, .ref 79), (1, .ref 77), (2, .ref 3)], [], M209)
          refine Wn.run (tab := tb_bk_readLine) rfl 1 (c' := (171, [(0, .ref 79), (1, .ref 77), (2, .ref 3)], [], M209)) (o := []) rfl trivial ?_
          have e9 : rdB T L mo p ν (σ 2) k = .inl (3, tAt T L mo p) := by unfold rdB; rw [if_neg hk, if_neg (fun q9 => q9 hk1_3)]; simp only [hpc1]
          rw [e9]
          exact Wn.vret rfl ⟨rfl, hF216, hq211⟩
        · show Wn _ 153 _ (134, [(0, .ref 79), (1, .ref 77), (2, .ref 3)], [], M209)
          refine Wn.run (tab := tb_bk_readLine) rfl 4 (c' := (if ((M209.2.2 77 10) = 100023) = (true = true) then 155 else 144, [(0, .ref 79), (1, .ref 77), (2, .ref 3)], [], M209)) (o := [shp 77 = (0, 3), isK (M209.2.2 77 10), isK 100023]) rfl ⟨rfl, (hq211.2.2.2), ⟨by decide, by decide⟩⟩ ?_
          refine Wn.br (fun h3 => ?_) (fun h3 => ?_)
          · show Wn _ 153 _ (155, [(0, .ref 79), (1, .ref 77), (2, .ref 3)], [], M209)
            refine Wn.run (tab := tb_bk_readLine) rfl 3 (c' := (160, [(0, .ref 79), (1, .ref 77), (2, .ref 3)], [.ref (M209.2.2 77 10), .ref 77], M209)) (o := [shp 77 = (0, 3)]) rfl rfl ?_
            refine Wn.callV (p := 77) (n := 2) (ix := 48) (ci := (3)) (fun r0 M9 => r0 = none ∧ M9 = M209) [.ref (M209.2.2 77 10)] [] rfl rfl rfl rfl (Nat.le_of_ble_eq_true rfl) (Nat.le_of_ble_eq_true rfl) (c_rd_takeD _ M209 3 (tAt T L mo p) hq211 (M209.2.2 77 10)) ?_
            rintro _ M9 ⟨rfl, hsm⟩
            obtain rfl := hsm.symm
            show Wn _ 153 _ (163, [(0, .ref 79), (1, .ref 77), (2, .ref 3)], [], M209)
            refine Wn.run (tab := tb_bk_readLine) rfl 1 (c' := (171, [(0, .ref 79), (1, .ref 77), (2, .ref 3)], [], M209)) (o := []) rfl trivial ?_
            have e9 : rdB T L mo p ν (σ 2) k = .inl (3, tAt T L mo p) := by unfold rdB; rw [if_neg hk, if_neg (fun q9 => q9 hk1_3)]; simp only [hpc1]
            rw [e9]
            exact Wn.vret rfl ⟨rfl, hF216, hq211⟩
          · show Wn _ 153 _ (144, [(0, .ref 79), (1, .ref 77), (2, .ref 3)], [], M209)
            refine Wn.run (tab := tb_bk_readLine) rfl 2 (c' := (148, [(0, .ref 79), (1, .ref 77), (2, .ref 3)], [.ref (M209.2.2 77 10)], M209)) (o := [shp 77 = (0, 3)]) rfl rfl ?_
            refine Wn.callV (p := (M209.2.2 77 10)) (n := 1) (ix := 88) (ci := (-1)) (fun r0 M0 => r0 = some (.int (sdK (M209.2.2 77 10))) ∧ M209 = M0) [] [] rfl rfl rfl (hq211.2.2.2) (Nat.le_of_ble_eq_true rfl) (Nat.le_of_ble_eq_true rfl) (w_kd_side _ (M209.2.2 77 10) (hq211.2.2.2) M209 _ ⟨rfl, rfl⟩) ?_
            rintro _ _ ⟨rfl, rfl⟩
            show Wn _ 153 _ (151, [(0, .ref 79), (1, .ref 77), (2, .ref 3)], [.int (sdK (M209.2.2 77 10))], M209)
            refine Wn.run (tab := tb_bk_readLine) rfl 2 (c' := (if (sdK (M209.2.2 77 10)) = (-1 : Int32) then 166 else 155, [(0, .ref 79), (1, .ref 77), (2, .ref 3)], [], M209)) (o := []) rfl trivial ?_
            refine Wn.br (fun h4 => ?_) (fun h4 => ?_)
            · show Wn _ 153 _ (166, [(0, .ref 79), (1, .ref 77), (2, .ref 3)], [], M209)
              refine Wn.run (tab := tb_bk_readLine) rfl 2 (c' := (168, [(0, .ref 79), (1, .ref 77), (2, .ref 3)], [.int (nI 1), .ref 77], M209)) (o := []) rfl trivial ?_
              refine Wn.callV (p := 77) (n := 2) (ix := 69) (ci := (3)) (fun r0 M9 => r0 = none ∧ M9 = M209) [.int (nI 1)] [] rfl rfl rfl rfl (Nat.le_of_ble_eq_true rfl) (Nat.le_of_ble_eq_true rfl) (c_rd_failD _ M209 3 (tAt T L mo p) hq211 (nI 1)) ?_
              rintro _ M9 ⟨rfl, hsm⟩
              obtain rfl := hsm.symm
              show Wn _ 153 _ (171, [(0, .ref 79), (1, .ref 77), (2, .ref 3)], [], M209)
              have e9 : rdB T L mo p ν (σ 2) k = .inl (3, tAt T L mo p) := by unfold rdB; rw [if_neg hk, if_neg (fun q9 => q9 hk1_3)]; simp only [hpc1]
              rw [e9]
              exact Wn.vret rfl ⟨rfl, hF216, hq211⟩
            · show Wn _ 153 _ (155, [(0, .ref 79), (1, .ref 77), (2, .ref 3)], [], M209)
              refine Wn.run (tab := tb_bk_readLine) rfl 3 (c' := (160, [(0, .ref 79), (1, .ref 77), (2, .ref 3)], [.ref (M209.2.2 77 10), .ref 77], M209)) (o := [shp 77 = (0, 3)]) rfl rfl ?_
              refine Wn.callV (p := 77) (n := 2) (ix := 48) (ci := (3)) (fun r0 M9 => r0 = none ∧ M9 = M209) [.ref (M209.2.2 77 10)] [] rfl rfl rfl rfl (Nat.le_of_ble_eq_true rfl) (Nat.le_of_ble_eq_true rfl) (c_rd_takeD _ M209 3 (tAt T L mo p) hq211 (M209.2.2 77 10)) ?_
              rintro _ M9 ⟨rfl, hsm⟩
              obtain rfl := hsm.symm
              show Wn _ 153 _ (163, [(0, .ref 79), (1, .ref 77), (2, .ref 3)], [], M209)
              refine Wn.run (tab := tb_bk_readLine) rfl 1 (c' := (171, [(0, .ref 79), (1, .ref 77), (2, .ref 3)], [], M209)) (o := []) rfl trivial ?_
              have e9 : rdB T L mo p ν (σ 2) k = .inl (3, tAt T L mo p) := by unfold rdB; rw [if_neg hk, if_neg (fun q9 => q9 hk1_3)]; simp only [hpc1]
              rw [e9]
              exact Wn.vret rfl ⟨rfl, hF216, hq211⟩
      · show Wn _ 153 _ (100, [(0, .ref 79), (1, .ref 77), (2, .ref 3)], [], M209)
        refine Wn.run (tab := tb_bk_readLine) rfl 2 (c' := (104, [(0, .ref 79), (1, .ref 77), (2, .ref 3)], [.ref 100022, .ref 77], M209)) (o := []) rfl trivial ?_
        refine Wn.callV (p := 77) (n := 2) (ix := 48) (ci := (3)) (fun r0 M9 => r0 = none ∧ M9 = M209) [.ref 100022] [] rfl rfl rfl rfl (Nat.le_of_ble_eq_true rfl) (Nat.le_of_ble_eq_true rfl) (c_rd_takeD _ M209 3 (tAt T L mo p) hq211 100022) ?_
        rintro _ M9 ⟨rfl, hsm⟩
        obtain rfl := hsm.symm
        show Wn _ 153 _ (107, [(0, .ref 79), (1, .ref 77), (2, .ref 3)], [], M209)
        refine Wn.run (tab := tb_bk_readLine) rfl 6 (c' := (117, [(0, .ref 79), (1, .ref 77), (2, .ref 3)], [.ref 3, .ref 77, .int (M209.1 79 3), .ref 82], M209)) (o := [shp 79 = (0, 0), shp 79 = (0, 0)]) rfl ⟨rfl, rfl⟩ ?_
        rw [show (M209.1 79 3) = (nI k) from (fr_eq hk212 (show g 3 = (nI k) from hk3))]
        refine Wn.callV (p := 77) (n := 2) (ix := 61) (ci := (3)) (fun r0 M9 => r0 = some (.int (nI 0)) ∧ M9 = M209) [.ref 3] [.int (nI k), .ref 82] rfl rfl rfl rfl (Nat.le_of_ble_eq_true rfl) (Nat.le_of_ble_eq_true rfl) (c_rd_takePersonD _ M209 3 (tAt T L mo p) hq211 3 σ (LkC_fr hL (hF216 3 (by decide)).1 (hF216 5 (by decide)).1) c9_2 ν (NmC_fr hF216 (by decide) hN) (by decide)) ?_
        rintro _ M9 ⟨rfl, hsm⟩
        obtain rfl := hsm.symm
        show Wn _ 153 _ (120, [(0, .ref 79), (1, .ref 77), (2, .ref 3)], [.int (nI 0), .int (nI k), .ref 82], M209)
        refine Wn.run (tab := tb_bk_readLine) rfl 1 (c' := (121, [(0, .ref 79), (1, .ref 77), (2, .ref 3)], [], (mI M209 82 (upd (M209.1 82) ((nI k)).toNatClampNeg (nI 0))))) (o := [aok shp 82 0 (nI k)]) rfl (ak1 (n := 40) rfl rfl rfl (by omega)) ?_
        generalize hM218 : (mI M209 82 (upd (M209.1 82) ((nI k)).toNatClampNeg (nI 0))) = M217
        have hq219 := RdD_fr (fr_1I hM218) (by decide) hq211
        have hk220 := fI_ne hM218 (by decide) hk212
        have hk221 := fR_oI hM218 hk213
        have hk222 := fI_ne hM218 (by decide) hk214
        have hk223 := fI_upx hM218 hk215 (cl1 rfl (by omega))
        have hF224 := fr_sI hF216 hM218 (by decide)
        show Wn _ 153 _ (121, [(0, .ref 79), (1, .ref 77), (2, .ref 3)], [], M217)
        refine Wn.run (tab := tb_bk_readLine) rfl 1 (c' := (171, [(0, .ref 79), (1, .ref 77), (2, .ref 3)], [], M217)) (o := []) rfl trivial ?_
        have e9 : rdB T L mo p ν (σ 2) k = .inl (3, tAt T L mo p) := by unfold rdB; rw [if_neg hk, if_neg (fun q9 => q9 hk1_3)]; simp only [hpc1]
        rw [e9]
        exact Wn.vret rfl ⟨rfl, hF224, hq219⟩
  · refine Wn.callV (p := 77) (n := 2) (ix := 61) (ci := (3)) (PFl M9 1 (tAt T L mo p) (some (.int (nI 0)))) [.ref 3] [.int (nI k), .ref 81] rfl rfl rfl rfl (Nat.le_of_ble_eq_true rfl) (Nat.le_of_ble_eq_true rfl) (c_rd_takePerson_no1 _ M9 T L mo p ta hq11 3 σ (LkC_fr hL (hF16 3 (by decide)).1 (hF16 5 (by decide)).1) c9_2 ν (NmC_fr hF16 (by decide) hN) (by decide) hk1_3) ?_
    rintro _ M227 ⟨rfl, hq225, hF226⟩
    show Wn _ 153 _ (76, [(0, .ref 79), (1, .ref 77), (2, .ref 3)], [.int (nI 0), .int (nI k), .ref 81], M227)
    have hk228 := frI_fun hF226 (by decide) hk12
    have hk229 := frR_fun hF226 (by decide) hk13
    have hk230 := frI_fun hF226 (by decide) hk14
    have hk231 := frI_fun hF226 (by decide) hk15
    have hF232 := fr_tr hF16 hF226 (by decide)
    refine Wn.run (tab := tb_bk_readLine) rfl 1 (c' := (77, [(0, .ref 79), (1, .ref 77), (2, .ref 3)], [], (mI M227 81 (upd (M227.1 81) ((nI k)).toNatClampNeg (nI 0))))) (o := [aok shp 81 0 (nI k)]) rfl (ak1 (n := 40) rfl rfl rfl (by omega)) ?_
    generalize hM234 : (mI M227 81 (upd (M227.1 81) ((nI k)).toNatClampNeg (nI 0))) = M233
    have hq235 := RdD_fr (fr_1I hM234) (by decide) hq225
    have hk236 := fI_ne hM234 (by decide) hk228
    have hk237 := fR_oI hM234 hk229
    have hk238 := fI_upx hM234 hk230 (cl1 rfl (by omega))
    have hk239 := fI_ne hM234 (by decide) hk231
    have hF240 := fr_sI hF232 hM234 (by decide)
    show Wn _ 153 _ (77, [(0, .ref 79), (1, .ref 77), (2, .ref 3)], [], M233)
    refine Wn.run (tab := tb_bk_readLine) rfl 7 (c' := (90, [(0, .ref 79), (1, .ref 77), (2, .ref 3)], [], (mR M233 80 (va_up (M233.2.2 80) ((M233.1 79 3)).toNatClampNeg (M233.2.2 77 10))))) (o := [shp 79 = (0, 0), shp 79 = (0, 0), shp 77 = (0, 3), aok shp 80 4 (M233.1 79 3), isK (M233.2.2 77 10)]) rfl ⟨rfl, rfl, rfl, (ak1 (n := 40) rfl rfl (fr_eq hk236 (show g 3 = (nI k) from hk3)) (by omega)), (hq235.2.2.2)⟩ ?_
    rw [show (M233.1 79 3) = (nI k) from (fr_eq hk236 (show g 3 = (nI k) from hk3))]
    generalize hM242 : (mR M233 80 (va_up (M233.2.2 80) ((nI k)).toNatClampNeg (M233.2.2 77 10))) = M241
    have hq243 := RdD_fr (fr_1R hM242) (by decide) hq235
    have hk244 := fI_oR hM242 hk236
    have hk245 := fR_upx hM242 hk237 (cl1 rfl (by omega))
    have hk246 := fI_oR hM242 hk238
    have hk247 := fI_oR hM242 hk239
    have hF248 := fr_sR hF240 hM242 (by decide)
    show Wn _ 153 _ (90, [(0, .ref 79), (1, .ref 77), (2, .ref 3)], [], M241)
    refine Wn.run (tab := tb_bk_readLine) rfl 4 (c' := (if ((M241.2.2 77 10) = 100022) = (false = true) then 124 else 100, [(0, .ref 79), (1, .ref 77), (2, .ref 3)], [], M241)) (o := [shp 77 = (0, 3), isK (M241.2.2 77 10), isK 100022]) rfl ⟨rfl, (hq243.2.2.2), ⟨by decide, by decide⟩⟩ ?_
    refine Wn.br (fun h5 => ?_) (fun h5 => ?_)
    · show Wn _ 153 _ (124, [(0, .ref 79), (1, .ref 77), (2, .ref 3)], [], M241)
      refine Wn.run (tab := tb_bk_readLine) rfl 4 (c' := (if ((M241.2.2 77 10) = 100021) = (true = true) then 155 else 134, [(0, .ref 79), (1, .ref 77), (2, .ref 3)], [], M241)) (o := [shp 77 = (0, 3), isK (M241.2.2 77 10), isK 100021]) rfl ⟨rfl, (hq243.2.2.2), ⟨by decide, by decide⟩⟩ ?_
      refine Wn.br (fun h6 => ?_) (fun h6 => ?_)
      · show Wn _ 153 _ (155, [(0, .ref 79), (1, .ref 77), (2, .ref 3)], [], M241)
        refine Wn.run (tab := tb_bk_readLine) rfl 3 (c' := (160, [(0, .ref 79), (1, .ref 77), (2, .ref 3)], [.ref (M241.2.2 77 10), .ref 77], M241)) (o := [shp 77 = (0, 3)]) rfl rfl ?_
        refine Wn.callV (p := 77) (n := 2) (ix := 48) (ci := (3)) (fun r0 M9 => r0 = none ∧ M9 = M241) [.ref (M241.2.2 77 10)] [] rfl rfl rfl rfl (Nat.le_of_ble_eq_true rfl) (Nat.le_of_ble_eq_true rfl) (c_rd_takeD _ M241 1 (tAt T L mo p) hq243 (M241.2.2 77 10)) ?_
        rintro _ M9 ⟨rfl, hsm⟩
        obtain rfl := hsm.symm
        show Wn _ 153 _ (163, [(0, .ref 79), (1, .ref 77), (2, .ref 3)], [], M241)
        refine Wn.run (tab := tb_bk_readLine) rfl 1 (c' := (171, [(0, .ref 79), (1, .ref 77), (2, .ref 3)], [], M241)) (o := []) rfl trivial ?_
        have e9 : rdB T L mo p ν (σ 2) k = .inl (1, tAt T L mo p) := by unfold rdB; rw [if_neg hk, if_pos hk1_3]
        rw [e9]
        exact Wn.vret rfl ⟨rfl, hF248, hq243⟩
      · show Wn _ 153 _ (134, [(0, .ref 79), (1, .ref 77), (2, .ref 3)], [], M241)
        refine Wn.run (tab := tb_bk_readLine) rfl 4 (c' := (if ((M241.2.2 77 10) = 100023) = (true = true) then 155 else 144, [(0, .ref 79), (1, .ref 77), (2, .ref 3)], [], M241)) (o := [shp 77 = (0, 3), isK (M241.2.2 77 10), isK 100023]) rfl ⟨rfl, (hq243.2.2.2), ⟨by decide, by decide⟩⟩ ?_
        refine Wn.br (fun h7 => ?_) (fun h7 => ?_)
        · show Wn _ 153 _ (155, [(0, .ref 79), (1, .ref 77), (2, .ref 3)], [], M241)
          refine Wn.run (tab := tb_bk_readLine) rfl 3 (c' := (160, [(0, .ref 79), (1, .ref 77), (2, .ref 3)], [.ref (M241.2.2 77 10), .ref 77], M241)) (o := [shp 77 = (0, 3)]) rfl rfl ?_
          refine Wn.callV (p := 77) (n := 2) (ix := 48) (ci := (3)) (fun r0 M9 => r0 = none ∧ M9 = M241) [.ref (M241.2.2 77 10)] [] rfl rfl rfl rfl (Nat.le_of_ble_eq_true rfl) (Nat.le_of_ble_eq_true rfl) (c_rd_takeD _ M241 1 (tAt T L mo p) hq243 (M241.2.2 77 10)) ?_
          rintro _ M9 ⟨rfl, hsm⟩
          obtain rfl := hsm.symm
          show Wn _ 153 _ (163, [(0, .ref 79), (1, .ref 77), (2, .ref 3)], [], M241)
          refine Wn.run (tab := tb_bk_readLine) rfl 1 (c' := (171, [(0, .ref 79), (1, .ref 77), (2, .ref 3)], [], M241)) (o := []) rfl trivial ?_
          have e9 : rdB T L mo p ν (σ 2) k = .inl (1, tAt T L mo p) := by unfold rdB; rw [if_neg hk, if_pos hk1_3]
          rw [e9]
          exact Wn.vret rfl ⟨rfl, hF248, hq243⟩
        · show Wn _ 153 _ (144, [(0, .ref 79), (1, .ref 77), (2, .ref 3)], [], M241)
          refine Wn.run (tab := tb_bk_readLine) rfl 2 (c' := (148, [(0, .ref 79), (1, .ref 77), (2, .ref 3)], [.ref (M241.2.2 77 10)], M241)) (o := [shp 77 = (0, 3)]) rfl rfl ?_
          refine Wn.callV (p := (M241.2.2 77 10)) (n := 1) (ix := 88) (ci := (-1)) (fun r0 M0 => r0 = some (.int (sdK (M241.2.2 77 10))) ∧ M241 = M0) [] [] rfl rfl rfl (hq243.2.2.2) (Nat.le_of_ble_eq_true rfl) (Nat.le_of_ble_eq_true rfl) (w_kd_side _ (M241.2.2 77 10) (hq243.2.2.2) M241 _ ⟨rfl, rfl⟩) ?_
          rintro _ _ ⟨rfl, rfl⟩
          show Wn _ 153 _ (151, [(0, .ref 79), (1, .ref 77), (2, .ref 3)], [.int (sdK (M241.2.2 77 10))], M241)
          refine Wn.run (tab := tb_bk_readLine) rfl 2 (c' := (if (sdK (M241.2.2 77 10)) = (-1 : Int32) then 166 else 155, [(0, .ref 79), (1, .ref 77), (2, .ref 3)], [], M241)) (o := []) rfl trivial ?_
          refine Wn.br (fun h8 => ?_) (fun h8 => ?_)
          · show Wn _ 153 _ (166, [(0, .ref 79), (1, .ref 77), (2, .ref 3)], [], M241)
            refine Wn.run (tab := tb_bk_readLine) rfl 2 (c' := (168, [(0, .ref 79), (1, .ref 77), (2, .ref 3)], [.int (nI 1), .ref 77], M241)) (o := []) rfl trivial ?_
            refine Wn.callV (p := 77) (n := 2) (ix := 69) (ci := (3)) (fun r0 M9 => r0 = none ∧ M9 = M241) [.int (nI 1)] [] rfl rfl rfl rfl (Nat.le_of_ble_eq_true rfl) (Nat.le_of_ble_eq_true rfl) (c_rd_failD _ M241 1 (tAt T L mo p) hq243 (nI 1)) ?_
            rintro _ M9 ⟨rfl, hsm⟩
            obtain rfl := hsm.symm
            show Wn _ 153 _ (171, [(0, .ref 79), (1, .ref 77), (2, .ref 3)], [], M241)
            have e9 : rdB T L mo p ν (σ 2) k = .inl (1, tAt T L mo p) := by unfold rdB; rw [if_neg hk, if_pos hk1_3]
            rw [e9]
            exact Wn.vret rfl ⟨rfl, hF248, hq243⟩
          · show Wn _ 153 _ (155, [(0, .ref 79), (1, .ref 77), (2, .ref 3)], [], M241)
            refine Wn.run (tab := tb_bk_readLine) rfl 3 (c' := (160, [(0, .ref 79), (1, .ref 77), (2, .ref 3)], [.ref (M241.2.2 77 10), .ref 77], M241)) (o := [shp 77 = (0, 3)]) rfl rfl ?_
            refine Wn.callV (p := 77) (n := 2) (ix := 48) (ci := (3)) (fun r0 M9 => r0 = none ∧ M9 = M241) [.ref (M241.2.2 77 10)] [] rfl rfl rfl rfl (Nat.le_of_ble_eq_true rfl) (Nat.le_of_ble_eq_true rfl) (c_rd_takeD _ M241 1 (tAt T L mo p) hq243 (M241.2.2 77 10)) ?_
            rintro _ M9 ⟨rfl, hsm⟩
            obtain rfl := hsm.symm
            show Wn _ 153 _ (163, [(0, .ref 79), (1, .ref 77), (2, .ref 3)], [], M241)
            refine Wn.run (tab := tb_bk_readLine) rfl 1 (c' := (171, [(0, .ref 79), (1, .ref 77), (2, .ref 3)], [], M241)) (o := []) rfl trivial ?_
            have e9 : rdB T L mo p ν (σ 2) k = .inl (1, tAt T L mo p) := by unfold rdB; rw [if_neg hk, if_pos hk1_3]
            rw [e9]
            exact Wn.vret rfl ⟨rfl, hF248, hq243⟩
    · show Wn _ 153 _ (100, [(0, .ref 79), (1, .ref 77), (2, .ref 3)], [], M241)
      refine Wn.run (tab := tb_bk_readLine) rfl 2 (c' := (104, [(0, .ref 79), (1, .ref 77), (2, .ref 3)], [.ref 100022, .ref 77], M241)) (o := []) rfl trivial ?_
      refine Wn.callV (p := 77) (n := 2) (ix := 48) (ci := (3)) (fun r0 M9 => r0 = none ∧ M9 = M241) [.ref 100022] [] rfl rfl rfl rfl (Nat.le_of_ble_eq_true rfl) (Nat.le_of_ble_eq_true rfl) (c_rd_takeD _ M241 1 (tAt T L mo p) hq243 100022) ?_
      rintro _ M9 ⟨rfl, hsm⟩
      obtain rfl := hsm.symm
      show Wn _ 153 _ (107, [(0, .ref 79), (1, .ref 77), (2, .ref 3)], [], M241)
      refine Wn.run (tab := tb_bk_readLine) rfl 6 (c' := (117, [(0, .ref 79), (1, .ref 77), (2, .ref 3)], [.ref 3, .ref 77, .int (M241.1 79 3), .ref 82], M241)) (o := [shp 79 = (0, 0), shp 79 = (0, 0)]) rfl ⟨rfl, rfl⟩ ?_
      rw [show (M241.1 79 3) = (nI k) from (fr_eq hk244 (show g 3 = (nI k) from hk3))]
      refine Wn.callV (p := 77) (n := 2) (ix := 61) (ci := (3)) (fun r0 M9 => r0 = some (.int (nI 0)) ∧ M9 = M241) [.ref 3] [.int (nI k), .ref 82] rfl rfl rfl rfl (Nat.le_of_ble_eq_true rfl) (Nat.le_of_ble_eq_true rfl) (c_rd_takePersonD _ M241 1 (tAt T L mo p) hq243 3 σ (LkC_fr hL (hF248 3 (by decide)).1 (hF248 5 (by decide)).1) c9_2 ν (NmC_fr hF248 (by decide) hN) (by decide)) ?_
      rintro _ M9 ⟨rfl, hsm⟩
      obtain rfl := hsm.symm
      show Wn _ 153 _ (120, [(0, .ref 79), (1, .ref 77), (2, .ref 3)], [.int (nI 0), .int (nI k), .ref 82], M241)
      refine Wn.run (tab := tb_bk_readLine) rfl 1 (c' := (121, [(0, .ref 79), (1, .ref 77), (2, .ref 3)], [], (mI M241 82 (upd (M241.1 82) ((nI k)).toNatClampNeg (nI 0))))) (o := [aok shp 82 0 (nI k)]) rfl (ak1 (n := 40) rfl rfl rfl (by omega)) ?_
      generalize hM250 : (mI M241 82 (upd (M241.1 82) ((nI k)).toNatClampNeg (nI 0))) = M249
      have hq251 := RdD_fr (fr_1I hM250) (by decide) hq243
      have hk252 := fI_ne hM250 (by decide) hk244
      have hk253 := fR_oI hM250 hk245
      have hk254 := fI_ne hM250 (by decide) hk246
      have hk255 := fI_upx hM250 hk247 (cl1 rfl (by omega))
      have hF256 := fr_sI hF248 hM250 (by decide)
      show Wn _ 153 _ (121, [(0, .ref 79), (1, .ref 77), (2, .ref 3)], [], M249)
      refine Wn.run (tab := tb_bk_readLine) rfl 1 (c' := (171, [(0, .ref 79), (1, .ref 77), (2, .ref 3)], [], M249)) (o := []) rfl trivial ?_
      have e9 : rdB T L mo p ν (σ 2) k = .inl (1, tAt T L mo p) := by unfold rdB; rw [if_neg hk, if_pos hk1_3]
      rw [e9]
      exact Wn.vret rfl ⟨rfl, hF256, hq251⟩
