/-! 'ice' lines of the class. -/
theorem s64a : ∀ c, c < 64 → (((nI c).toInt64 &&& 63).toBitVec.smod 64).toNat = c := by decide +kernel
theorem s64b : ∀ c, c < 64 → (((nI c).toInt64.toUInt64 &&& Int64.toUInt64 63).toBitVec % 64).toNat = c := by decide +kernel
theorem s64c : ∀ c, c < 64 → ¬ ((1 : Int64) <<< ((nI c).toInt64 &&& 63)) = 0 := by decide +kernel
theorem bv_a1 (v : BitVec 64) : v &&& 1#64 = 1#64 ↔ v.getLsbD 0 = true := by
  constructor
  · intro h
    have := congrArg (fun x => BitVec.getLsbD x 0) h
    simpa using this
  · intro h
    apply BitVec.eq_of_getLsbD_eq
    intro i hi
    rw [BitVec.getLsbD_and, BitVec.getLsbD_one]
    by_cases e : i = 0
    · subst e; simp [h]
    · simp [e]
theorem bv_a0 (v : BitVec 64) : v &&& 1#64 = 0#64 ↔ ¬ v.getLsbD 0 = true := by
  constructor
  · intro h
    have := congrArg (fun x => BitVec.getLsbD x 0) h
    simpa using this
  · intro h
    apply BitVec.eq_of_getLsbD_eq
    intro i hi
    rw [BitVec.getLsbD_and, BitVec.getLsbD_one]
    by_cases e : i = 0
    · subst e; simpa using h
    · simp [e]
theorem bit64 {ic : Int64} {c : Nat} (hc : c < 64) : ((ic.toUInt64 >>> ((nI c).toInt64.toUInt64 &&& Int64.toUInt64 63)).toInt64 &&& 1 = 0) ↔ ¬ ((ic >>> ((nI c).toInt64 &&& 63)) &&& 1 = 1) := by
  have a : ((ic.toUInt64 >>> ((nI c).toInt64.toUInt64 &&& Int64.toUInt64 63)).toInt64 &&& 1 = 0) ↔ ¬ ic.toBitVec.getLsbD c = true := by
    rw [← Int64.toBitVec_inj]
    show (ic.toBitVec >>> (((nI c).toInt64.toUInt64 &&& Int64.toUInt64 63).toBitVec % 64)) &&& 1#64 = 0#64 ↔ _
    rw [bv_a0]
    show ¬ (ic.toBitVec >>> (((nI c).toInt64.toUInt64 &&& Int64.toUInt64 63).toBitVec % 64).toNat).getLsbD 0 = true ↔ _
    rw [s64b c hc, BitVec.getLsbD_ushiftRight, Nat.add_zero]
  have b : ((ic >>> ((nI c).toInt64 &&& 63)) &&& 1 = 1) ↔ ic.toBitVec.getLsbD c = true := by
    rw [← Int64.toBitVec_inj]
    show (ic.toBitVec.sshiftRight (((nI c).toInt64 &&& 63).toBitVec.smod 64).toNat) &&& 1#64 = 1#64 ↔ _
    rw [bv_a1, s64a c hc, BitVec.getLsbD_sshiftRight]
    simp [hc]
  rw [a, b]
theorem icu_ne {ic : Int64} {c : Nat} (hc : c < 64) : ¬ icu ic c = 0 := by
  intro h
  refine s64c c hc ?_
  unfold icu at h
  generalize (1 : Int64) <<< ((nI c).toInt64 &&& 63) = y at *
  rw [← Int64.toBitVec_inj] at h ⊢
  have h2 : ic.toBitVec ||| y.toBitVec = 0#64 := h
  show y.toBitVec = 0#64
  apply BitVec.eq_of_getLsbD_eq
  intro i hi
  have := congrArg (fun x => BitVec.getLsbD x i) h2
  simp at this
  simp [this.2]
theorem CD_ice {gl : Nat → Int32} {J : Nat → Int64} {lo ice at_ te f pr : Nat → Int32} {δ : Nat → Nat} {ν : Nat → Int64} {c v : Nat} (h : CDf gl J lo ice at_ te f pr δ ν) (hc : c < 64) : CDf gl J lo (upd ice c (nI v)) at_ te f pr (su δ (8 + c) v) ν := by
  have e : ∀ x, ¬ x = 8 + c → su δ (8 + c) v x = δ x := fun x hx => if_neg hx
  obtain ⟨a0, a1, a2, a3, a4, a5, a6, a7⟩ := h
  refine ⟨fun x hx => ?_, ?_, ?_, ?_, ?_, ?_, a6, a7⟩
  · rw [e x (by omega)]; exact a0 x hx
  · rw [e 2 (by omega)]; exact a1
  · rw [e 2 (by omega)]; intro q hq; rw [e _ (by have := a0; omega)]; exact a2 q hq
  · intro x hx hl
    by_cases q : x = c
    · rw [q, pk_us]; exact congrArg nI (if_pos rfl).symm
    · rw [pk_un q, e _ (by omega)]
      refine a3 x hx ?_
      have e0 := e 0 (by omega); have e1 := e 1 (by omega)
      unfold inL at hl ⊢; rw [e0, e1] at hl; exact hl
  · rw [e 2 (by omega)]; intro q hq; rw [e _ (by omega)]; exact a4 q hq
  · rw [e 2 (by omega)]; intro q hq; rw [e _ (by omega)]; exact a5 q hq
theorem CF_ice {g : Nat → Int32} {I J : Int64} {δ ε : Nat → Nat} {o : Nat} {ic : Int64} {c : Nat} (h : CFf g I δ o ic) (hc : c < 64) (hJ : J = icu ic c) : CFf (upd g 7 (nI 1)) J ε o (icu ic c) :=
  ⟨by rw [pk_un (by decide)]; exact h.1, by rw [pk_un (by decide)]; exact h.2.1, by rw [pk_un (by decide)]; exact h.2.2.1, by rw [pk_un (by decide)]; exact h.2.2.2.1, by rw [pk_un (by decide)]; exact h.2.2.2.2.1, by rw [pk_us]; exact (b2_t (Or.inl (icu_ne hc))).symm, hJ⟩
set_option maxRecDepth 20000 in
theorem c_tl_readIce (d : Nat) (M : Mm) (T : Nat → Nat) (L mo p ta : Nat) (hR : RdL M T L mo p ta) (δ : Nat → Nat) (ν : Nat → Int64) (o : Nat) (ic : Int64) (hD : CD M δ ν) (hC : CF M δ o ic) (hδ : DW δ) (ho5 : o < 32) (hk : tKd T L mo p = 11) : Wn (d + 4) 232 (PRc M T L mo (rdIc T L mo p δ ν o ic)) (0, lv_args 0 [.ref 78], [], M) := by
  have hF := fr_rf [16, 17, 18, 20, 21, 22, 77, 78] M
  obtain ⟨g, ht⟩ : ∃ g, M.1 78 = g := ⟨_, rfl⟩
  obtain ⟨j, hj⟩ : ∃ j, M.2.1 78 = j := ⟨_, rfl⟩
  obtain ⟨gl, hl⟩ : ∃ g, M.1 16 = g := ⟨_, rfl⟩
  obtain ⟨J, hJ⟩ : ∃ g, M.2.1 17 = g := ⟨_, rfl⟩
  obtain ⟨lo, hlo⟩ : ∃ g, M.1 18 = g := ⟨_, rfl⟩
  obtain ⟨ice, hi⟩ : ∃ g, M.1 20 = g := ⟨_, rfl⟩
  obtain ⟨at_, ha⟩ : ∃ g, M.1 21 = g := ⟨_, rfl⟩
  obtain ⟨te, hte⟩ : ∃ g, M.1 22 = g := ⟨_, rfl⟩
  obtain ⟨f19, h19⟩ : ∃ g, M.1 19 = g := ⟨_, rfl⟩
  obtain ⟨pr, h23⟩ : ∃ g, M.1 23 = g := ⟨_, rfl⟩
  have hd : CDf gl J lo ice at_ te f19 pr δ ν := by rw [← hl, ← hJ, ← hlo, ← hi, ← ha, ← hte, ← h19, ← h23]; exact hD
  have hf : CFf g (j 8) δ o ic := by rw [← ht, ← hj]; exact hC
  obtain ⟨b0, b1, b2_9, bq, bc⟩ := id hδ.1
  refine Wn.run (tab := tb_tl_readIce) rfl 6 (c' := (if (M.1 16 2) ≤ 0 then 18 else 14, [(0, .ref 78)], [.ref 78], M)) (o := [shp 78 = (0, 6), shp 15 = (0, 8), shp 16 = (0, 2)]) rfl ⟨rfl, rfl, rfl⟩ ?_
  refine Wn.br (fun h1 => ?_) (fun h1 => ?_)
  · show Wn _ 232 _ (18, [(0, .ref 78)], [.ref 78], M)
    have h1 := (n_le (fr_eq hl (show gl 2 = (nI (δ 2)) from (hd.1 2 (by decide)))) nI_0.symm (by omega) (by omega)).mp h1
    refine Wn.run (tab := tb_tl_readIce) rfl 1 (c' := (19, [(0, .ref 78)], [.int (nI 0), .ref 78], M)) (o := []) rfl trivial ?_
    refine Wn.callV (p := 78) (n := 2) (ix := 95) (ci := (6)) (PLv M T L mo (tNx T L p) (tAt T L mo p) (some (.int (nI 1)))) [.int (nI 0)] [] rfl rfl rfl rfl (Nat.le_of_ble_eq_true rfl) (Nat.le_of_ble_eq_true rfl) (c_tl_takeOnce_ok _ M T L mo p ta hR (by omega) (by omega)) ?_
    rintro _ M1 ⟨rfl, hq2, hF3⟩
    show Wn _ 232 _ (22, [(0, .ref 78)], [.int (nI 1)], M1)
    have hk4 := frI_fun hF3 (by decide) ht
    have hk5 := frJ_fun hF3 (by decide) hj
    have hk6 := frI_fun hF3 (by decide) hl
    have hk7 := frJ_fun hF3 (by decide) hJ
    have hk8 := frI_fun hF3 (by decide) hlo
    have hk9 := frI_fun hF3 (by decide) hi
    have hk10 := frI_fun hF3 (by decide) ha
    have hk11 := frI_fun hF3 (by decide) hte
    have hk12 := frI_fun hF3 (by decide) h19
    have hk13 := frI_fun hF3 (by decide) h23
    have hF14 := fr_tr hF hF3 (by decide)
    refine Wn.run (tab := tb_tl_readIce) rfl 2 (c' := (24, [(0, .ref 78)], [.ref 78], M1)) (o := []) rfl trivial ?_
    cases hc1 : tkN T L mo (tNx T L p) 0 (δ 0 - 1) with
    | inl f1 =>
      refine Wn.callV (p := 78) (n := 1) (ix := 152) (ci := (6)) (PCe M1 g 0 (fun M9 => RdD M9 f1.1 f1.2)) [] [] rfl rfl rfl rfl (Nat.le_of_ble_eq_true rfl) (Nat.le_of_ble_eq_true rfl) (c_tl_takeCell_e1 _ M1 T L mo (tNx T L p) (tAt T L mo p) hq2 g gl hk4 hk6 (δ 0) (δ 1) (show gl 0 = (nI (δ 0)) from (hd.1 0 (by decide))) (show gl 1 = (nI (δ 1)) from (hd.1 1 (by decide))) b0 b1 f1 hc1) ?_
      rintro _ M19 ⟨rfl, hK15, hg16, hj17, hF18⟩
      show Wn _ 232 _ (27, [(0, .ref 78)], [.int (nI 0)], M19)
      have hq20 : RdD M19 f1.1 f1.2 := hK15
      have hj21 := hj17.trans hk5
      have hk22 := frI_fun hF18 (by decide) hk6
      have hk23 := frJ_fun hF18 (by decide) hk7
      have hk24 := frI_fun hF18 (by decide) hk8
      have hk25 := frI_fun hF18 (by decide) hk9
      have hk26 := frI_fun hF18 (by decide) hk10
      have hk27 := frI_fun hF18 (by decide) hk11
      have hk28 := frI_fun hF18 (by decide) hk12
      have hk29 := frI_fun hF18 (by decide) hk13
      have hF30 := fr_tr hF14 hF18 (by decide)
      refine Wn.run (tab := tb_tl_readIce) rfl 10 (c' := (if (lg_cmp ((((M19.2.1 78 8)).toUInt64 >>> (((nI 0)).toInt64.toUInt64 &&& Int64.toUInt64 63)).toInt64 &&& (1 : Int64)) (0 : Int64)) = 0 then 49 else 41, [(1, .int (nI 0)), (0, .ref 78)], [], M19)) (o := [shp 78 = (0, 6)]) rfl rfl ?_
      refine Wn.br (fun h2 => ?_) (fun h2 => ?_)
      · show Wn _ 232 _ (49, [(1, .int (nI 0)), (0, .ref 78)], [], M19)
        rw [show (M19.2.1 78 8) = ic from (fr_eq hj21 (show j 8 = ic from hf.2.2.2.2.2.2))] at h2
        have h2 : ¬ ((ic >>> ((nI 0).toInt64 &&& 63)) &&& 1 = 1) := (bit64 (by omega)).mp ((lg_cmp_eq _ _).mp h2)
        refine Wn.run (tab := tb_tl_readIce) rfl 8 (c' := (61, [(1, .int (nI 0)), (0, .ref 78)], [], (mJ M19 78 (vp_updL (M19.2.1 78) 8 ((M19.2.1 78 8) ||| ((1 : Int64) <<< (((nI 0)).toInt64 &&& 63))))))) (o := [shp 78 = (0, 6), shp 78 = (0, 6)]) rfl ⟨rfl, rfl⟩ ?_
        rw [show (M19.2.1 78 8) = ic from (fr_eq hj21 (show j 8 = ic from hf.2.2.2.2.2.2))]
        generalize hM32 : (mJ M19 78 (vp_updL (M19.2.1 78) 8 (ic ||| ((1 : Int64) <<< (((nI 0)).toInt64 &&& 63))))) = M31
        have hq33 := RdD_fr (fr_1J hM32) (by decide) hq20
        have hk34 := fI_oJ hM32 hg16
        have hk35 := fJ_up hM32 hj21
        have hk36 := fI_oJ hM32 hk22
        have hk37 := fJ_ne hM32 (by decide) hk23
        have hk38 := fI_oJ hM32 hk24
        have hk39 := fI_oJ hM32 hk25
        have hk40 := fI_oJ hM32 hk26
        have hk41 := fI_oJ hM32 hk27
        have hk42 := fI_oJ hM32 hk28
        have hk43 := fI_oJ hM32 hk29
        have hF44 := fr_sJ hF30 hM32 (by decide)
        show Wn _ 232 _ (61, [(1, .int (nI 0)), (0, .ref 78)], [], M31)
        refine Wn.run (tab := tb_tl_readIce) rfl 9 (c' := (79, [(1, .int (nI 0)), (0, .ref 78)], [.int (nI 9), .int (nI 0), .ref 77, .int (nI 0), .ref 20], M31)) (o := [shp 78 = (0, 6), shp 15 = (0, 8), shp 19 = (0, 5), shp 78 = (0, 6)]) rfl ⟨rfl, rfl, rfl, rfl⟩ ?_
        refine Wn.callV (p := 77) (n := 3) (ix := 99) (ci := (3)) (fun r0 M9 => r0 = some (.int (nI 0)) ∧ M9 = M31) [.int (nI 0), .int (nI 9)] [.int (nI 0), .ref 20] rfl rfl rfl rfl (Nat.le_of_ble_eq_true rfl) (Nat.le_of_ble_eq_true rfl) (c_rd_takeNumberD _ M31 f1.1 f1.2 hq33 (nI 0) (nI 9)) ?_
        rintro _ M9 ⟨rfl, hsm⟩
        obtain rfl := hsm.symm
        show Wn _ 232 _ (82, [(1, .int (nI 0)), (0, .ref 78)], [.int (nI 0), .int (nI 0), .ref 20], M31)
        refine Wn.run (tab := tb_tl_readIce) rfl 1 (c' := (83, [(1, .int (nI 0)), (0, .ref 78)], [], (mI M31 20 (upd (M31.1 20) 0 (nI 0))))) (o := [aok shp 20 0 (nI 0)]) rfl ⟨rfl, vp_in_nI (by decide) (by decide)⟩ ?_
        generalize hM46 : (mI M31 20 (upd (M31.1 20) 0 (nI 0))) = M45
        have hq47 := RdD_fr (fr_1I hM46) (by decide) hq33
        have hk48 := fI_ne hM46 (by decide) hk34
        have hk49 := fJ_oI hM46 hk35
        have hk50 := fI_ne hM46 (by decide) hk36
        have hk51 := fJ_oI hM46 hk37
        have hk52 := fI_ne hM46 (by decide) hk38
        have hk53 := fI_up hM46 hk39
        have hk54 := fI_ne hM46 (by decide) hk40
        have hk55 := fI_ne hM46 (by decide) hk41
        have hk56 := fI_ne hM46 (by decide) hk42
        have hk57 := fI_ne hM46 (by decide) hk43
        have hF58 := fr_sI hF44 hM46 (by decide)
        show Wn _ 232 _ (83, [(1, .int (nI 0)), (0, .ref 78)], [], M45)
        have e9 : rdIc T L mo p δ ν o ic = .inl f1 := by unfold rdIc; rw [if_neg (by omega)]; simp only [hc1]
        rw [e9]
        exact Wn.vret rfl ⟨rfl, hF58, hq47⟩
      · show Wn _ 232 _ (41, [(1, .int (nI 0)), (0, .ref 78)], [], M19)
        rw [show (M19.2.1 78 8) = ic from (fr_eq hj21 (show j 8 = ic from hf.2.2.2.2.2.2))] at h2
        have h2 : ((ic >>> ((nI 0).toInt64 &&& 63)) &&& 1 = 1) := Classical.not_not.mp (mt (bit64 (by omega)).mpr (mt (lg_cmp_eq _ _).mpr h2))
        refine Wn.run (tab := tb_tl_readIce) rfl 3 (c' := (46, [(1, .int (nI 0)), (0, .ref 78)], [.int (nI 3), .ref 77], M19)) (o := [shp 78 = (0, 6)]) rfl rfl ?_
        refine Wn.callV (p := 77) (n := 2) (ix := 155) (ci := (3)) (fun r0 M9 => r0 = none ∧ M9 = M19) [.int (nI 3)] [] rfl rfl rfl rfl (Nat.le_of_ble_eq_true rfl) (Nat.le_of_ble_eq_true rfl) (c_rd_failTakenD _ M19 f1.1 f1.2 hq20 (nI 3)) ?_
        rintro _ M9 ⟨rfl, hsm⟩
        obtain rfl := hsm.symm
        show Wn _ 232 _ (49, [(1, .int (nI 0)), (0, .ref 78)], [], M19)
        refine Wn.run (tab := tb_tl_readIce) rfl 8 (c' := (61, [(1, .int (nI 0)), (0, .ref 78)], [], (mJ M19 78 (vp_updL (M19.2.1 78) 8 ((M19.2.1 78 8) ||| ((1 : Int64) <<< (((nI 0)).toInt64 &&& 63))))))) (o := [shp 78 = (0, 6), shp 78 = (0, 6)]) rfl ⟨rfl, rfl⟩ ?_
        rw [show (M19.2.1 78 8) = ic from (fr_eq hj21 (show j 8 = ic from hf.2.2.2.2.2.2))]
        generalize hM60 : (mJ M19 78 (vp_updL (M19.2.1 78) 8 (ic ||| ((1 : Int64) <<< (((nI 0)).toInt64 &&& 63))))) = M59
        have hq61 := RdD_fr (fr_1J hM60) (by decide) hq20
        have hk62 := fI_oJ hM60 hg16
        have hk63 := fJ_up hM60 hj21
        have hk64 := fI_oJ hM60 hk22
        have hk65 := fJ_ne hM60 (by decide) hk23
        have hk66 := fI_oJ hM60 hk24
        have hk67 := fI_oJ hM60 hk25
        have hk68 := fI_oJ hM60 hk26
        have hk69 := fI_oJ hM60 hk27
        have hk70 := fI_oJ hM60 hk28
        have hk71 := fI_oJ hM60 hk29
        have hF72 := fr_sJ hF30 hM60 (by decide)
        show Wn _ 232 _ (61, [(1, .int (nI 0)), (0, .ref 78)], [], M59)
        refine Wn.run (tab := tb_tl_readIce) rfl 9 (c' := (79, [(1, .int (nI 0)), (0, .ref 78)], [.int (nI 9), .int (nI 0), .ref 77, .int (nI 0), .ref 20], M59)) (o := [shp 78 = (0, 6), shp 15 = (0, 8), shp 19 = (0, 5), shp 78 = (0, 6)]) rfl ⟨rfl, rfl, rfl, rfl⟩ ?_
        refine Wn.callV (p := 77) (n := 3) (ix := 99) (ci := (3)) (fun r0 M9 => r0 = some (.int (nI 0)) ∧ M9 = M59) [.int (nI 0), .int (nI 9)] [.int (nI 0), .ref 20] rfl rfl rfl rfl (Nat.le_of_ble_eq_true rfl) (Nat.le_of_ble_eq_true rfl) (c_rd_takeNumberD _ M59 f1.1 f1.2 hq61 (nI 0) (nI 9)) ?_
        rintro _ M9 ⟨rfl, hsm⟩
        obtain rfl := hsm.symm
        show Wn _ 232 _ (82, [(1, .int (nI 0)), (0, .ref 78)], [.int (nI 0), .int (nI 0), .ref 20], M59)
        refine Wn.run (tab := tb_tl_readIce) rfl 1 (c' := (83, [(1, .int (nI 0)), (0, .ref 78)], [], (mI M59 20 (upd (M59.1 20) 0 (nI 0))))) (o := [aok shp 20 0 (nI 0)]) rfl ⟨rfl, vp_in_nI (by decide) (by decide)⟩ ?_
        generalize hM74 : (mI M59 20 (upd (M59.1 20) 0 (nI 0))) = M73
        have hq75 := RdD_fr (fr_1I hM74) (by decide) hq61
        have hk76 := fI_ne hM74 (by decide) hk62
        have hk77 := fJ_oI hM74 hk63
        have hk78 := fI_ne hM74 (by decide) hk64
        have hk79 := fJ_oI hM74 hk65
        have hk80 := fI_ne hM74 (by decide) hk66
        have hk81 := fI_up hM74 hk67
        have hk82 := fI_ne hM74 (by decide) hk68
        have hk83 := fI_ne hM74 (by decide) hk69
        have hk84 := fI_ne hM74 (by decide) hk70
        have hk85 := fI_ne hM74 (by decide) hk71
        have hF86 := fr_sI hF72 hM74 (by decide)
        show Wn _ 232 _ (83, [(1, .int (nI 0)), (0, .ref 78)], [], M73)
        have e9 : rdIc T L mo p δ ν o ic = .inl f1 := by unfold rdIc; rw [if_neg (by omega)]; simp only [hc1]
        rw [e9]
        exact Wn.vret rfl ⟨rfl, hF86, hq75⟩
    | inr v1 =>
      obtain ⟨x1, p1⟩ := v1
      have bd1 : 0 ≤ x1 ∧ x1 ≤ δ 0 - 1 := by obtain ⟨q1, q2, q3⟩ := tkN_inr hc1; cases q3; exact q2
      cases hc2 : tkN T L mo p1 0 (δ 1 - 1) with
      | inl f2 =>
        refine Wn.callV (p := 78) (n := 1) (ix := 152) (ci := (6)) (PCe M1 g x1 (fun M9 => RdD M9 f2.1 f2.2)) [] [] rfl rfl rfl rfl (Nat.le_of_ble_eq_true rfl) (Nat.le_of_ble_eq_true rfl) (c_tl_takeCell_e2 _ M1 T L mo (tNx T L p) (tAt T L mo p) hq2 g gl hk4 hk6 (δ 0) (δ 1) (show gl 0 = (nI (δ 0)) from (hd.1 0 (by decide))) (show gl 1 = (nI (δ 1)) from (hd.1 1 (by decide))) b0 b1 x1 p1 hc1 (by omega) f2 hc2) ?_
        rintro _ M91 ⟨rfl, hK87, hg88, hj89, hF90⟩
        show Wn _ 232 _ (27, [(0, .ref 78)], [.int (nI x1)], M91)
        have hq92 : RdD M91 f2.1 f2.2 := hK87
        have hj93 := hj89.trans hk5
        have hk94 := frI_fun hF90 (by decide) hk6
        have hk95 := frJ_fun hF90 (by decide) hk7
        have hk96 := frI_fun hF90 (by decide) hk8
        have hk97 := frI_fun hF90 (by decide) hk9
        have hk98 := frI_fun hF90 (by decide) hk10
        have hk99 := frI_fun hF90 (by decide) hk11
        have hk100 := frI_fun hF90 (by decide) hk12
        have hk101 := frI_fun hF90 (by decide) hk13
        have hF102 := fr_tr hF14 hF90 (by decide)
        refine Wn.run (tab := tb_tl_readIce) rfl 10 (c' := (if (lg_cmp ((((M91.2.1 78 8)).toUInt64 >>> (((nI x1)).toInt64.toUInt64 &&& Int64.toUInt64 63)).toInt64 &&& (1 : Int64)) (0 : Int64)) = 0 then 49 else 41, [(1, .int (nI x1)), (0, .ref 78)], [], M91)) (o := [shp 78 = (0, 6)]) rfl rfl ?_
        refine Wn.br (fun h3 => ?_) (fun h3 => ?_)
        · show Wn _ 232 _ (49, [(1, .int (nI x1)), (0, .ref 78)], [], M91)
          rw [show (M91.2.1 78 8) = ic from (fr_eq hj93 (show j 8 = ic from hf.2.2.2.2.2.2))] at h3
          have h3 : ¬ ((ic >>> ((nI x1).toInt64 &&& 63)) &&& 1 = 1) := (bit64 (by omega)).mp ((lg_cmp_eq _ _).mp h3)
          refine Wn.run (tab := tb_tl_readIce) rfl 8 (c' := (61, [(1, .int (nI x1)), (0, .ref 78)], [], (mJ M91 78 (vp_updL (M91.2.1 78) 8 ((M91.2.1 78 8) ||| ((1 : Int64) <<< (((nI x1)).toInt64 &&& 63))))))) (o := [shp 78 = (0, 6), shp 78 = (0, 6)]) rfl ⟨rfl, rfl⟩ ?_
          rw [show (M91.2.1 78 8) = ic from (fr_eq hj93 (show j 8 = ic from hf.2.2.2.2.2.2))]
          generalize hM104 : (mJ M91 78 (vp_updL (M91.2.1 78) 8 (ic ||| ((1 : Int64) <<< (((nI x1)).toInt64 &&& 63))))) = M103
          have hq105 := RdD_fr (fr_1J hM104) (by decide) hq92
          have hk106 := fI_oJ hM104 hg88
          have hk107 := fJ_up hM104 hj93
          have hk108 := fI_oJ hM104 hk94
          have hk109 := fJ_ne hM104 (by decide) hk95
          have hk110 := fI_oJ hM104 hk96
          have hk111 := fI_oJ hM104 hk97
          have hk112 := fI_oJ hM104 hk98
          have hk113 := fI_oJ hM104 hk99
          have hk114 := fI_oJ hM104 hk100
          have hk115 := fI_oJ hM104 hk101
          have hF116 := fr_sJ hF102 hM104 (by decide)
          show Wn _ 232 _ (61, [(1, .int (nI x1)), (0, .ref 78)], [], M103)
          refine Wn.run (tab := tb_tl_readIce) rfl 9 (c' := (79, [(1, .int (nI x1)), (0, .ref 78)], [.int (nI 9), .int (nI 0), .ref 77, .int (nI x1), .ref 20], M103)) (o := [shp 78 = (0, 6), shp 15 = (0, 8), shp 19 = (0, 5), shp 78 = (0, 6)]) rfl ⟨rfl, rfl, rfl, rfl⟩ ?_
          refine Wn.callV (p := 77) (n := 3) (ix := 99) (ci := (3)) (fun r0 M9 => r0 = some (.int (nI 0)) ∧ M9 = M103) [.int (nI 0), .int (nI 9)] [.int (nI x1), .ref 20] rfl rfl rfl rfl (Nat.le_of_ble_eq_true rfl) (Nat.le_of_ble_eq_true rfl) (c_rd_takeNumberD _ M103 f2.1 f2.2 hq105 (nI 0) (nI 9)) ?_
          rintro _ M9 ⟨rfl, hsm⟩
          obtain rfl := hsm.symm
          show Wn _ 232 _ (82, [(1, .int (nI x1)), (0, .ref 78)], [.int (nI 0), .int (nI x1), .ref 20], M103)
          refine Wn.run (tab := tb_tl_readIce) rfl 1 (c' := (83, [(1, .int (nI x1)), (0, .ref 78)], [], (mI M103 20 (upd (M103.1 20) ((nI x1)).toNatClampNeg (nI 0))))) (o := [aok shp 20 0 (nI x1)]) rfl (ak1 (n := 64) rfl rfl rfl (by omega)) ?_
          generalize hM118 : (mI M103 20 (upd (M103.1 20) ((nI x1)).toNatClampNeg (nI 0))) = M117
          have hq119 := RdD_fr (fr_1I hM118) (by decide) hq105
          have hk120 := fI_ne hM118 (by decide) hk106
          have hk121 := fJ_oI hM118 hk107
          have hk122 := fI_ne hM118 (by decide) hk108
          have hk123 := fJ_oI hM118 hk109
          have hk124 := fI_ne hM118 (by decide) hk110
          have hk125 := fI_upx hM118 hk111 (cl1 rfl (by omega))
          have hk126 := fI_ne hM118 (by decide) hk112
          have hk127 := fI_ne hM118 (by decide) hk113
          have hk128 := fI_ne hM118 (by decide) hk114
          have hk129 := fI_ne hM118 (by decide) hk115
          have hF130 := fr_sI hF116 hM118 (by decide)
          show Wn _ 232 _ (83, [(1, .int (nI x1)), (0, .ref 78)], [], M117)
          have e9 : rdIc T L mo p δ ν o ic = .inl f2 := by unfold rdIc; rw [if_neg (by omega)]; simp only [hc1, hc2]
          rw [e9]
          exact Wn.vret rfl ⟨rfl, hF130, hq119⟩
        · show Wn _ 232 _ (41, [(1, .int (nI x1)), (0, .ref 78)], [], M91)
          rw [show (M91.2.1 78 8) = ic from (fr_eq hj93 (show j 8 = ic from hf.2.2.2.2.2.2))] at h3
          have h3 : ((ic >>> ((nI x1).toInt64 &&& 63)) &&& 1 = 1) := Classical.not_not.mp (mt (bit64 (by omega)).mpr (mt (lg_cmp_eq _ _).mpr h3))
          refine Wn.run (tab := tb_tl_readIce) rfl 3 (c' := (46, [(1, .int (nI x1)), (0, .ref 78)], [.int (nI 3), .ref 77], M91)) (o := [shp 78 = (0, 6)]) rfl rfl ?_
          refine Wn.callV (p := 77) (n := 2) (ix := 155) (ci := (3)) (fun r0 M9 => r0 = none ∧ M9 = M91) [.int (nI 3)] [] rfl rfl rfl rfl (Nat.le_of_ble_eq_true rfl) (Nat.le_of_ble_eq_true rfl) (c_rd_failTakenD _ M91 f2.1 f2.2 hq92 (nI 3)) ?_
          rintro _ M9 ⟨rfl, hsm⟩
          obtain rfl := hsm.symm
          show Wn _ 232 _ (49, [(1, .int (nI x1)), (0, .ref 78)], [], M91)
          refine Wn.run (tab := tb_tl_readIce) rfl 8 (c' := (61, [(1, .int (nI x1)), (0, .ref 78)], [], (mJ M91 78 (vp_updL (M91.2.1 78) 8 ((M91.2.1 78 8) ||| ((1 : Int64) <<< (((nI x1)).toInt64 &&& 63))))))) (o := [shp 78 = (0, 6), shp 78 = (0, 6)]) rfl ⟨rfl, rfl⟩ ?_
          rw [show (M91.2.1 78 8) = ic from (fr_eq hj93 (show j 8 = ic from hf.2.2.2.2.2.2))]
          generalize hM132 : (mJ M91 78 (vp_updL (M91.2.1 78) 8 (ic ||| ((1 : Int64) <<< (((nI x1)).toInt64 &&& 63))))) = M131
          have hq133 := RdD_fr (fr_1J hM132) (by decide) hq92
          have hk134 := fI_oJ hM132 hg88
          have hk135 := fJ_up hM132 hj93
          have hk136 := fI_oJ hM132 hk94
          have hk137 := fJ_ne hM132 (by decide) hk95
          have hk138 := fI_oJ hM132 hk96
          have hk139 := fI_oJ hM132 hk97
          have hk140 := fI_oJ hM132 hk98
          have hk141 := fI_oJ hM132 hk99
          have hk142 := fI_oJ hM132 hk100
          have hk143 := fI_oJ hM132 hk101
          have hF144 := fr_sJ hF102 hM132 (by decide)
          show Wn _ 232 _ (61, [(1, .int (nI x1)), (0, .ref 78)], [], M131)
          refine Wn.run (tab := tb_tl_readIce) rfl 9 (c' := (79, [(1, .int (nI x1)), (0, .ref 78)], [.int (nI 9), .int (nI 0), .ref 77, .int (nI x1), .ref 20], M131)) (o := [shp 78 = (0, 6), shp 15 = (0, 8), shp 19 = (0, 5), shp 78 = (0, 6)]) rfl ⟨rfl, rfl, rfl, rfl⟩ ?_
          refine Wn.callV (p := 77) (n := 3) (ix := 99) (ci := (3)) (fun r0 M9 => r0 = some (.int (nI 0)) ∧ M9 = M131) [.int (nI 0), .int (nI 9)] [.int (nI x1), .ref 20] rfl rfl rfl rfl (Nat.le_of_ble_eq_true rfl) (Nat.le_of_ble_eq_true rfl) (c_rd_takeNumberD _ M131 f2.1 f2.2 hq133 (nI 0) (nI 9)) ?_
          rintro _ M9 ⟨rfl, hsm⟩
          obtain rfl := hsm.symm
          show Wn _ 232 _ (82, [(1, .int (nI x1)), (0, .ref 78)], [.int (nI 0), .int (nI x1), .ref 20], M131)
          refine Wn.run (tab := tb_tl_readIce) rfl 1 (c' := (83, [(1, .int (nI x1)), (0, .ref 78)], [], (mI M131 20 (upd (M131.1 20) ((nI x1)).toNatClampNeg (nI 0))))) (o := [aok shp 20 0 (nI x1)]) rfl (ak1 (n := 64) rfl rfl rfl (by omega)) ?_
          generalize hM146 : (mI M131 20 (upd (M131.1 20) ((nI x1)).toNatClampNeg (nI 0))) = M145
          have hq147 := RdD_fr (fr_1I hM146) (by decide) hq133
          have hk148 := fI_ne hM146 (by decide) hk134
          have hk149 := fJ_oI hM146 hk135
          have hk150 := fI_ne hM146 (by decide) hk136
          have hk151 := fJ_oI hM146 hk137
          have hk152 := fI_ne hM146 (by decide) hk138
          have hk153 := fI_upx hM146 hk139 (cl1 rfl (by omega))
          have hk154 := fI_ne hM146 (by decide) hk140
          have hk155 := fI_ne hM146 (by decide) hk141
          have hk156 := fI_ne hM146 (by decide) hk142
          have hk157 := fI_ne hM146 (by decide) hk143
          have hF158 := fr_sI hF144 hM146 (by decide)
          show Wn _ 232 _ (83, [(1, .int (nI x1)), (0, .ref 78)], [], M145)
          have e9 : rdIc T L mo p δ ν o ic = .inl f2 := by unfold rdIc; rw [if_neg (by omega)]; simp only [hc1, hc2]
          rw [e9]
          exact Wn.vret rfl ⟨rfl, hF158, hq147⟩
      | inr v2 =>
        obtain ⟨x2, p2⟩ := v2
        have bd2 : 0 ≤ x2 ∧ x2 ≤ δ 1 - 1 := by obtain ⟨q1, q2, q3⟩ := tkN_inr hc2; cases q3; exact q2
        refine Wn.callV (p := 78) (n := 1) (ix := 152) (ci := (6)) (PCe M1 g (8 * x2 + x1) (fun M9 => RdL M9 T L mo p2 (tAt T L mo p1))) [] [] rfl rfl rfl rfl (Nat.le_of_ble_eq_true rfl) (Nat.le_of_ble_eq_true rfl) (c_tl_takeCell_ok _ M1 T L mo (tNx T L p) (tAt T L mo p) hq2 g gl hk4 hk6 (δ 0) (δ 1) (show gl 0 = (nI (δ 0)) from (hd.1 0 (by decide))) (show gl 1 = (nI (δ 1)) from (hd.1 1 (by decide))) b0 b1 x1 p1 hc1 (by omega) x2 p2 hc2 (by omega)) ?_
        rintro _ M163 ⟨rfl, hK159, hg160, hj161, hF162⟩
        show Wn _ 232 _ (27, [(0, .ref 78)], [.int (nI (8 * x2 + x1))], M163)
        have hq164 : RdL M163 T L mo p2 (tAt T L mo p1) := hK159
        have hj165 := hj161.trans hk5
        have hk166 := frI_fun hF162 (by decide) hk6
        have hk167 := frJ_fun hF162 (by decide) hk7
        have hk168 := frI_fun hF162 (by decide) hk8
        have hk169 := frI_fun hF162 (by decide) hk9
        have hk170 := frI_fun hF162 (by decide) hk10
        have hk171 := frI_fun hF162 (by decide) hk11
        have hk172 := frI_fun hF162 (by decide) hk12
        have hk173 := frI_fun hF162 (by decide) hk13
        have hF174 := fr_tr hF14 hF162 (by decide)
        refine Wn.run (tab := tb_tl_readIce) rfl 10 (c' := (if (lg_cmp ((((M163.2.1 78 8)).toUInt64 >>> (((nI (8 * x2 + x1))).toInt64.toUInt64 &&& Int64.toUInt64 63)).toInt64 &&& (1 : Int64)) (0 : Int64)) = 0 then 49 else 41, [(1, .int (nI (8 * x2 + x1))), (0, .ref 78)], [], M163)) (o := [shp 78 = (0, 6)]) rfl rfl ?_
        refine Wn.br (fun h4 => ?_) (fun h4 => ?_)
        · show Wn _ 232 _ (49, [(1, .int (nI (8 * x2 + x1))), (0, .ref 78)], [], M163)
          rw [show (M163.2.1 78 8) = ic from (fr_eq hj165 (show j 8 = ic from hf.2.2.2.2.2.2))] at h4
          have h4 : ¬ ((ic >>> ((nI (8 * x2 + x1)).toInt64 &&& 63)) &&& 1 = 1) := (bit64 (by omega)).mp ((lg_cmp_eq _ _).mp h4)
          refine Wn.run (tab := tb_tl_readIce) rfl 8 (c' := (61, [(1, .int (nI (8 * x2 + x1))), (0, .ref 78)], [], (mJ M163 78 (vp_updL (M163.2.1 78) 8 ((M163.2.1 78 8) ||| ((1 : Int64) <<< (((nI (8 * x2 + x1))).toInt64 &&& 63))))))) (o := [shp 78 = (0, 6), shp 78 = (0, 6)]) rfl ⟨rfl, rfl⟩ ?_
          rw [show (M163.2.1 78 8) = ic from (fr_eq hj165 (show j 8 = ic from hf.2.2.2.2.2.2))]
          generalize hM176 : (mJ M163 78 (vp_updL (M163.2.1 78) 8 (ic ||| ((1 : Int64) <<< (((nI (8 * x2 + x1))).toInt64 &&& 63))))) = M175
          have hq177 := RdL_fr (fr_1J hM176) (by decide) hq164
          have hk178 := fI_oJ hM176 hg160
          have hk179 := fJ_up hM176 hj165
          have hk180 := fI_oJ hM176 hk166
          have hk181 := fJ_ne hM176 (by decide) hk167
          have hk182 := fI_oJ hM176 hk168
          have hk183 := fI_oJ hM176 hk169
          have hk184 := fI_oJ hM176 hk170
          have hk185 := fI_oJ hM176 hk171
          have hk186 := fI_oJ hM176 hk172
          have hk187 := fI_oJ hM176 hk173
          have hF188 := fr_sJ hF174 hM176 (by decide)
          show Wn _ 232 _ (61, [(1, .int (nI (8 * x2 + x1))), (0, .ref 78)], [], M175)
          refine Wn.run (tab := tb_tl_readIce) rfl 9 (c' := (79, [(1, .int (nI (8 * x2 + x1))), (0, .ref 78)], [.int (nI 9), .int (nI 0), .ref 77, .int (nI (8 * x2 + x1)), .ref 20], M175)) (o := [shp 78 = (0, 6), shp 15 = (0, 8), shp 19 = (0, 5), shp 78 = (0, 6)]) rfl ⟨rfl, rfl, rfl, rfl⟩ ?_
          cases hc3 : tkN T L mo p2 0 9 with
          | inl f3 =>
            refine Wn.callV (p := 77) (n := 3) (ix := 99) (ci := (3)) (PFl M175 f3.1 f3.2 (some (.int (nI 0)))) [.int (nI 0), .int (nI 9)] [.int (nI (8 * x2 + x1)), .ref 20] rfl rfl rfl rfl (Nat.le_of_ble_eq_true rfl) (Nat.le_of_ble_eq_true rfl) (c_rd_takeE _ M175 T L mo p2 (tAt T L mo p1) hq177 0 9 (by omega) (by omega) f3 hc3) ?_
            rintro _ M189 ⟨rfl, hq190, hF191⟩
            show Wn _ 232 _ (82, [(1, .int (nI (8 * x2 + x1))), (0, .ref 78)], [.int (nI 0), .int (nI (8 * x2 + x1)), .ref 20], M189)
            have hk192 := frI_fun hF191 (by decide) hk178
            have hk193 := frJ_fun hF191 (by decide) hk179
            have hk194 := frI_fun hF191 (by decide) hk180
            have hk195 := frJ_fun hF191 (by decide) hk181
            have hk196 := frI_fun hF191 (by decide) hk182
            have hk197 := frI_fun hF191 (by decide) hk183
            have hk198 := frI_fun hF191 (by decide) hk184
            have hk199 := frI_fun hF191 (by decide) hk185
            have hk200 := frI_fun hF191 (by decide) hk186
            have hk201 := frI_fun hF191 (by decide) hk187
            have hF202 := fr_tr hF188 hF191 (by decide)
            refine Wn.run (tab := tb_tl_readIce) rfl 1 (c' := (83, [(1, .int (nI (8 * x2 + x1))), (0, .ref 78)], [], (mI M189 20 (upd (M189.1 20) ((nI (8 * x2 + x1))).toNatClampNeg (nI 0))))) (o := [aok shp 20 0 (nI (8 * x2 + x1))]) rfl (ak1 (n := 64) rfl rfl rfl (by omega)) ?_
            generalize hM204 : (mI M189 20 (upd (M189.1 20) ((nI (8 * x2 + x1))).toNatClampNeg (nI 0))) = M203
            have hq205 := RdD_fr (fr_1I hM204) (by decide) hq190
            have hk206 := fI_ne hM204 (by decide) hk192
            have hk207 := fJ_oI hM204 hk193
            have hk208 := fI_ne hM204 (by decide) hk194
            have hk209 := fJ_oI hM204 hk195
            have hk210 := fI_ne hM204 (by decide) hk196
            have hk211 := fI_upx hM204 hk197 (cl1 rfl (by omega))
            have hk212 := fI_ne hM204 (by decide) hk198
            have hk213 := fI_ne hM204 (by decide) hk199
            have hk214 := fI_ne hM204 (by decide) hk200
            have hk215 := fI_ne hM204 (by decide) hk201
            have hF216 := fr_sI hF202 hM204 (by decide)
            show Wn _ 232 _ (83, [(1, .int (nI (8 * x2 + x1))), (0, .ref 78)], [], M203)
            have e9 : rdIc T L mo p δ ν o ic = .inl f3 := by unfold rdIc; rw [if_neg (by omega)]; simp only [hc1, hc2]; rw [if_neg h4]; simp only [hc3]
            rw [e9]
            exact Wn.vret rfl ⟨rfl, hF216, hq205⟩
          | inr v3 =>
            obtain ⟨x3, p3⟩ := v3
            have bd3 : 0 ≤ x3 ∧ x3 ≤ 9 := by obtain ⟨q1, q2, q3⟩ := tkN_inr hc3; cases q3; exact q2
            refine Wn.callV (p := 77) (n := 3) (ix := 99) (ci := (3)) (PLv M175 T L mo p3 (tAt T L mo p2) (some (.int (nI x3)))) [.int (nI 0), .int (nI 9)] [.int (nI (8 * x2 + x1)), .ref 20] rfl rfl rfl rfl (Nat.le_of_ble_eq_true rfl) (Nat.le_of_ble_eq_true rfl) (c_rd_takeV _ M175 T L mo p2 (tAt T L mo p1) hq177 0 9 (by omega) (by omega) (x3, p3) hc3) ?_
            rintro _ M217 ⟨rfl, hq218, hF219⟩
            show Wn _ 232 _ (82, [(1, .int (nI (8 * x2 + x1))), (0, .ref 78)], [.int (nI x3), .int (nI (8 * x2 + x1)), .ref 20], M217)
            have hk220 := frI_fun hF219 (by decide) hk178
            have hk221 := frJ_fun hF219 (by decide) hk179
            have hk222 := frI_fun hF219 (by decide) hk180
            have hk223 := frJ_fun hF219 (by decide) hk181
            have hk224 := frI_fun hF219 (by decide) hk182
            have hk225 := frI_fun hF219 (by decide) hk183
            have hk226 := frI_fun hF219 (by decide) hk184
            have hk227 := frI_fun hF219 (by decide) hk185
            have hk228 := frI_fun hF219 (by decide) hk186
            have hk229 := frI_fun hF219 (by decide) hk187
            have hF230 := fr_tr hF188 hF219 (by decide)
            refine Wn.run (tab := tb_tl_readIce) rfl 1 (c' := (83, [(1, .int (nI (8 * x2 + x1))), (0, .ref 78)], [], (mI M217 20 (upd (M217.1 20) ((nI (8 * x2 + x1))).toNatClampNeg (nI x3))))) (o := [aok shp 20 0 (nI (8 * x2 + x1))]) rfl (ak1 (n := 64) rfl rfl rfl (by omega)) ?_
            generalize hM232 : (mI M217 20 (upd (M217.1 20) ((nI (8 * x2 + x1))).toNatClampNeg (nI x3))) = M231
            have hq233 := RdL_fr (fr_1I hM232) (by decide) hq218
            have hk234 := fI_ne hM232 (by decide) hk220
            have hk235 := fJ_oI hM232 hk221
            have hk236 := fI_ne hM232 (by decide) hk222
            have hk237 := fJ_oI hM232 hk223
            have hk238 := fI_ne hM232 (by decide) hk224
            have hk239 := fI_upx hM232 hk225 (cl1 rfl (by omega))
            have hk240 := fI_ne hM232 (by decide) hk226
            have hk241 := fI_ne hM232 (by decide) hk227
            have hk242 := fI_ne hM232 (by decide) hk228
            have hk243 := fI_ne hM232 (by decide) hk229
            have hF244 := fr_sI hF230 hM232 (by decide)
            show Wn _ 232 _ (83, [(1, .int (nI (8 * x2 + x1))), (0, .ref 78)], [], M231)
            have e9 : rdIc T L mo p δ ν o ic = .inr (p3, su δ (8 + (8 * x2 + x1)) x3, ν, o, icu ic (8 * x2 + x1)) := by unfold rdIc; rw [if_neg (by omega)]; simp only [hc1, hc2]; rw [if_neg h4]; simp only [hc3]
            rw [e9]
            refine Wn.vret rfl ⟨rfl, hF244, ⟨_, hq233⟩, ?_, ?_⟩
            · unfold CD; rw [hk236, hk237, hk238, hk239, hk240, hk241, hk242, hk243]; exact CD_ice hd (by omega)
            · unfold CF; rw [hk234, hk235]; exact CF_ice hf (by omega) pk_uLs
        · show Wn _ 232 _ (41, [(1, .int (nI (8 * x2 + x1))), (0, .ref 78)], [], M163)
          rw [show (M163.2.1 78 8) = ic from (fr_eq hj165 (show j 8 = ic from hf.2.2.2.2.2.2))] at h4
          have h4 : ((ic >>> ((nI (8 * x2 + x1)).toInt64 &&& 63)) &&& 1 = 1) := Classical.not_not.mp (mt (bit64 (by omega)).mpr (mt (lg_cmp_eq _ _).mpr h4))
          refine Wn.run (tab := tb_tl_readIce) rfl 3 (c' := (46, [(1, .int (nI (8 * x2 + x1))), (0, .ref 78)], [.int (nI 3), .ref 77], M163)) (o := [shp 78 = (0, 6)]) rfl rfl ?_
          refine Wn.callV (p := 77) (n := 2) (ix := 155) (ci := (3)) (PFl M163 3 (tAt T L mo p1) none) [.int (nI 3)] [] rfl rfl rfl rfl (Nat.le_of_ble_eq_true rfl) (Nat.le_of_ble_eq_true rfl) (c_rd_failTaken _ M163 T L mo p2 (tAt T L mo p1) hq164.1 3 (by omega)) ?_
          rintro _ M245 ⟨rfl, hd246, hF247⟩
          show Wn _ 232 _ (49, [(1, .int (nI (8 * x2 + x1))), (0, .ref 78)], [], M245)
          have hk248 := frI_fun hF247 (by decide) hg160
          have hk249 := frJ_fun hF247 (by decide) hj165
          have hk250 := frI_fun hF247 (by decide) hk166
          have hk251 := frJ_fun hF247 (by decide) hk167
          have hk252 := frI_fun hF247 (by decide) hk168
          have hk253 := frI_fun hF247 (by decide) hk169
          have hk254 := frI_fun hF247 (by decide) hk170
          have hk255 := frI_fun hF247 (by decide) hk171
          have hk256 := frI_fun hF247 (by decide) hk172
          have hk257 := frI_fun hF247 (by decide) hk173
          have hF258 := fr_tr hF174 hF247 (by decide)
          refine Wn.run (tab := tb_tl_readIce) rfl 8 (c' := (61, [(1, .int (nI (8 * x2 + x1))), (0, .ref 78)], [], (mJ M245 78 (vp_updL (M245.2.1 78) 8 ((M245.2.1 78 8) ||| ((1 : Int64) <<< (((nI (8 * x2 + x1))).toInt64 &&& 63))))))) (o := [shp 78 = (0, 6), shp 78 = (0, 6)]) rfl ⟨rfl, rfl⟩ ?_
          rw [show (M245.2.1 78 8) = ic from (fr_eq hk249 (show j 8 = ic from hf.2.2.2.2.2.2))]
          generalize hM260 : (mJ M245 78 (vp_updL (M245.2.1 78) 8 (ic ||| ((1 : Int64) <<< (((nI (8 * x2 + x1))).toInt64 &&& 63))))) = M259
          have hq261 := RdD_fr (fr_1J hM260) (by decide) hd246
          have hk262 := fI_oJ hM260 hk248
          have hk263 := fJ_up hM260 hk249
          have hk264 := fI_oJ hM260 hk250
          have hk265 := fJ_ne hM260 (by decide) hk251
          have hk266 := fI_oJ hM260 hk252
          have hk267 := fI_oJ hM260 hk253
          have hk268 := fI_oJ hM260 hk254
          have hk269 := fI_oJ hM260 hk255
          have hk270 := fI_oJ hM260 hk256
          have hk271 := fI_oJ hM260 hk257
          have hF272 := fr_sJ hF258 hM260 (by decide)
          show Wn _ 232 _ (61, [(1, .int (nI (8 * x2 + x1))), (0, .ref 78)], [], M259)
          refine Wn.run (tab := tb_tl_readIce) rfl 9 (c' := (79, [(1, .int (nI (8 * x2 + x1))), (0, .ref 78)], [.int (nI 9), .int (nI 0), .ref 77, .int (nI (8 * x2 + x1)), .ref 20], M259)) (o := [shp 78 = (0, 6), shp 15 = (0, 8), shp 19 = (0, 5), shp 78 = (0, 6)]) rfl ⟨rfl, rfl, rfl, rfl⟩ ?_
          refine Wn.callV (p := 77) (n := 3) (ix := 99) (ci := (3)) (fun r0 M9 => r0 = some (.int (nI 0)) ∧ M9 = M259) [.int (nI 0), .int (nI 9)] [.int (nI (8 * x2 + x1)), .ref 20] rfl rfl rfl rfl (Nat.le_of_ble_eq_true rfl) (Nat.le_of_ble_eq_true rfl) (c_rd_takeNumberD _ M259 3 (tAt T L mo p1) hq261 (nI 0) (nI 9)) ?_
          rintro _ M9 ⟨rfl, hsm⟩
          obtain rfl := hsm.symm
          show Wn _ 232 _ (82, [(1, .int (nI (8 * x2 + x1))), (0, .ref 78)], [.int (nI 0), .int (nI (8 * x2 + x1)), .ref 20], M259)
          refine Wn.run (tab := tb_tl_readIce) rfl 1 (c' := (83, [(1, .int (nI (8 * x2 + x1))), (0, .ref 78)], [], (mI M259 20 (upd (M259.1 20) ((nI (8 * x2 + x1))).toNatClampNeg (nI 0))))) (o := [aok shp 20 0 (nI (8 * x2 + x1))]) rfl (ak1 (n := 64) rfl rfl rfl (by omega)) ?_
          generalize hM274 : (mI M259 20 (upd (M259.1 20) ((nI (8 * x2 + x1))).toNatClampNeg (nI 0))) = M273
          have hq275 := RdD_fr (fr_1I hM274) (by decide) hq261
          have hk276 := fI_ne hM274 (by decide) hk262
          have hk277 := fJ_oI hM274 hk263
          have hk278 := fI_ne hM274 (by decide) hk264
          have hk279 := fJ_oI hM274 hk265
          have hk280 := fI_ne hM274 (by decide) hk266
          have hk281 := fI_upx hM274 hk267 (cl1 rfl (by omega))
          have hk282 := fI_ne hM274 (by decide) hk268
          have hk283 := fI_ne hM274 (by decide) hk269
          have hk284 := fI_ne hM274 (by decide) hk270
          have hk285 := fI_ne hM274 (by decide) hk271
          have hF286 := fr_sI hF272 hM274 (by decide)
          show Wn _ 232 _ (83, [(1, .int (nI (8 * x2 + x1))), (0, .ref 78)], [], M273)
          have e9 : rdIc T L mo p δ ν o ic = .inl (3, tAt T L mo p1) := by unfold rdIc; rw [if_neg (by omega)]; simp only [hc1, hc2]; rw [if_pos h4]
          rw [e9]
          exact Wn.vret rfl ⟨rfl, hF286, hq275⟩
  · show Wn _ 232 _ (14, [(0, .ref 78)], [.ref 78], M)
    have h1 := mt (n_le (fr_eq hl (show gl 2 = (nI (δ 2)) from (hd.1 2 (by decide)))) nI_0.symm (by omega) (by omega)).mpr h1
    refine Wn.run (tab := tb_tl_readIce) rfl 2 (c' := (19, [(0, .ref 78)], [.int (nI 1), .ref 78], M)) (o := []) rfl trivial ?_
    refine Wn.callV (p := 78) (n := 2) (ix := 95) (ci := (6)) (PFl M 3 (tAt T L mo p) (some (.int (nI 1)))) [.int (nI 1)] [] rfl rfl rfl rfl (Nat.le_of_ble_eq_true rfl) (Nat.le_of_ble_eq_true rfl) (c_tl_takeOnce_no _ M T L mo p ta hR) ?_
    rintro _ M287 ⟨rfl, hq288, hF289⟩
    show Wn _ 232 _ (22, [(0, .ref 78)], [.int (nI 1)], M287)
    have hk290 := frI_fun hF289 (by decide) ht
    have hk291 := frJ_fun hF289 (by decide) hj
    have hk292 := frI_fun hF289 (by decide) hl
    have hk293 := frJ_fun hF289 (by decide) hJ
    have hk294 := frI_fun hF289 (by decide) hlo
    have hk295 := frI_fun hF289 (by decide) hi
    have hk296 := frI_fun hF289 (by decide) ha
    have hk297 := frI_fun hF289 (by decide) hte
    have hk298 := frI_fun hF289 (by decide) h19
    have hk299 := frI_fun hF289 (by decide) h23
    have hF300 := fr_tr hF hF289 (by decide)
    refine Wn.run (tab := tb_tl_readIce) rfl 2 (c' := (24, [(0, .ref 78)], [.ref 78], M287)) (o := []) rfl trivial ?_
    refine Wn.callV (p := 78) (n := 1) (ix := 152) (ci := (6)) (PCe M287 g 0 (fun M9 => RdD M9 3 (tAt T L mo p))) [] [] rfl rfl rfl rfl (Nat.le_of_ble_eq_true rfl) (Nat.le_of_ble_eq_true rfl) (c_tl_takeCell_D _ M287 g gl hk290 hk292 (δ 0) (δ 1) (show gl 0 = (nI (δ 0)) from (hd.1 0 (by decide))) (show gl 1 = (nI (δ 1)) from (hd.1 1 (by decide))) b0 b1 3 (tAt T L mo p) hq288) ?_
    rintro _ M305 ⟨rfl, hK301, hg302, hj303, hF304⟩
    show Wn _ 232 _ (27, [(0, .ref 78)], [.int (nI 0)], M305)
    have hq306 : RdD M305 3 (tAt T L mo p) := hK301
    have hj307 := hj303.trans hk291
    have hk308 := frI_fun hF304 (by decide) hk292
    have hk309 := frJ_fun hF304 (by decide) hk293
    have hk310 := frI_fun hF304 (by decide) hk294
    have hk311 := frI_fun hF304 (by decide) hk295
    have hk312 := frI_fun hF304 (by decide) hk296
    have hk313 := frI_fun hF304 (by decide) hk297
    have hk314 := frI_fun hF304 (by decide) hk298
    have hk315 := frI_fun hF304 (by decide) hk299
    have hF316 := fr_tr hF300 hF304 (by decide)
    refine Wn.run (tab := tb_tl_readIce) rfl 10 (c' := (if (lg_cmp ((((M305.2.1 78 8)).toUInt64 >>> (((nI 0)).toInt64.toUInt64 &&& Int64.toUInt64 63)).toInt64 &&& (1 : Int64)) (0 : Int64)) = 0 then 49 else 41, [(1, .int (nI 0)), (0, .ref 78)], [], M305)) (o := [shp 78 = (0, 6)]) rfl rfl ?_
    refine Wn.br (fun h5 => ?_) (fun h5 => ?_)
    · show Wn _ 232 _ (49, [(1, .int (nI 0)), (0, .ref 78)], [], M305)
      rw [show (M305.2.1 78 8) = ic from (fr_eq hj307 (show j 8 = ic from hf.2.2.2.2.2.2))] at h5
      have h5 : ¬ ((ic >>> ((nI 0).toInt64 &&& 63)) &&& 1 = 1) := (bit64 (by omega)).mp ((lg_cmp_eq _ _).mp h5)
      refine Wn.run (tab := tb_tl_readIce) rfl 8 (c' := (61, [(1, .int (nI 0)), (0, .ref 78)], [], (mJ M305 78 (vp_updL (M305.2.1 78) 8 ((M305.2.1 78 8) ||| ((1 : Int64) <<< (((nI 0)).toInt64 &&& 63))))))) (o := [shp 78 = (0, 6), shp 78 = (0, 6)]) rfl ⟨rfl, rfl⟩ ?_
      rw [show (M305.2.1 78 8) = ic from (fr_eq hj307 (show j 8 = ic from hf.2.2.2.2.2.2))]
      generalize hM318 : (mJ M305 78 (vp_updL (M305.2.1 78) 8 (ic ||| ((1 : Int64) <<< (((nI 0)).toInt64 &&& 63))))) = M317
      have hq319 := RdD_fr (fr_1J hM318) (by decide) hq306
      have hk320 := fI_oJ hM318 hg302
      have hk321 := fJ_up hM318 hj307
      have hk322 := fI_oJ hM318 hk308
      have hk323 := fJ_ne hM318 (by decide) hk309
      have hk324 := fI_oJ hM318 hk310
      have hk325 := fI_oJ hM318 hk311
      have hk326 := fI_oJ hM318 hk312
      have hk327 := fI_oJ hM318 hk313
      have hk328 := fI_oJ hM318 hk314
      have hk329 := fI_oJ hM318 hk315
      have hF330 := fr_sJ hF316 hM318 (by decide)
      show Wn _ 232 _ (61, [(1, .int (nI 0)), (0, .ref 78)], [], M317)
      refine Wn.run (tab := tb_tl_readIce) rfl 9 (c' := (79, [(1, .int (nI 0)), (0, .ref 78)], [.int (nI 9), .int (nI 0), .ref 77, .int (nI 0), .ref 20], M317)) (o := [shp 78 = (0, 6), shp 15 = (0, 8), shp 19 = (0, 5), shp 78 = (0, 6)]) rfl ⟨rfl, rfl, rfl, rfl⟩ ?_
      refine Wn.callV (p := 77) (n := 3) (ix := 99) (ci := (3)) (fun r0 M9 => r0 = some (.int (nI 0)) ∧ M9 = M317) [.int (nI 0), .int (nI 9)] [.int (nI 0), .ref 20] rfl rfl rfl rfl (Nat.le_of_ble_eq_true rfl) (Nat.le_of_ble_eq_true rfl) (c_rd_takeNumberD _ M317 3 (tAt T L mo p) hq319 (nI 0) (nI 9)) ?_
      rintro _ M9 ⟨rfl, hsm⟩
      obtain rfl := hsm.symm
      show Wn _ 232 _ (82, [(1, .int (nI 0)), (0, .ref 78)], [.int (nI 0), .int (nI 0), .ref 20], M317)
      refine Wn.run (tab := tb_tl_readIce) rfl 1 (c' := (83, [(1, .int (nI 0)), (0, .ref 78)], [], (mI M317 20 (upd (M317.1 20) 0 (nI 0))))) (o := [aok shp 20 0 (nI 0)]) rfl ⟨rfl, vp_in_nI (by decide) (by decide)⟩ ?_
      generalize hM332 : (mI M317 20 (upd (M317.1 20) 0 (nI 0))) = M331
      have hq333 := RdD_fr (fr_1I hM332) (by decide) hq319
      have hk334 := fI_ne hM332 (by decide) hk320
      have hk335 := fJ_oI hM332 hk321
      have hk336 := fI_ne hM332 (by decide) hk322
      have hk337 := fJ_oI hM332 hk323
      have hk338 := fI_ne hM332 (by decide) hk324
      have hk339 := fI_up hM332 hk325
      have hk340 := fI_ne hM332 (by decide) hk326
      have hk341 := fI_ne hM332 (by decide) hk327
      have hk342 := fI_ne hM332 (by decide) hk328
      have hk343 := fI_ne hM332 (by decide) hk329
      have hF344 := fr_sI hF330 hM332 (by decide)
      show Wn _ 232 _ (83, [(1, .int (nI 0)), (0, .ref 78)], [], M331)
      have e9 : rdIc T L mo p δ ν o ic = .inl (3, tAt T L mo p) := by unfold rdIc; rw [if_pos (by omega)]
      rw [e9]
      exact Wn.vret rfl ⟨rfl, hF344, hq333⟩
    · show Wn _ 232 _ (41, [(1, .int (nI 0)), (0, .ref 78)], [], M305)
      rw [show (M305.2.1 78 8) = ic from (fr_eq hj307 (show j 8 = ic from hf.2.2.2.2.2.2))] at h5
      have h5 : ((ic >>> ((nI 0).toInt64 &&& 63)) &&& 1 = 1) := Classical.not_not.mp (mt (bit64 (by omega)).mpr (mt (lg_cmp_eq _ _).mpr h5))
      refine Wn.run (tab := tb_tl_readIce) rfl 3 (c' := (46, [(1, .int (nI 0)), (0, .ref 78)], [.int (nI 3), .ref 77], M305)) (o := [shp 78 = (0, 6)]) rfl rfl ?_
      refine Wn.callV (p := 77) (n := 2) (ix := 155) (ci := (3)) (fun r0 M9 => r0 = none ∧ M9 = M305) [.int (nI 3)] [] rfl rfl rfl rfl (Nat.le_of_ble_eq_true rfl) (Nat.le_of_ble_eq_true rfl) (c_rd_failTakenD _ M305 3 (tAt T L mo p) hq306 (nI 3)) ?_
      rintro _ M9 ⟨rfl, hsm⟩
      obtain rfl := hsm.symm
      show Wn _ 232 _ (49, [(1, .int (nI 0)), (0, .ref 78)], [], M305)
      refine Wn.run (tab := tb_tl_readIce) rfl 8 (c' := (61, [(1, .int (nI 0)), (0, .ref 78)], [], (mJ M305 78 (vp_updL (M305.2.1 78) 8 ((M305.2.1 78 8) ||| ((1 : Int64) <<< (((nI 0)).toInt64 &&& 63))))))) (o := [shp 78 = (0, 6), shp 78 = (0, 6)]) rfl ⟨rfl, rfl⟩ ?_
      rw [show (M305.2.1 78 8) = ic from (fr_eq hj307 (show j 8 = ic from hf.2.2.2.2.2.2))]
      generalize hM346 : (mJ M305 78 (vp_updL (M305.2.1 78) 8 (ic ||| ((1 : Int64) <<< (((nI 0)).toInt64 &&& 63))))) = M345
      have hq347 := RdD_fr (fr_1J hM346) (by decide) hq306
      have hk348 := fI_oJ hM346 hg302
      have hk349 := fJ_up hM346 hj307
      have hk350 := fI_oJ hM346 hk308
      have hk351 := fJ_ne hM346 (by decide) hk309
      have hk352 := fI_oJ hM346 hk310
      have hk353 := fI_oJ hM346 hk311
      have hk354 := fI_oJ hM346 hk312
      have hk355 := fI_oJ hM346 hk313
      have hk356 := fI_oJ hM346 hk314
      have hk357 := fI_oJ hM346 hk315
      have hF358 := fr_sJ hF316 hM346 (by decide)
      show Wn _ 232 _ (61, [(1, .int (nI 0)), (0, .ref 78)], [], M345)
      refine Wn.run (tab := tb_tl_readIce) rfl 9 (c' := (79, [(1, .int (nI 0)), (0, .ref 78)], [.int (nI 9), .int (nI 0), .ref 77, .int (nI 0), .ref 20], M345)) (o := [shp 78 = (0, 6), shp 15 = (0, 8), shp 19 = (0, 5), shp 78 = (0, 6)]) rfl ⟨rfl, rfl, rfl, rfl⟩ ?_
      refine Wn.callV (p := 77) (n := 3) (ix := 99) (ci := (3)) (fun r0 M9 => r0 = some (.int (nI 0)) ∧ M9 = M345) [.int (nI 0), .int (nI 9)] [.int (nI 0), .ref 20] rfl rfl rfl rfl (Nat.le_of_ble_eq_true rfl) (Nat.le_of_ble_eq_true rfl) (c_rd_takeNumberD _ M345 3 (tAt T L mo p) hq347 (nI 0) (nI 9)) ?_
      rintro _ M9 ⟨rfl, hsm⟩
      obtain rfl := hsm.symm
      show Wn _ 232 _ (82, [(1, .int (nI 0)), (0, .ref 78)], [.int (nI 0), .int (nI 0), .ref 20], M345)
      refine Wn.run (tab := tb_tl_readIce) rfl 1 (c' := (83, [(1, .int (nI 0)), (0, .ref 78)], [], (mI M345 20 (upd (M345.1 20) 0 (nI 0))))) (o := [aok shp 20 0 (nI 0)]) rfl ⟨rfl, vp_in_nI (by decide) (by decide)⟩ ?_
      generalize hM360 : (mI M345 20 (upd (M345.1 20) 0 (nI 0))) = M359
      have hq361 := RdD_fr (fr_1I hM360) (by decide) hq347
      have hk362 := fI_ne hM360 (by decide) hk348
      have hk363 := fJ_oI hM360 hk349
      have hk364 := fI_ne hM360 (by decide) hk350
      have hk365 := fJ_oI hM360 hk351
      have hk366 := fI_ne hM360 (by decide) hk352
      have hk367 := fI_up hM360 hk353
      have hk368 := fI_ne hM360 (by decide) hk354
      have hk369 := fI_ne hM360 (by decide) hk355
      have hk370 := fI_ne hM360 (by decide) hk356
      have hk371 := fI_ne hM360 (by decide) hk357
      have hF372 := fr_sI hF358 hM360 (by decide)
      show Wn _ 232 _ (83, [(1, .int (nI 0)), (0, .ref 78)], [], M359)
      have e9 : rdIc T L mo p δ ν o ic = .inl (3, tAt T L mo p) := by unfold rdIc; rw [if_pos (by omega)]
      rw [e9]
      exact Wn.vret rfl ⟨rfl, hF372, hq361⟩
