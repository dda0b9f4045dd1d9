/-! The tape. -/
def cb (v : Int32) (s : Nat) : Int32 := ((v).toUInt32 >>> ((nI s).toUInt32 &&& Int32.toUInt32 31)).toInt32 &&& nI 255
def mb (v : Int32) (s : Nat) : Int32 := ((v >>> ((nI s) &&& 31)).toInt8.toInt32).toInt8.toInt32
def bN (v : Int32) (s : Nat) : Nat := (((v).toUInt32 >>> ((nI s).toUInt32 &&& Int32.toUInt32 31)).toInt32).toBitVec.toNat % 2 ^ 8
theorem bN_lt (v : Int32) (s : Nat) : bN v s < 256 := Nat.mod_lt _ (by decide)
theorem cb_nat (v : Int32) (s : Nat) : cb v s = nI (bN v s) := pk_and _ 8 (by decide)
theorem bv_low (x : BitVec 32) (s : Nat) (hs : s ≤ 24) : (((((x.sshiftRight s).signExtend 8).signExtend 32).signExtend 8).signExtend 32).setWidth 8 = (x >>> s).setWidth 8 := by
  apply BitVec.eq_of_getLsbD_eq
  intro i hi
  rw [BitVec.getLsbD_setWidth, BitVec.getLsbD_setWidth, BitVec.getLsbD_ushiftRight, BitVec.getLsbD_signExtend, BitVec.getLsbD_signExtend, BitVec.getLsbD_signExtend, BitVec.getLsbD_signExtend, BitVec.getLsbD_sshiftRight]
  simp [hi, show i < 32 by omega, show s + i < 32 by omega, show ¬ 32 ≤ i by omega]
theorem mb_nat (v : Int32) (s : Nat) (hs : s = 24 ∨ s = 16 ∨ s = 8 ∨ s = 0) : mb v s &&& nI 255 = nI (bN v s) := by
  rw [pk_and (mb v s) (m := nI 255) 8 (by decide)]
  congr 1
  unfold bN
  rw [← BitVec.toNat_setWidth, ← BitVec.toNat_setWidth]
  congr 1
  have e1 : (mb v s).toBitVec = ((((v.toBitVec.sshiftRight s).signExtend 8).signExtend 32).signExtend 8).signExtend 32 := by rcases hs with rfl | rfl | rfl | rfl <;> rfl
  have e2 : (((v).toUInt32 >>> ((nI s).toUInt32 &&& Int32.toUInt32 31)).toInt32).toBitVec = v.toBitVec >>> s := by rcases hs with rfl | rfl | rfl | rfl <;> rfl
  rw [e1, e2]
  exact bv_low _ _ (by omega)
def put4 (f : Int32 → Nat → Int32) (u : Nat → Int32) (L : Nat) (v : Int32) : Nat → Int32 := upd (upd (upd (upd u L (f v 24)) (L + 1) (f v 16)) (L + 2) (f v 8)) (L + 3) (f v 0)
def putT (T : Nat → Nat) (L : Nat) (v : Int32) : Nat → Nat := su (su (su (su T L (bN v 24)) (L + 1) (bN v 16)) (L + 2) (bN v 8)) (L + 3) (bN v 0)
/-- rows of bytes: of the class, of the reference -/
def TB (u : Nat → Int32) (T : Nat → Nat) (L : Nat) : Prop := ∀ k, k < L → u k = nI (T k) ∧ T k < 256
def TM (u : Nat → Int32) (T : Nat → Nat) (L : Nat) : Prop := ∀ k, k < L → u k &&& nI 255 = nI (T k) ∧ T k < 256
theorem TB_1 {u : Nat → Int32} {T : Nat → Nat} {L x : Nat} {v : Int32} (h : TB u T L) (hv : v = nI x) (hx : x < 256) : TB (upd u L v) (su T L x) (L + 1) := by
  intro k hk
  unfold upd su
  by_cases e : k = L
  · rw [if_pos e, if_pos e]; exact ⟨hv, hx⟩
  · rw [if_neg e, if_neg e]; exact h k (by omega)
theorem TM_1 {u : Nat → Int32} {T : Nat → Nat} {L x : Nat} {v : Int32} (h : TM u T L) (hv : v &&& nI 255 = nI x) (hx : x < 256) : TM (upd u L v) (su T L x) (L + 1) := by
  intro k hk
  unfold upd su
  by_cases e : k = L
  · rw [if_pos e, if_pos e]; exact ⟨hv, hx⟩
  · rw [if_neg e, if_neg e]; exact h k (by omega)
theorem TB_4 {u : Nat → Int32} {T : Nat → Nat} {L : Nat} (v : Int32) (h : TB u T L) : TB (put4 cb u L v) (putT T L v) (L + 4) := TB_1 (TB_1 (TB_1 (TB_1 h (cb_nat v 24) (bN_lt _ _)) (cb_nat v 16) (bN_lt _ _)) (cb_nat v 8) (bN_lt _ _)) (cb_nat v 0) (bN_lt _ _)
theorem TM_4 {u : Nat → Int32} {T : Nat → Nat} {L : Nat} (v : Int32) (h : TM u T L) : TM (put4 mb u L v) (putT T L v) (L + 4) := TM_1 (TM_1 (TM_1 (TM_1 h (mb_nat v 24 (by omega)) (bN_lt _ _)) (mb_nat v 16 (by omega)) (bN_lt _ _)) (mb_nat v 8 (by omega)) (bN_lt _ _)) (mb_nat v 0 (by omega)) (bN_lt _ _)
def P4 (M0 : Mm) (pr po k : Nat) (u g : Nat → Int32) (L : Nat) : Po := fun r0 M' => r0 = none ∧ M'.1 pr = u ∧ M'.1 po = upd g k (nI L) ∧ Fr [po, pr] M0 M'
set_option maxRecDepth 20000 in
theorem c_i_putBytes (d : Nat) (M : Mm) (g u : Nat → Int32) (L : Nat) (v : Int32) (hg : M.1 0 = g) (hL : g 1 = nI L) (hu : M.1 1 = u) (hL4 : L + 4 ≤ 940) : Wn (d + 0) 1 (P4 M 1 0 1 (put4 cb u L v) g (L + 4)) (0, lv_args 0 [.ref 0, .int v], [], M) := by
  have hF := fr_rf [0, 1] M
  refine Wn.run (tab := tb_i_putBytes) rfl 4 (c' := (if (nI 24) < 0 then 49 else 7, [(2, .int (nI 24)), (0, .ref 0), (1, .int v)], [], M)) (o := []) rfl trivial ?_
  rw [if_neg (show ¬ ((nI 24) < 0) by decide)]
  show Wn _ 1 _ (7, [(2, .int (nI 24)), (0, .ref 0), (1, .int v)], [], M)
  refine Wn.run (tab := tb_i_putBytes) rfl 4 (c' := (if (nI 940) ≤ (M.1 0 1) then 49 else 17, [(2, .int (nI 24)), (0, .ref 0), (1, .int v)], [], M)) (o := [shp 0 = (0, 9)]) rfl rfl ?_
  refine Wn.br (fun h1 => ?_) (fun h1 => ?_)
  · show Wn _ 1 _ (49, [(2, .int (nI 24)), (0, .ref 0), (1, .int v)], [], M)
    have h1 := (n_le rfl (fr_eq hg (show g 1 = (nI L) from hL)) (by omega) (by omega)).mp h1
    exact absurd h1 (by omega)
  · show Wn _ 1 _ (17, [(2, .int (nI 24)), (0, .ref 0), (1, .int v)], [], M)
    have h1 := mt (n_le rfl (fr_eq hg (show g 1 = (nI L) from hL)) (by omega) (by omega)).mpr h1
    refine Wn.run (tab := tb_i_putBytes) rfl 10 (c' := (33, [(2, .int (nI 24)), (0, .ref 0), (1, .int v)], [], (mI M 1 (upd (M.1 1) ((M.1 0 1)).toNatClampNeg (((v).toUInt32 >>> (((nI 24)).toUInt32 &&& Int32.toUInt32 31)).toInt32 &&& (nI 255)))))) (o := [shp 0 = (0, 9), shp 0 = (0, 9), aok shp 1 0 (M.1 0 1)]) rfl ⟨rfl, rfl, (ak1 (n := 940) rfl rfl (fr_eq hg (show g 1 = (nI L) from hL)) (by omega))⟩ ?_
    rw [show (M.1 0 1) = (nI L) from (fr_eq hg (show g 1 = (nI L) from hL))]
    generalize hM2 : (mI M 1 (upd (M.1 1) ((nI L)).toNatClampNeg (((v).toUInt32 >>> (((nI 24)).toUInt32 &&& Int32.toUInt32 31)).toInt32 &&& (nI 255)))) = M1
    have hk3 := fI_ne hM2 (by decide) hg
    have hk4 := fI_upx hM2 hu (cl1 rfl (by omega))
    have hF5 := fr_sI hF hM2 (by decide)
    show Wn _ 1 _ (33, [(2, .int (nI 24)), (0, .ref 0), (1, .int v)], [], M1)
    refine Wn.run (tab := tb_i_putBytes) rfl 6 (c' := (43, [(2, .int (nI 24)), (0, .ref 0), (1, .int v)], [], (mI M1 0 (upd (M1.1 0) 1 ((M1.1 0 1) + (nI 1)))))) (o := [shp 0 = (0, 9), shp 0 = (0, 9)]) rfl ⟨rfl, rfl⟩ ?_
    rw [show (M1.1 0 1) = (nI L) from (fr_eq hk3 (show g 1 = (nI L) from hL))]
    rw [show ((nI L) + (nI 1)) = (nI (L + 1)) from (n_add rfl rfl)]
    generalize hM7 : (mI M1 0 (upd (M1.1 0) 1 (nI (L + 1)))) = M6
    have hk8 := fI_up hM7 hk3
    have hk9 := fI_ne hM7 (by decide) hk4
    have hF10 := fr_sI hF5 hM7 (by decide)
    show Wn _ 1 _ (43, [(2, .int (nI 24)), (0, .ref 0), (1, .int v)], [], M6)
    refine Wn.run (tab := tb_i_putBytes) rfl 4 (c' := (if (nI 16) < 0 then 49 else 7, [(2, .int (nI 16)), (0, .ref 0), (1, .int v)], [], M6)) (o := []) rfl trivial ?_
    rw [if_neg (show ¬ ((nI 16) < 0) by decide)]
    show Wn _ 1 _ (7, [(2, .int (nI 16)), (0, .ref 0), (1, .int v)], [], M6)
    refine Wn.run (tab := tb_i_putBytes) rfl 4 (c' := (if (nI 940) ≤ (M6.1 0 1) then 49 else 17, [(2, .int (nI 16)), (0, .ref 0), (1, .int v)], [], M6)) (o := [shp 0 = (0, 9)]) rfl rfl ?_
    refine Wn.br (fun h2 => ?_) (fun h2 => ?_)
    · show Wn _ 1 _ (49, [(2, .int (nI 16)), (0, .ref 0), (1, .int v)], [], M6)
      have h2 := (n_le rfl (fr_eq hk8 (show (upd g 1 (nI (L + 1))) 1 = (nI (L + 1)) from pk_us)) (by omega) (by omega)).mp h2
      exact absurd h2 (by omega)
    · show Wn _ 1 _ (17, [(2, .int (nI 16)), (0, .ref 0), (1, .int v)], [], M6)
      have h2 := mt (n_le rfl (fr_eq hk8 (show (upd g 1 (nI (L + 1))) 1 = (nI (L + 1)) from pk_us)) (by omega) (by omega)).mpr h2
      refine Wn.run (tab := tb_i_putBytes) rfl 10 (c' := (33, [(2, .int (nI 16)), (0, .ref 0), (1, .int v)], [], (mI M6 1 (upd (M6.1 1) ((M6.1 0 1)).toNatClampNeg (((v).toUInt32 >>> (((nI 16)).toUInt32 &&& Int32.toUInt32 31)).toInt32 &&& (nI 255)))))) (o := [shp 0 = (0, 9), shp 0 = (0, 9), aok shp 1 0 (M6.1 0 1)]) rfl ⟨rfl, rfl, (ak1 (n := 940) rfl rfl (fr_eq hk8 (show (upd g 1 (nI (L + 1))) 1 = (nI (L + 1)) from pk_us)) (by omega))⟩ ?_
      rw [show (M6.1 0 1) = (nI (L + 1)) from (fr_eq hk8 (show (upd g 1 (nI (L + 1))) 1 = (nI (L + 1)) from pk_us))]
      generalize hM12 : (mI M6 1 (upd (M6.1 1) ((nI (L + 1))).toNatClampNeg (((v).toUInt32 >>> (((nI 16)).toUInt32 &&& Int32.toUInt32 31)).toInt32 &&& (nI 255)))) = M11
      have hk13 := fI_ne hM12 (by decide) hk8
      have hk14 := fI_upx hM12 hk9 (cl1 rfl (by omega))
      have hF15 := fr_sI hF10 hM12 (by decide)
      show Wn _ 1 _ (33, [(2, .int (nI 16)), (0, .ref 0), (1, .int v)], [], M11)
      refine Wn.run (tab := tb_i_putBytes) rfl 6 (c' := (43, [(2, .int (nI 16)), (0, .ref 0), (1, .int v)], [], (mI M11 0 (upd (M11.1 0) 1 ((M11.1 0 1) + (nI 1)))))) (o := [shp 0 = (0, 9), shp 0 = (0, 9)]) rfl ⟨rfl, rfl⟩ ?_
      rw [show (M11.1 0 1) = (nI (L + 1)) from (fr_eq hk13 (show (upd g 1 (nI (L + 1))) 1 = (nI (L + 1)) from pk_us))]
      rw [show ((nI (L + 1)) + (nI 1)) = (nI ((L + 1) + 1)) from (n_add rfl rfl)]
      generalize hM17 : (mI M11 0 (upd (M11.1 0) 1 (nI ((L + 1) + 1)))) = M16
      have hk18 := fI_up hM17 hk13
      have hk19 := fI_ne hM17 (by decide) hk14
      have hF20 := fr_sI hF15 hM17 (by decide)
      show Wn _ 1 _ (43, [(2, .int (nI 16)), (0, .ref 0), (1, .int v)], [], M16)
      refine Wn.run (tab := tb_i_putBytes) rfl 4 (c' := (if (nI 8) < 0 then 49 else 7, [(2, .int (nI 8)), (0, .ref 0), (1, .int v)], [], M16)) (o := []) rfl trivial ?_
      rw [if_neg (show ¬ ((nI 8) < 0) by decide)]
      show Wn _ 1 _ (7, [(2, .int (nI 8)), (0, .ref 0), (1, .int v)], [], M16)
      refine Wn.run (tab := tb_i_putBytes) rfl 4 (c' := (if (nI 940) ≤ (M16.1 0 1) then 49 else 17, [(2, .int (nI 8)), (0, .ref 0), (1, .int v)], [], M16)) (o := [shp 0 = (0, 9)]) rfl rfl ?_
      refine Wn.br (fun h3 => ?_) (fun h3 => ?_)
      · show Wn _ 1 _ (49, [(2, .int (nI 8)), (0, .ref 0), (1, .int v)], [], M16)
        have h3 := (n_le rfl (fr_eq hk18 (show (upd (upd g 1 (nI (L + 1))) 1 (nI ((L + 1) + 1))) 1 = (nI ((L + 1) + 1)) from pk_us)) (by omega) (by omega)).mp h3
        exact absurd h3 (by omega)
      · show Wn _ 1 _ (17, [(2, .int (nI 8)), (0, .ref 0), (1, .int v)], [], M16)
        have h3 := mt (n_le rfl (fr_eq hk18 (show (upd (upd g 1 (nI (L + 1))) 1 (nI ((L + 1) + 1))) 1 = (nI ((L + 1) + 1)) from pk_us)) (by omega) (by omega)).mpr h3
        refine Wn.run (tab := tb_i_putBytes) rfl 10 (c' := (33, [(2, .int (nI 8)), (0, .ref 0), (1, .int v)], [], (mI M16 1 (upd (M16.1 1) ((M16.1 0 1)).toNatClampNeg (((v).toUInt32 >>> (((nI 8)).toUInt32 &&& Int32.toUInt32 31)).toInt32 &&& (nI 255)))))) (o := [shp 0 = (0, 9), shp 0 = (0, 9), aok shp 1 0 (M16.1 0 1)]) rfl ⟨rfl, rfl, (ak1 (n := 940) rfl rfl (fr_eq hk18 (show (upd (upd g 1 (nI (L + 1))) 1 (nI ((L + 1) + 1))) 1 = (nI ((L + 1) + 1)) from pk_us)) (by omega))⟩ ?_
        rw [show (M16.1 0 1) = (nI ((L + 1) + 1)) from (fr_eq hk18 (show (upd (upd g 1 (nI (L + 1))) 1 (nI ((L + 1) + 1))) 1 = (nI ((L + 1) + 1)) from pk_us))]
        generalize hM22 : (mI M16 1 (upd (M16.1 1) ((nI ((L + 1) + 1))).toNatClampNeg (((v).toUInt32 >>> (((nI 8)).toUInt32 &&& Int32.toUInt32 31)).toInt32 &&& (nI 255)))) = M21
        have hk23 := fI_ne hM22 (by decide) hk18
        have hk24 := fI_upx hM22 hk19 (cl1 rfl (by omega))
        have hF25 := fr_sI hF20 hM22 (by decide)
        show Wn _ 1 _ (33, [(2, .int (nI 8)), (0, .ref 0), (1, .int v)], [], M21)
        refine Wn.run (tab := tb_i_putBytes) rfl 6 (c' := (43, [(2, .int (nI 8)), (0, .ref 0), (1, .int v)], [], (mI M21 0 (upd (M21.1 0) 1 ((M21.1 0 1) + (nI 1)))))) (o := [shp 0 = (0, 9), shp 0 = (0, 9)]) rfl ⟨rfl, rfl⟩ ?_
        rw [show (M21.1 0 1) = (nI ((L + 1) + 1)) from (fr_eq hk23 (show (upd (upd g 1 (nI (L + 1))) 1 (nI ((L + 1) + 1))) 1 = (nI ((L + 1) + 1)) from pk_us))]
        rw [show ((nI ((L + 1) + 1)) + (nI 1)) = (nI (((L + 1) + 1) + 1)) from (n_add rfl rfl)]
        generalize hM27 : (mI M21 0 (upd (M21.1 0) 1 (nI (((L + 1) + 1) + 1)))) = M26
        have hk28 := fI_up hM27 hk23
        have hk29 := fI_ne hM27 (by decide) hk24
        have hF30 := fr_sI hF25 hM27 (by decide)
        show Wn _ 1 _ (43, [(2, .int (nI 8)), (0, .ref 0), (1, .int v)], [], M26)
        refine Wn.run (tab := tb_i_putBytes) rfl 4 (c' := (if (nI 0) < 0 then 49 else 7, [(2, .int (nI 0)), (0, .ref 0), (1, .int v)], [], M26)) (o := []) rfl trivial ?_
        rw [if_neg (show ¬ ((nI 0) < 0) by decide)]
        show Wn _ 1 _ (7, [(2, .int (nI 0)), (0, .ref 0), (1, .int v)], [], M26)
        refine Wn.run (tab := tb_i_putBytes) rfl 4 (c' := (if (nI 940) ≤ (M26.1 0 1) then 49 else 17, [(2, .int (nI 0)), (0, .ref 0), (1, .int v)], [], M26)) (o := [shp 0 = (0, 9)]) rfl rfl ?_
        refine Wn.br (fun h4 => ?_) (fun h4 => ?_)
        · show Wn _ 1 _ (49, [(2, .int (nI 0)), (0, .ref 0), (1, .int v)], [], M26)
          have h4 := (n_le rfl (fr_eq hk28 (show (upd (upd (upd g 1 (nI (L + 1))) 1 (nI ((L + 1) + 1))) 1 (nI (((L + 1) + 1) + 1))) 1 = (nI (((L + 1) + 1) + 1)) from pk_us)) (by omega) (by omega)).mp h4
          exact absurd h4 (by omega)
        · show Wn _ 1 _ (17, [(2, .int (nI 0)), (0, .ref 0), (1, .int v)], [], M26)
          have h4 := mt (n_le rfl (fr_eq hk28 (show (upd (upd (upd g 1 (nI (L + 1))) 1 (nI ((L + 1) + 1))) 1 (nI (((L + 1) + 1) + 1))) 1 = (nI (((L + 1) + 1) + 1)) from pk_us)) (by omega) (by omega)).mpr h4
          refine Wn.run (tab := tb_i_putBytes) rfl 10 (c' := (33, [(2, .int (nI 0)), (0, .ref 0), (1, .int v)], [], (mI M26 1 (upd (M26.1 1) ((M26.1 0 1)).toNatClampNeg (((v).toUInt32 >>> (((nI 0)).toUInt32 &&& Int32.toUInt32 31)).toInt32 &&& (nI 255)))))) (o := [shp 0 = (0, 9), shp 0 = (0, 9), aok shp 1 0 (M26.1 0 1)]) rfl ⟨rfl, rfl, (ak1 (n := 940) rfl rfl (fr_eq hk28 (show (upd (upd (upd g 1 (nI (L + 1))) 1 (nI ((L + 1) + 1))) 1 (nI (((L + 1) + 1) + 1))) 1 = (nI (((L + 1) + 1) + 1)) from pk_us)) (by omega))⟩ ?_
          rw [show (M26.1 0 1) = (nI (((L + 1) + 1) + 1)) from (fr_eq hk28 (show (upd (upd (upd g 1 (nI (L + 1))) 1 (nI ((L + 1) + 1))) 1 (nI (((L + 1) + 1) + 1))) 1 = (nI (((L + 1) + 1) + 1)) from pk_us))]
          generalize hM32 : (mI M26 1 (upd (M26.1 1) ((nI (((L + 1) + 1) + 1))).toNatClampNeg (((v).toUInt32 >>> (((nI 0)).toUInt32 &&& Int32.toUInt32 31)).toInt32 &&& (nI 255)))) = M31
          have hk33 := fI_ne hM32 (by decide) hk28
          have hk34 := fI_upx hM32 hk29 (cl1 rfl (by omega))
          have hF35 := fr_sI hF30 hM32 (by decide)
          show Wn _ 1 _ (33, [(2, .int (nI 0)), (0, .ref 0), (1, .int v)], [], M31)
          refine Wn.run (tab := tb_i_putBytes) rfl 6 (c' := (43, [(2, .int (nI 0)), (0, .ref 0), (1, .int v)], [], (mI M31 0 (upd (M31.1 0) 1 ((M31.1 0 1) + (nI 1)))))) (o := [shp 0 = (0, 9), shp 0 = (0, 9)]) rfl ⟨rfl, rfl⟩ ?_
          rw [show (M31.1 0 1) = (nI (((L + 1) + 1) + 1)) from (fr_eq hk33 (show (upd (upd (upd g 1 (nI (L + 1))) 1 (nI ((L + 1) + 1))) 1 (nI (((L + 1) + 1) + 1))) 1 = (nI (((L + 1) + 1) + 1)) from pk_us))]
          rw [show ((nI (((L + 1) + 1) + 1)) + (nI 1)) = (nI ((((L + 1) + 1) + 1) + 1)) from (n_add rfl rfl)]
          generalize hM37 : (mI M31 0 (upd (M31.1 0) 1 (nI ((((L + 1) + 1) + 1) + 1)))) = M36
          have hk38 := fI_up hM37 hk33
          have hk39 := fI_ne hM37 (by decide) hk34
          have hF40 := fr_sI hF35 hM37 (by decide)
          show Wn _ 1 _ (43, [(2, .int (nI 0)), (0, .ref 0), (1, .int v)], [], M36)
          refine Wn.run (tab := tb_i_putBytes) rfl 4 (c' := (if (-8 : Int32) < 0 then 49 else 7, [(2, .int (-8 : Int32)), (0, .ref 0), (1, .int v)], [], M36)) (o := []) rfl trivial ?_
          rw [if_pos (show (-8 : Int32) < 0 by decide)]
          show Wn _ 1 _ (49, [(2, .int (-8 : Int32)), (0, .ref 0), (1, .int v)], [], M36)
          exact Wn.vret rfl ⟨rfl, by rw [hk39]; rfl, by rw [hk38, upd_u2, upd_u2, upd_u2], hF40⟩
set_option maxRecDepth 20000 in
theorem c_m_four (d : Nat) (M : Mm) (g u : Nat → Int32) (L : Nat) (v : Int32) (hg : M.1 114 = g) (hL : g 2 = nI L) (hu : M.1 115 = u) (hL4 : L + 4 ≤ 940) : Wn (d + 0) 43 (P4 M 115 114 2 (put4 mb u L v) g (L + 4)) (0, lv_args 0 [.ref 114, .int v], [], M) := by
  have hF := fr_rf [114, 115] M
  refine Wn.run (tab := tb_m_four) rfl 4 (c' := (if (nI 24) < 0 then 36 else 7, [(2, .int (nI 24)), (0, .ref 114), (1, .int v)], [], M)) (o := []) rfl trivial ?_
  rw [if_neg (show ¬ ((nI 24) < 0) by decide)]
  show Wn _ 43 _ (7, [(2, .int (nI 24)), (0, .ref 114), (1, .int v)], [], M)
  refine Wn.run (tab := tb_m_four) rfl 9 (c' := (20, [(2, .int (nI 24)), (0, .ref 114), (1, .int v)], [], (mI M 115 (upd (M.1 115) ((M.1 114 2)).toNatClampNeg (((v >>> ((nI 24) &&& 31))).toInt8.toInt32).toInt8.toInt32)))) (o := [shp 114 = (0, 10), shp 114 = (0, 10), aok shp 115 1 (M.1 114 2)]) rfl ⟨rfl, rfl, (ak1 (n := 940) rfl rfl (fr_eq hg (show g 2 = (nI L) from hL)) (by omega))⟩ ?_
  rw [show (M.1 114 2) = (nI L) from (fr_eq hg (show g 2 = (nI L) from hL))]
  generalize hM2 : (mI M 115 (upd (M.1 115) ((nI L)).toNatClampNeg (((v >>> ((nI 24) &&& 31))).toInt8.toInt32).toInt8.toInt32)) = M1
  have hk3 := fI_ne hM2 (by decide) hg
  have hk4 := fI_upx hM2 hu (cl1 rfl (by omega))
  have hF5 := fr_sI hF hM2 (by decide)
  show Wn _ 43 _ (20, [(2, .int (nI 24)), (0, .ref 114), (1, .int v)], [], M1)
  refine Wn.run (tab := tb_m_four) rfl 6 (c' := (30, [(2, .int (nI 24)), (0, .ref 114), (1, .int v)], [], (mI M1 114 (upd (M1.1 114) 2 ((M1.1 114 2) + (nI 1)))))) (o := [shp 114 = (0, 10), shp 114 = (0, 10)]) rfl ⟨rfl, rfl⟩ ?_
  rw [show (M1.1 114 2) = (nI L) from (fr_eq hk3 (show g 2 = (nI L) from hL))]
  rw [show ((nI L) + (nI 1)) = (nI (L + 1)) from (n_add rfl rfl)]
  generalize hM7 : (mI M1 114 (upd (M1.1 114) 2 (nI (L + 1)))) = M6
  have hk8 := fI_up hM7 hk3
  have hk9 := fI_ne hM7 (by decide) hk4
  have hF10 := fr_sI hF5 hM7 (by decide)
  show Wn _ 43 _ (30, [(2, .int (nI 24)), (0, .ref 114), (1, .int v)], [], M6)
  refine Wn.run (tab := tb_m_four) rfl 4 (c' := (if (nI 16) < 0 then 36 else 7, [(2, .int (nI 16)), (0, .ref 114), (1, .int v)], [], M6)) (o := []) rfl trivial ?_
  rw [if_neg (show ¬ ((nI 16) < 0) by decide)]
  show Wn _ 43 _ (7, [(2, .int (nI 16)), (0, .ref 114), (1, .int v)], [], M6)
  refine Wn.run (tab := tb_m_four) rfl 9 (c' := (20, [(2, .int (nI 16)), (0, .ref 114), (1, .int v)], [], (mI M6 115 (upd (M6.1 115) ((M6.1 114 2)).toNatClampNeg (((v >>> ((nI 16) &&& 31))).toInt8.toInt32).toInt8.toInt32)))) (o := [shp 114 = (0, 10), shp 114 = (0, 10), aok shp 115 1 (M6.1 114 2)]) rfl ⟨rfl, rfl, (ak1 (n := 940) rfl rfl (fr_eq hk8 (show (upd g 2 (nI (L + 1))) 2 = (nI (L + 1)) from pk_us)) (by omega))⟩ ?_
  rw [show (M6.1 114 2) = (nI (L + 1)) from (fr_eq hk8 (show (upd g 2 (nI (L + 1))) 2 = (nI (L + 1)) from pk_us))]
  generalize hM12 : (mI M6 115 (upd (M6.1 115) ((nI (L + 1))).toNatClampNeg (((v >>> ((nI 16) &&& 31))).toInt8.toInt32).toInt8.toInt32)) = M11
  have hk13 := fI_ne hM12 (by decide) hk8
  have hk14 := fI_upx hM12 hk9 (cl1 rfl (by omega))
  have hF15 := fr_sI hF10 hM12 (by decide)
  show Wn _ 43 _ (20, [(2, .int (nI 16)), (0, .ref 114), (1, .int v)], [], M11)
  refine Wn.run (tab := tb_m_four) rfl 6 (c' := (30, [(2, .int (nI 16)), (0, .ref 114), (1, .int v)], [], (mI M11 114 (upd (M11.1 114) 2 ((M11.1 114 2) + (nI 1)))))) (o := [shp 114 = (0, 10), shp 114 = (0, 10)]) rfl ⟨rfl, rfl⟩ ?_
  rw [show (M11.1 114 2) = (nI (L + 1)) from (fr_eq hk13 (show (upd g 2 (nI (L + 1))) 2 = (nI (L + 1)) from pk_us))]
  rw [show ((nI (L + 1)) + (nI 1)) = (nI ((L + 1) + 1)) from (n_add rfl rfl)]
  generalize hM17 : (mI M11 114 (upd (M11.1 114) 2 (nI ((L + 1) + 1)))) = M16
  have hk18 := fI_up hM17 hk13
  have hk19 := fI_ne hM17 (by decide) hk14
  have hF20 := fr_sI hF15 hM17 (by decide)
  show Wn _ 43 _ (30, [(2, .int (nI 16)), (0, .ref 114), (1, .int v)], [], M16)
  refine Wn.run (tab := tb_m_four) rfl 4 (c' := (if (nI 8) < 0 then 36 else 7, [(2, .int (nI 8)), (0, .ref 114), (1, .int v)], [], M16)) (o := []) rfl trivial ?_
  rw [if_neg (show ¬ ((nI 8) < 0) by decide)]
  show Wn _ 43 _ (7, [(2, .int (nI 8)), (0, .ref 114), (1, .int v)], [], M16)
  refine Wn.run (tab := tb_m_four) rfl 9 (c' := (20, [(2, .int (nI 8)), (0, .ref 114), (1, .int v)], [], (mI M16 115 (upd (M16.1 115) ((M16.1 114 2)).toNatClampNeg (((v >>> ((nI 8) &&& 31))).toInt8.toInt32).toInt8.toInt32)))) (o := [shp 114 = (0, 10), shp 114 = (0, 10), aok shp 115 1 (M16.1 114 2)]) rfl ⟨rfl, rfl, (ak1 (n := 940) rfl rfl (fr_eq hk18 (show (upd (upd g 2 (nI (L + 1))) 2 (nI ((L + 1) + 1))) 2 = (nI ((L + 1) + 1)) from pk_us)) (by omega))⟩ ?_
  rw [show (M16.1 114 2) = (nI ((L + 1) + 1)) from (fr_eq hk18 (show (upd (upd g 2 (nI (L + 1))) 2 (nI ((L + 1) + 1))) 2 = (nI ((L + 1) + 1)) from pk_us))]
  generalize hM22 : (mI M16 115 (upd (M16.1 115) ((nI ((L + 1) + 1))).toNatClampNeg (((v >>> ((nI 8) &&& 31))).toInt8.toInt32).toInt8.toInt32)) = M21
  have hk23 := fI_ne hM22 (by decide) hk18
  have hk24 := fI_upx hM22 hk19 (cl1 rfl (by omega))
  have hF25 := fr_sI hF20 hM22 (by decide)
  show Wn _ 43 _ (20, [(2, .int (nI 8)), (0, .ref 114), (1, .int v)], [], M21)
  refine Wn.run (tab := tb_m_four) rfl 6 (c' := (30, [(2, .int (nI 8)), (0, .ref 114), (1, .int v)], [], (mI M21 114 (upd (M21.1 114) 2 ((M21.1 114 2) + (nI 1)))))) (o := [shp 114 = (0, 10), shp 114 = (0, 10)]) rfl ⟨rfl, rfl⟩ ?_
  rw [show (M21.1 114 2) = (nI ((L + 1) + 1)) from (fr_eq hk23 (show (upd (upd g 2 (nI (L + 1))) 2 (nI ((L + 1) + 1))) 2 = (nI ((L + 1) + 1)) from pk_us))]
  rw [show ((nI ((L + 1) + 1)) + (nI 1)) = (nI (((L + 1) + 1) + 1)) from (n_add rfl rfl)]
  generalize hM27 : (mI M21 114 (upd (M21.1 114) 2 (nI (((L + 1) + 1) + 1)))) = M26
  have hk28 := fI_up hM27 hk23
  have hk29 := fI_ne hM27 (by decide) hk24
  have hF30 := fr_sI hF25 hM27 (by decide)
  show Wn _ 43 _ (30, [(2, .int (nI 8)), (0, .ref 114), (1, .int v)], [], M26)
  refine Wn.run (tab := tb_m_four) rfl 4 (c' := (if (nI 0) < 0 then 36 else 7, [(2, .int (nI 0)), (0, .ref 114), (1, .int v)], [], M26)) (o := []) rfl trivial ?_
  rw [if_neg (show ¬ ((nI 0) < 0) by decide)]
  show Wn _ 43 _ (7, [(2, .int (nI 0)), (0, .ref 114), (1, .int v)], [], M26)
  refine Wn.run (tab := tb_m_four) rfl 9 (c' := (20, [(2, .int (nI 0)), (0, .ref 114), (1, .int v)], [], (mI M26 115 (upd (M26.1 115) ((M26.1 114 2)).toNatClampNeg (((v >>> ((nI 0) &&& 31))).toInt8.toInt32).toInt8.toInt32)))) (o := [shp 114 = (0, 10), shp 114 = (0, 10), aok shp 115 1 (M26.1 114 2)]) rfl ⟨rfl, rfl, (ak1 (n := 940) rfl rfl (fr_eq hk28 (show (upd (upd (upd g 2 (nI (L + 1))) 2 (nI ((L + 1) + 1))) 2 (nI (((L + 1) + 1) + 1))) 2 = (nI (((L + 1) + 1) + 1)) from pk_us)) (by omega))⟩ ?_
  rw [show (M26.1 114 2) = (nI (((L + 1) + 1) + 1)) from (fr_eq hk28 (show (upd (upd (upd g 2 (nI (L + 1))) 2 (nI ((L + 1) + 1))) 2 (nI (((L + 1) + 1) + 1))) 2 = (nI (((L + 1) + 1) + 1)) from pk_us))]
  generalize hM32 : (mI M26 115 (upd (M26.1 115) ((nI (((L + 1) + 1) + 1))).toNatClampNeg (((v >>> ((nI 0) &&& 31))).toInt8.toInt32).toInt8.toInt32)) = M31
  have hk33 := fI_ne hM32 (by decide) hk28
  have hk34 := fI_upx hM32 hk29 (cl1 rfl (by omega))
  have hF35 := fr_sI hF30 hM32 (by decide)
  show Wn _ 43 _ (20, [(2, .int (nI 0)), (0, .ref 114), (1, .int v)], [], M31)
  refine Wn.run (tab := tb_m_four) rfl 6 (c' := (30, [(2, .int (nI 0)), (0, .ref 114), (1, .int v)], [], (mI M31 114 (upd (M31.1 114) 2 ((M31.1 114 2) + (nI 1)))))) (o := [shp 114 = (0, 10), shp 114 = (0, 10)]) rfl ⟨rfl, rfl⟩ ?_
  rw [show (M31.1 114 2) = (nI (((L + 1) + 1) + 1)) from (fr_eq hk33 (show (upd (upd (upd g 2 (nI (L + 1))) 2 (nI ((L + 1) + 1))) 2 (nI (((L + 1) + 1) + 1))) 2 = (nI (((L + 1) + 1) + 1)) from pk_us))]
  rw [show ((nI (((L + 1) + 1) + 1)) + (nI 1)) = (nI ((((L + 1) + 1) + 1) + 1)) from (n_add rfl rfl)]
  generalize hM37 : (mI M31 114 (upd (M31.1 114) 2 (nI ((((L + 1) + 1) + 1) + 1)))) = M36
  have hk38 := fI_up hM37 hk33
  have hk39 := fI_ne hM37 (by decide) hk34
  have hF40 := fr_sI hF35 hM37 (by decide)
  show Wn _ 43 _ (30, [(2, .int (nI 0)), (0, .ref 114), (1, .int v)], [], M36)
  refine Wn.run (tab := tb_m_four) rfl 4 (c' := (if (-8 : Int32) < 0 then 36 else 7, [(2, .int (-8 : Int32)), (0, .ref 114), (1, .int v)], [], M36)) (o := []) rfl trivial ?_
  rw [if_pos (show (-8 : Int32) < 0 by decide)]
  show Wn _ 43 _ (36, [(2, .int (-8 : Int32)), (0, .ref 114), (1, .int v)], [], M36)
  exact Wn.vret rfl ⟨rfl, by rw [hk39]; rfl, by rw [hk38, upd_u2, upd_u2, upd_u2], hF40⟩
def fedT (T : Nat → Nat) (L : Nat) (a b c d e : Int32) : Nat → Nat := putT (putT (putT (putT (putT T L a) (L + 4) b) (L + 4 + 4) c) (L + 4 + 4 + 4) d) (L + 4 + 4 + 4 + 4) e
/-- behind what is fed, or ended: the answer, the tape; K: slots of the object that are written -/
def PF1 (M0 : Mm) (pr po k : Nat) (TX : (Nat → Int32) → (Nat → Nat) → Nat → Prop) (K : List Nat) (T : Nat → Nat) (L : Nat) (r : Option Value) : Po := fun r0 M' => r0 = r ∧ TX (M'.1 pr) T L ∧ M'.1 po k = nI L ∧ Gx K (M0.1 po) (M'.1 po) ∧ Fr [po, pr] M0 M'
set_option maxRecDepth 20000 in
theorem c_i_feed (d : Nat) (M : Mm) (T : Nat → Nat) (L : Nat) (a b c d9 e : Int32) (hL : M.1 0 1 = nI L) (hT : TB (M.1 1) T L) (h20 : L + 20 ≤ 940) : Wn (d + 1) 0 (PF1 M 1 0 1 TB [1] (fedT T L a b c d9 e) (L + 20) (some (.int (nI (L + 20))))) (0, lv_args 0 [.ref 0, .int a, .int b, .int c, .int d9, .int e], [], M) := by
  have hF := fr_rf [0, 1] M
  obtain ⟨g, hg⟩ : ∃ g, M.1 0 = g := ⟨_, rfl⟩
  obtain ⟨u, hu⟩ : ∃ u, M.1 1 = u := ⟨_, rfl⟩
  rw [hg] at hL
  rw [hu] at hT
  refine Wn.run (tab := tb_i_feed) rfl 6 (c' := (if ((M.1 0 1) + (nI 20)) ≤ (nI 940) then 15 else 13, [(0, .ref 0), (1, .int a), (2, .int b), (3, .int c), (4, .int d9), (5, .int e)], [], M)) (o := [shp 0 = (0, 9)]) rfl rfl ?_
  refine Wn.br (fun h1 => ?_) (fun h1 => ?_)
  · show Wn _ 0 _ (15, [(0, .ref 0), (1, .int a), (2, .int b), (3, .int c), (4, .int d9), (5, .int e)], [], M)
    have h1 := (n_le (n_add (fr_eq hg (show g 1 = (nI L) from hL)) rfl) rfl (by omega) (by omega)).mp h1
    refine Wn.run (tab := tb_i_feed) rfl 2 (c' := (17, [(0, .ref 0), (1, .int a), (2, .int b), (3, .int c), (4, .int d9), (5, .int e)], [.int a, .ref 0], M)) (o := []) rfl trivial ?_
    refine Wn.callV (p := 0) (n := 2) (ix := 100) (ci := (9)) (P4 M 1 0 1 (put4 cb u L a) g (L + 4)) [.int a] [] rfl rfl rfl rfl (Nat.le_of_ble_eq_true rfl) (Nat.le_of_ble_eq_true rfl) (c_i_putBytes _ M g u L a hg hL hu (by omega)) ?_
    rintro _ M1 ⟨rfl, hu2, hg3, hF4⟩
    show Wn _ 0 _ (20, [(0, .ref 0), (1, .int a), (2, .int b), (3, .int c), (4, .int d9), (5, .int e)], [], M1)
    have hF5 := fr_tr hF hF4 (by decide)
    refine Wn.run (tab := tb_i_feed) rfl 2 (c' := (22, [(0, .ref 0), (1, .int a), (2, .int b), (3, .int c), (4, .int d9), (5, .int e)], [.int b, .ref 0], M1)) (o := []) rfl trivial ?_
    refine Wn.callV (p := 0) (n := 2) (ix := 100) (ci := (9)) (P4 M1 1 0 1 (put4 cb (put4 cb u L a) (L + 4) b) (upd g 1 (nI (L + 4))) ((L + 4) + 4)) [.int b] [] rfl rfl rfl rfl (Nat.le_of_ble_eq_true rfl) (Nat.le_of_ble_eq_true rfl) (c_i_putBytes _ M1 (upd g 1 (nI (L + 4))) (put4 cb u L a) (L + 4) b hg3 pk_us hu2 (by omega)) ?_
    rintro _ M6 ⟨rfl, hu7, hg8, hF9⟩
    show Wn _ 0 _ (25, [(0, .ref 0), (1, .int a), (2, .int b), (3, .int c), (4, .int d9), (5, .int e)], [], M6)
    have hF10 := fr_tr hF5 hF9 (by decide)
    refine Wn.run (tab := tb_i_feed) rfl 2 (c' := (27, [(0, .ref 0), (1, .int a), (2, .int b), (3, .int c), (4, .int d9), (5, .int e)], [.int c, .ref 0], M6)) (o := []) rfl trivial ?_
    refine Wn.callV (p := 0) (n := 2) (ix := 100) (ci := (9)) (P4 M6 1 0 1 (put4 cb (put4 cb (put4 cb u L a) (L + 4) b) ((L + 4) + 4) c) (upd (upd g 1 (nI (L + 4))) 1 (nI ((L + 4) + 4))) (((L + 4) + 4) + 4)) [.int c] [] rfl rfl rfl rfl (Nat.le_of_ble_eq_true rfl) (Nat.le_of_ble_eq_true rfl) (c_i_putBytes _ M6 (upd (upd g 1 (nI (L + 4))) 1 (nI ((L + 4) + 4))) (put4 cb (put4 cb u L a) (L + 4) b) ((L + 4) + 4) c hg8 pk_us hu7 (by omega)) ?_
    rintro _ M11 ⟨rfl, hu12, hg13, hF14⟩
    show Wn _ 0 _ (30, [(0, .ref 0), (1, .int a), (2, .int b), (3, .int c), (4, .int d9), (5, .int e)], [], M11)
    have hF15 := fr_tr hF10 hF14 (by decide)
    refine Wn.run (tab := tb_i_feed) rfl 2 (c' := (33, [(0, .ref 0), (1, .int a), (2, .int b), (3, .int c), (4, .int d9), (5, .int e)], [.int d9, .ref 0], M11)) (o := []) rfl trivial ?_
    refine Wn.callV (p := 0) (n := 2) (ix := 100) (ci := (9)) (P4 M11 1 0 1 (put4 cb (put4 cb (put4 cb (put4 cb u L a) (L + 4) b) ((L + 4) + 4) c) (((L + 4) + 4) + 4) d9) (upd (upd (upd g 1 (nI (L + 4))) 1 (nI ((L + 4) + 4))) 1 (nI (((L + 4) + 4) + 4))) ((((L + 4) + 4) + 4) + 4)) [.int d9] [] rfl rfl rfl rfl (Nat.le_of_ble_eq_true rfl) (Nat.le_of_ble_eq_true rfl) (c_i_putBytes _ M11 (upd (upd (upd g 1 (nI (L + 4))) 1 (nI ((L + 4) + 4))) 1 (nI (((L + 4) + 4) + 4))) (put4 cb (put4 cb (put4 cb u L a) (L + 4) b) ((L + 4) + 4) c) (((L + 4) + 4) + 4) d9 hg13 pk_us hu12 (by omega)) ?_
    rintro _ M16 ⟨rfl, hu17, hg18, hF19⟩
    show Wn _ 0 _ (36, [(0, .ref 0), (1, .int a), (2, .int b), (3, .int c), (4, .int d9), (5, .int e)], [], M16)
    have hF20 := fr_tr hF15 hF19 (by decide)
    refine Wn.run (tab := tb_i_feed) rfl 2 (c' := (39, [(0, .ref 0), (1, .int a), (2, .int b), (3, .int c), (4, .int d9), (5, .int e)], [.int e, .ref 0], M16)) (o := []) rfl trivial ?_
    refine Wn.callV (p := 0) (n := 2) (ix := 100) (ci := (9)) (P4 M16 1 0 1 (put4 cb (put4 cb (put4 cb (put4 cb (put4 cb u L a) (L + 4) b) ((L + 4) + 4) c) (((L + 4) + 4) + 4) d9) ((((L + 4) + 4) + 4) + 4) e) (upd (upd (upd (upd g 1 (nI (L + 4))) 1 (nI ((L + 4) + 4))) 1 (nI (((L + 4) + 4) + 4))) 1 (nI ((((L + 4) + 4) + 4) + 4))) (((((L + 4) + 4) + 4) + 4) + 4)) [.int e] [] rfl rfl rfl rfl (Nat.le_of_ble_eq_true rfl) (Nat.le_of_ble_eq_true rfl) (c_i_putBytes _ M16 (upd (upd (upd (upd g 1 (nI (L + 4))) 1 (nI ((L + 4) + 4))) 1 (nI (((L + 4) + 4) + 4))) 1 (nI ((((L + 4) + 4) + 4) + 4))) (put4 cb (put4 cb (put4 cb (put4 cb u L a) (L + 4) b) ((L + 4) + 4) c) (((L + 4) + 4) + 4) d9) ((((L + 4) + 4) + 4) + 4) e hg18 pk_us hu17 (by omega)) ?_
    rintro _ M21 ⟨rfl, hu22, hg23, hF24⟩
    show Wn _ 0 _ (42, [(0, .ref 0), (1, .int a), (2, .int b), (3, .int c), (4, .int d9), (5, .int e)], [], M21)
    have hF25 := fr_tr hF20 hF24 (by decide)
    refine Wn.run (tab := tb_i_feed) rfl 2 (c' := (46, [(0, .ref 0), (1, .int a), (2, .int b), (3, .int c), (4, .int d9), (5, .int e)], [.int (M21.1 0 1)], M21)) (o := [shp 0 = (0, 9)]) rfl rfl ?_
    rw [show (M21.1 0 1) = (nI (((((L + 4) + 4) + 4) + 4) + 4)) from (fr_eq hg23 (show (upd (upd (upd (upd (upd g 1 (nI (L + 4))) 1 (nI ((L + 4) + 4))) 1 (nI (((L + 4) + 4) + 4))) 1 (nI ((((L + 4) + 4) + 4) + 4))) 1 (nI (((((L + 4) + 4) + 4) + 4) + 4))) 1 = (nI (((((L + 4) + 4) + 4) + 4) + 4)) from pk_us))]
    exact Wn.iret rfl ⟨rfl, by rw [hu22]; exact TB_4 _ (TB_4 _ (TB_4 _ (TB_4 _ (TB_4 _ hT)))), by rw [hg23]; exact pk_us, by rw [hg, hg23]; exact (Gx_up (Gx_up (Gx_up (Gx_up (Gx_up (Gx_rf _ _) (by decide)) (by decide)) (by decide)) (by decide)) (by decide)), hF25⟩
  · show Wn _ 0 _ (13, [(0, .ref 0), (1, .int a), (2, .int b), (3, .int c), (4, .int d9), (5, .int e)], [], M)
    have h1 := mt (n_le (n_add (fr_eq hg (show g 1 = (nI L) from hL)) rfl) rfl (by omega) (by omega)).mpr h1
    refine Wn.run (tab := tb_i_feed) rfl 1 (c' := (14, [(0, .ref 0), (1, .int a), (2, .int b), (3, .int c), (4, .int d9), (5, .int e)], [.int (-1 : Int32)], M)) (o := []) rfl trivial ?_
    exact absurd h1 (by omega)
set_option maxRecDepth 20000 in
theorem c_i_feedX (d : Nat) (M : Mm) (T : Nat → Nat) (L : Nat) (a b c d9 e : Int32) (hL : M.1 0 1 = nI L) (hT : TB (M.1 1) T L) (h20 : L ≤ 940 ∧ ¬ L + 20 ≤ 940) : Wn (d + 1) 0 (PF1 M 1 0 1 TB [1] T L (some (.int (-1)))) (0, lv_args 0 [.ref 0, .int a, .int b, .int c, .int d9, .int e], [], M) := by
  have hF := fr_rf [0, 1] M
  obtain ⟨g, hg⟩ : ∃ g, M.1 0 = g := ⟨_, rfl⟩
  obtain ⟨u, hu⟩ : ∃ u, M.1 1 = u := ⟨_, rfl⟩
  rw [hg] at hL
  rw [hu] at hT
  refine Wn.run (tab := tb_i_feed) rfl 6 (c' := (if ((M.1 0 1) + (nI 20)) ≤ (nI 940) then 15 else 13, [(0, .ref 0), (1, .int a), (2, .int b), (3, .int c), (4, .int d9), (5, .int e)], [], M)) (o := [shp 0 = (0, 9)]) rfl rfl ?_
  refine Wn.br (fun h1 => ?_) (fun h1 => ?_)
  · show Wn _ 0 _ (15, [(0, .ref 0), (1, .int a), (2, .int b), (3, .int c), (4, .int d9), (5, .int e)], [], M)
    have h1 := (n_le (n_add (fr_eq hg (show g 1 = (nI L) from hL)) rfl) rfl (by omega) (by omega)).mp h1
    refine Wn.run (tab := tb_i_feed) rfl 2 (c' := (17, [(0, .ref 0), (1, .int a), (2, .int b), (3, .int c), (4, .int d9), (5, .int e)], [.int a, .ref 0], M)) (o := []) rfl trivial ?_
    refine Wn.callV (p := 0) (n := 2) (ix := 100) (ci := (9)) (P4 M 1 0 1 (put4 cb u L a) g (L + 4)) [.int a] [] rfl rfl rfl rfl (Nat.le_of_ble_eq_true rfl) (Nat.le_of_ble_eq_true rfl) (c_i_putBytes _ M g u L a hg hL hu (by omega)) ?_
    rintro _ M1 ⟨rfl, hu2, hg3, hF4⟩
    show Wn _ 0 _ (20, [(0, .ref 0), (1, .int a), (2, .int b), (3, .int c), (4, .int d9), (5, .int e)], [], M1)
    have hF5 := fr_tr hF hF4 (by decide)
    refine Wn.run (tab := tb_i_feed) rfl 2 (c' := (22, [(0, .ref 0), (1, .int a), (2, .int b), (3, .int c), (4, .int d9), (5, .int e)], [.int b, .ref 0], M1)) (o := []) rfl trivial ?_
    refine Wn.callV (p := 0) (n := 2) (ix := 100) (ci := (9)) (P4 M1 1 0 1 (put4 cb (put4 cb u L a) (L + 4) b) (upd g 1 (nI (L + 4))) ((L + 4) + 4)) [.int b] [] rfl rfl rfl rfl (Nat.le_of_ble_eq_true rfl) (Nat.le_of_ble_eq_true rfl) (c_i_putBytes _ M1 (upd g 1 (nI (L + 4))) (put4 cb u L a) (L + 4) b hg3 pk_us hu2 (by omega)) ?_
    rintro _ M6 ⟨rfl, hu7, hg8, hF9⟩
    show Wn _ 0 _ (25, [(0, .ref 0), (1, .int a), (2, .int b), (3, .int c), (4, .int d9), (5, .int e)], [], M6)
    have hF10 := fr_tr hF5 hF9 (by decide)
    refine Wn.run (tab := tb_i_feed) rfl 2 (c' := (27, [(0, .ref 0), (1, .int a), (2, .int b), (3, .int c), (4, .int d9), (5, .int e)], [.int c, .ref 0], M6)) (o := []) rfl trivial ?_
    refine Wn.callV (p := 0) (n := 2) (ix := 100) (ci := (9)) (P4 M6 1 0 1 (put4 cb (put4 cb (put4 cb u L a) (L + 4) b) ((L + 4) + 4) c) (upd (upd g 1 (nI (L + 4))) 1 (nI ((L + 4) + 4))) (((L + 4) + 4) + 4)) [.int c] [] rfl rfl rfl rfl (Nat.le_of_ble_eq_true rfl) (Nat.le_of_ble_eq_true rfl) (c_i_putBytes _ M6 (upd (upd g 1 (nI (L + 4))) 1 (nI ((L + 4) + 4))) (put4 cb (put4 cb u L a) (L + 4) b) ((L + 4) + 4) c hg8 pk_us hu7 (by omega)) ?_
    rintro _ M11 ⟨rfl, hu12, hg13, hF14⟩
    show Wn _ 0 _ (30, [(0, .ref 0), (1, .int a), (2, .int b), (3, .int c), (4, .int d9), (5, .int e)], [], M11)
    have hF15 := fr_tr hF10 hF14 (by decide)
    refine Wn.run (tab := tb_i_feed) rfl 2 (c' := (33, [(0, .ref 0), (1, .int a), (2, .int b), (3, .int c), (4, .int d9), (5, .int e)], [.int d9, .ref 0], M11)) (o := []) rfl trivial ?_
    refine Wn.callV (p := 0) (n := 2) (ix := 100) (ci := (9)) (P4 M11 1 0 1 (put4 cb (put4 cb (put4 cb (put4 cb u L a) (L + 4) b) ((L + 4) + 4) c) (((L + 4) + 4) + 4) d9) (upd (upd (upd g 1 (nI (L + 4))) 1 (nI ((L + 4) + 4))) 1 (nI (((L + 4) + 4) + 4))) ((((L + 4) + 4) + 4) + 4)) [.int d9] [] rfl rfl rfl rfl (Nat.le_of_ble_eq_true rfl) (Nat.le_of_ble_eq_true rfl) (c_i_putBytes _ M11 (upd (upd (upd g 1 (nI (L + 4))) 1 (nI ((L + 4) + 4))) 1 (nI (((L + 4) + 4) + 4))) (put4 cb (put4 cb (put4 cb u L a) (L + 4) b) ((L + 4) + 4) c) (((L + 4) + 4) + 4) d9 hg13 pk_us hu12 (by omega)) ?_
    rintro _ M16 ⟨rfl, hu17, hg18, hF19⟩
    show Wn _ 0 _ (36, [(0, .ref 0), (1, .int a), (2, .int b), (3, .int c), (4, .int d9), (5, .int e)], [], M16)
    have hF20 := fr_tr hF15 hF19 (by decide)
    refine Wn.run (tab := tb_i_feed) rfl 2 (c' := (39, [(0, .ref 0), (1, .int a), (2, .int b), (3, .int c), (4, .int d9), (5, .int e)], [.int e, .ref 0], M16)) (o := []) rfl trivial ?_
    refine Wn.callV (p := 0) (n := 2) (ix := 100) (ci := (9)) (P4 M16 1 0 1 (put4 cb (put4 cb (put4 cb (put4 cb (put4 cb u L a) (L + 4) b) ((L + 4) + 4) c) (((L + 4) + 4) + 4) d9) ((((L + 4) + 4) + 4) + 4) e) (upd (upd (upd (upd g 1 (nI (L + 4))) 1 (nI ((L + 4) + 4))) 1 (nI (((L + 4) + 4) + 4))) 1 (nI ((((L + 4) + 4) + 4) + 4))) (((((L + 4) + 4) + 4) + 4) + 4)) [.int e] [] rfl rfl rfl rfl (Nat.le_of_ble_eq_true rfl) (Nat.le_of_ble_eq_true rfl) (c_i_putBytes _ M16 (upd (upd (upd (upd g 1 (nI (L + 4))) 1 (nI ((L + 4) + 4))) 1 (nI (((L + 4) + 4) + 4))) 1 (nI ((((L + 4) + 4) + 4) + 4))) (put4 cb (put4 cb (put4 cb (put4 cb u L a) (L + 4) b) ((L + 4) + 4) c) (((L + 4) + 4) + 4) d9) ((((L + 4) + 4) + 4) + 4) e hg18 pk_us hu17 (by omega)) ?_
    rintro _ M21 ⟨rfl, hu22, hg23, hF24⟩
    show Wn _ 0 _ (42, [(0, .ref 0), (1, .int a), (2, .int b), (3, .int c), (4, .int d9), (5, .int e)], [], M21)
    have hF25 := fr_tr hF20 hF24 (by decide)
    refine Wn.run (tab := tb_i_feed) rfl 2 (c' := (46, [(0, .ref 0), (1, .int a), (2, .int b), (3, .int c), (4, .int d9), (5, .int e)], [.int (M21.1 0 1)], M21)) (o := [shp 0 = (0, 9)]) rfl rfl ?_
    rw [show (M21.1 0 1) = (nI (((((L + 4) + 4) + 4) + 4) + 4)) from (fr_eq hg23 (show (upd (upd (upd (upd (upd g 1 (nI (L + 4))) 1 (nI ((L + 4) + 4))) 1 (nI (((L + 4) + 4) + 4))) 1 (nI ((((L + 4) + 4) + 4) + 4))) 1 (nI (((((L + 4) + 4) + 4) + 4) + 4))) 1 = (nI (((((L + 4) + 4) + 4) + 4) + 4)) from pk_us))]
    exact absurd h1 (by omega)
  · show Wn _ 0 _ (13, [(0, .ref 0), (1, .int a), (2, .int b), (3, .int c), (4, .int d9), (5, .int e)], [], M)
    have h1 := mt (n_le (n_add (fr_eq hg (show g 1 = (nI L) from hL)) rfl) rfl (by omega) (by omega)).mpr h1
    refine Wn.run (tab := tb_i_feed) rfl 1 (c' := (14, [(0, .ref 0), (1, .int a), (2, .int b), (3, .int c), (4, .int d9), (5, .int e)], [.int (-1 : Int32)], M)) (o := []) rfl trivial ?_
    exact Wn.iret rfl ⟨rfl, by rw [hu]; exact hT, by rw [hg]; exact hL, by rw [hg]; exact (Gx_rf _ _), hF⟩
set_option maxRecDepth 20000 in
theorem c_m_feed (d : Nat) (M : Mm) (T : Nat → Nat) (L : Nat) (a b c d9 e : Int32) (hL : M.1 114 2 = nI L) (hT : TM (M.1 115) T L) (h20 : L + 20 ≤ 940) : Wn (d + 1) 42 (PF1 M 115 114 2 TM [0, 2] (fedT T L a b c d9 e) (L + 20) (some (.int (nI (L + 20))))) (0, lv_args 0 [.ref 114, .int a, .int b, .int c, .int d9, .int e], [], M) := by
  have hF := fr_rf [114, 115] M
  obtain ⟨g, hg⟩ : ∃ g, M.1 114 = g := ⟨_, rfl⟩
  obtain ⟨u, hu⟩ : ∃ u, M.1 115 = u := ⟨_, rfl⟩
  rw [hg] at hL
  rw [hu] at hT
  refine Wn.run (tab := tb_m_feed) rfl 3 (c' := (5, [(0, .ref 114), (1, .int a), (2, .int b), (3, .int c), (4, .int d9), (5, .int e)], [], (mI M 114 (upd (M.1 114) 0 (nI 0))))) (o := [shp 114 = (0, 10)]) rfl rfl ?_
  generalize hM2 : (mI M 114 (upd (M.1 114) 0 (nI 0))) = M1
  have hk3 := fI_up hM2 hg
  have hk4 := fI_ne hM2 (by decide) hu
  have hF5 := fr_sI hF hM2 (by decide)
  show Wn _ 42 _ (5, [(0, .ref 114), (1, .int a), (2, .int b), (3, .int c), (4, .int d9), (5, .int e)], [], M1)
  refine Wn.run (tab := tb_m_feed) rfl 6 (c' := (if ((M1.1 114 2) + (nI 20)) ≤ (nI 940) then 20 else 18, [(0, .ref 114), (1, .int a), (2, .int b), (3, .int c), (4, .int d9), (5, .int e)], [], M1)) (o := [shp 114 = (0, 10)]) rfl rfl ?_
  refine Wn.br (fun h1 => ?_) (fun h1 => ?_)
  · show Wn _ 42 _ (20, [(0, .ref 114), (1, .int a), (2, .int b), (3, .int c), (4, .int d9), (5, .int e)], [], M1)
    have h1 := (n_le (n_add (fr_eq hk3 (show (upd g 0 (nI 0)) 2 = (nI L) from ((pk_un (by decide)).trans hL))) rfl) rfl (by omega) (by omega)).mp h1
    refine Wn.run (tab := tb_m_feed) rfl 2 (c' := (22, [(0, .ref 114), (1, .int a), (2, .int b), (3, .int c), (4, .int d9), (5, .int e)], [.int a, .ref 114], M1)) (o := []) rfl trivial ?_
    refine Wn.callV (p := 114) (n := 2) (ix := 10) (ci := (10)) (P4 M1 115 114 2 (put4 mb u L a) (upd g 0 (nI 0)) (L + 4)) [.int a] [] rfl rfl rfl rfl (Nat.le_of_ble_eq_true rfl) (Nat.le_of_ble_eq_true rfl) (c_m_four _ M1 (upd g 0 (nI 0)) u L a hk3 ((pk_un (by decide)).trans hL) hk4 (by omega)) ?_
    rintro _ M6 ⟨rfl, hu7, hg8, hF9⟩
    show Wn _ 42 _ (25, [(0, .ref 114), (1, .int a), (2, .int b), (3, .int c), (4, .int d9), (5, .int e)], [], M6)
    have hF10 := fr_tr hF5 hF9 (by decide)
    refine Wn.run (tab := tb_m_feed) rfl 2 (c' := (27, [(0, .ref 114), (1, .int a), (2, .int b), (3, .int c), (4, .int d9), (5, .int e)], [.int b, .ref 114], M6)) (o := []) rfl trivial ?_
    refine Wn.callV (p := 114) (n := 2) (ix := 10) (ci := (10)) (P4 M6 115 114 2 (put4 mb (put4 mb u L a) (L + 4) b) (upd (upd g 0 (nI 0)) 2 (nI (L + 4))) ((L + 4) + 4)) [.int b] [] rfl rfl rfl rfl (Nat.le_of_ble_eq_true rfl) (Nat.le_of_ble_eq_true rfl) (c_m_four _ M6 (upd (upd g 0 (nI 0)) 2 (nI (L + 4))) (put4 mb u L a) (L + 4) b hg8 pk_us hu7 (by omega)) ?_
    rintro _ M11 ⟨rfl, hu12, hg13, hF14⟩
    show Wn _ 42 _ (30, [(0, .ref 114), (1, .int a), (2, .int b), (3, .int c), (4, .int d9), (5, .int e)], [], M11)
    have hF15 := fr_tr hF10 hF14 (by decide)
    refine Wn.run (tab := tb_m_feed) rfl 2 (c' := (32, [(0, .ref 114), (1, .int a), (2, .int b), (3, .int c), (4, .int d9), (5, .int e)], [.int c, .ref 114], M11)) (o := []) rfl trivial ?_
    refine Wn.callV (p := 114) (n := 2) (ix := 10) (ci := (10)) (P4 M11 115 114 2 (put4 mb (put4 mb (put4 mb u L a) (L + 4) b) ((L + 4) + 4) c) (upd (upd (upd g 0 (nI 0)) 2 (nI (L + 4))) 2 (nI ((L + 4) + 4))) (((L + 4) + 4) + 4)) [.int c] [] rfl rfl rfl rfl (Nat.le_of_ble_eq_true rfl) (Nat.le_of_ble_eq_true rfl) (c_m_four _ M11 (upd (upd (upd g 0 (nI 0)) 2 (nI (L + 4))) 2 (nI ((L + 4) + 4))) (put4 mb (put4 mb u L a) (L + 4) b) ((L + 4) + 4) c hg13 pk_us hu12 (by omega)) ?_
    rintro _ M16 ⟨rfl, hu17, hg18, hF19⟩
    show Wn _ 42 _ (35, [(0, .ref 114), (1, .int a), (2, .int b), (3, .int c), (4, .int d9), (5, .int e)], [], M16)
    have hF20 := fr_tr hF15 hF19 (by decide)
    refine Wn.run (tab := tb_m_feed) rfl 2 (c' := (38, [(0, .ref 114), (1, .int a), (2, .int b), (3, .int c), (4, .int d9), (5, .int e)], [.int d9, .ref 114], M16)) (o := []) rfl trivial ?_
    refine Wn.callV (p := 114) (n := 2) (ix := 10) (ci := (10)) (P4 M16 115 114 2 (put4 mb (put4 mb (put4 mb (put4 mb u L a) (L + 4) b) ((L + 4) + 4) c) (((L + 4) + 4) + 4) d9) (upd (upd (upd (upd g 0 (nI 0)) 2 (nI (L + 4))) 2 (nI ((L + 4) + 4))) 2 (nI (((L + 4) + 4) + 4))) ((((L + 4) + 4) + 4) + 4)) [.int d9] [] rfl rfl rfl rfl (Nat.le_of_ble_eq_true rfl) (Nat.le_of_ble_eq_true rfl) (c_m_four _ M16 (upd (upd (upd (upd g 0 (nI 0)) 2 (nI (L + 4))) 2 (nI ((L + 4) + 4))) 2 (nI (((L + 4) + 4) + 4))) (put4 mb (put4 mb (put4 mb u L a) (L + 4) b) ((L + 4) + 4) c) (((L + 4) + 4) + 4) d9 hg18 pk_us hu17 (by omega)) ?_
    rintro _ M21 ⟨rfl, hu22, hg23, hF24⟩
    show Wn _ 42 _ (41, [(0, .ref 114), (1, .int a), (2, .int b), (3, .int c), (4, .int d9), (5, .int e)], [], M21)
    have hF25 := fr_tr hF20 hF24 (by decide)
    refine Wn.run (tab := tb_m_feed) rfl 2 (c' := (44, [(0, .ref 114), (1, .int a), (2, .int b), (3, .int c), (4, .int d9), (5, .int e)], [.int e, .ref 114], M21)) (o := []) rfl trivial ?_
    refine Wn.callV (p := 114) (n := 2) (ix := 10) (ci := (10)) (P4 M21 115 114 2 (put4 mb (put4 mb (put4 mb (put4 mb (put4 mb u L a) (L + 4) b) ((L + 4) + 4) c) (((L + 4) + 4) + 4) d9) ((((L + 4) + 4) + 4) + 4) e) (upd (upd (upd (upd (upd g 0 (nI 0)) 2 (nI (L + 4))) 2 (nI ((L + 4) + 4))) 2 (nI (((L + 4) + 4) + 4))) 2 (nI ((((L + 4) + 4) + 4) + 4))) (((((L + 4) + 4) + 4) + 4) + 4)) [.int e] [] rfl rfl rfl rfl (Nat.le_of_ble_eq_true rfl) (Nat.le_of_ble_eq_true rfl) (c_m_four _ M21 (upd (upd (upd (upd (upd g 0 (nI 0)) 2 (nI (L + 4))) 2 (nI ((L + 4) + 4))) 2 (nI (((L + 4) + 4) + 4))) 2 (nI ((((L + 4) + 4) + 4) + 4))) (put4 mb (put4 mb (put4 mb (put4 mb u L a) (L + 4) b) ((L + 4) + 4) c) (((L + 4) + 4) + 4) d9) ((((L + 4) + 4) + 4) + 4) e hg23 pk_us hu22 (by omega)) ?_
    rintro _ M26 ⟨rfl, hu27, hg28, hF29⟩
    show Wn _ 42 _ (47, [(0, .ref 114), (1, .int a), (2, .int b), (3, .int c), (4, .int d9), (5, .int e)], [], M26)
    have hF30 := fr_tr hF25 hF29 (by decide)
    refine Wn.run (tab := tb_m_feed) rfl 2 (c' := (51, [(0, .ref 114), (1, .int a), (2, .int b), (3, .int c), (4, .int d9), (5, .int e)], [.int (M26.1 114 2)], M26)) (o := [shp 114 = (0, 10)]) rfl rfl ?_
    rw [show (M26.1 114 2) = (nI (((((L + 4) + 4) + 4) + 4) + 4)) from (fr_eq hg28 (show (upd (upd (upd (upd (upd (upd g 0 (nI 0)) 2 (nI (L + 4))) 2 (nI ((L + 4) + 4))) 2 (nI (((L + 4) + 4) + 4))) 2 (nI ((((L + 4) + 4) + 4) + 4))) 2 (nI (((((L + 4) + 4) + 4) + 4) + 4))) 2 = (nI (((((L + 4) + 4) + 4) + 4) + 4)) from pk_us))]
    exact Wn.iret rfl ⟨rfl, by rw [hu27]; exact TM_4 _ (TM_4 _ (TM_4 _ (TM_4 _ (TM_4 _ hT)))), by rw [hg28]; exact pk_us, by rw [hg, hg28]; exact (Gx_up (Gx_up (Gx_up (Gx_up (Gx_up (Gx_up (Gx_rf _ _) (by decide)) (by decide)) (by decide)) (by decide)) (by decide)) (by decide)), hF30⟩
  · show Wn _ 42 _ (18, [(0, .ref 114), (1, .int a), (2, .int b), (3, .int c), (4, .int d9), (5, .int e)], [], M1)
    have h1 := mt (n_le (n_add (fr_eq hk3 (show (upd g 0 (nI 0)) 2 = (nI L) from ((pk_un (by decide)).trans hL))) rfl) rfl (by omega) (by omega)).mpr h1
    refine Wn.run (tab := tb_m_feed) rfl 1 (c' := (19, [(0, .ref 114), (1, .int a), (2, .int b), (3, .int c), (4, .int d9), (5, .int e)], [.int (-1 : Int32)], M1)) (o := []) rfl trivial ?_
    exact absurd h1 (by omega)
set_option maxRecDepth 20000 in
theorem c_m_feedX (d : Nat) (M : Mm) (T : Nat → Nat) (L : Nat) (a b c d9 e : Int32) (hL : M.1 114 2 = nI L) (hT : TM (M.1 115) T L) (h20 : L ≤ 940 ∧ ¬ L + 20 ≤ 940) : Wn (d + 1) 42 (PF1 M 115 114 2 TM [0, 2] T L (some (.int (-1)))) (0, lv_args 0 [.ref 114, .int a, .int b, .int c, .int d9, .int e], [], M) := by
  have hF := fr_rf [114, 115] M
  obtain ⟨g, hg⟩ : ∃ g, M.1 114 = g := ⟨_, rfl⟩
  obtain ⟨u, hu⟩ : ∃ u, M.1 115 = u := ⟨_, rfl⟩
  rw [hg] at hL
  rw [hu] at hT
  refine Wn.run (tab := tb_m_feed) rfl 3 (c' := (5, [(0, .ref 114), (1, .int a), (2, .int b), (3, .int c), (4, .int d9), (5, .int e)], [], (mI M 114 (upd (M.1 114) 0 (nI 0))))) (o := [shp 114 = (0, 10)]) rfl rfl ?_
  generalize hM2 : (mI M 114 (upd (M.1 114) 0 (nI 0))) = M1
  have hk3 := fI_up hM2 hg
  have hk4 := fI_ne hM2 (by decide) hu
  have hF5 := fr_sI hF hM2 (by decide)
  show Wn _ 42 _ (5, [(0, .ref 114), (1, .int a), (2, .int b), (3, .int c), (4, .int d9), (5, .int e)], [], M1)
  refine Wn.run (tab := tb_m_feed) rfl 6 (c' := (if ((M1.1 114 2) + (nI 20)) ≤ (nI 940) then 20 else 18, [(0, .ref 114), (1, .int a), (2, .int b), (3, .int c), (4, .int d9), (5, .int e)], [], M1)) (o := [shp 114 = (0, 10)]) rfl rfl ?_
  refine Wn.br (fun h1 => ?_) (fun h1 => ?_)
  · show Wn _ 42 _ (20, [(0, .ref 114), (1, .int a), (2, .int b), (3, .int c), (4, .int d9), (5, .int e)], [], M1)
    have h1 := (n_le (n_add (fr_eq hk3 (show (upd g 0 (nI 0)) 2 = (nI L) from ((pk_un (by decide)).trans hL))) rfl) rfl (by omega) (by omega)).mp h1
    refine Wn.run (tab := tb_m_feed) rfl 2 (c' := (22, [(0, .ref 114), (1, .int a), (2, .int b), (3, .int c), (4, .int d9), (5, .int e)], [.int a, .ref 114], M1)) (o := []) rfl trivial ?_
    refine Wn.callV (p := 114) (n := 2) (ix := 10) (ci := (10)) (P4 M1 115 114 2 (put4 mb u L a) (upd g 0 (nI 0)) (L + 4)) [.int a] [] rfl rfl rfl rfl (Nat.le_of_ble_eq_true rfl) (Nat.le_of_ble_eq_true rfl) (c_m_four _ M1 (upd g 0 (nI 0)) u L a hk3 ((pk_un (by decide)).trans hL) hk4 (by omega)) ?_
    rintro _ M6 ⟨rfl, hu7, hg8, hF9⟩
    show Wn _ 42 _ (25, [(0, .ref 114), (1, .int a), (2, .int b), (3, .int c), (4, .int d9), (5, .int e)], [], M6)
    have hF10 := fr_tr hF5 hF9 (by decide)
    refine Wn.run (tab := tb_m_feed) rfl 2 (c' := (27, [(0, .ref 114), (1, .int a), (2, .int b), (3, .int c), (4, .int d9), (5, .int e)], [.int b, .ref 114], M6)) (o := []) rfl trivial ?_
    refine Wn.callV (p := 114) (n := 2) (ix := 10) (ci := (10)) (P4 M6 115 114 2 (put4 mb (put4 mb u L a) (L + 4) b) (upd (upd g 0 (nI 0)) 2 (nI (L + 4))) ((L + 4) + 4)) [.int b] [] rfl rfl rfl rfl (Nat.le_of_ble_eq_true rfl) (Nat.le_of_ble_eq_true rfl) (c_m_four _ M6 (upd (upd g 0 (nI 0)) 2 (nI (L + 4))) (put4 mb u L a) (L + 4) b hg8 pk_us hu7 (by omega)) ?_
    rintro _ M11 ⟨rfl, hu12, hg13, hF14⟩
    show Wn _ 42 _ (30, [(0, .ref 114), (1, .int a), (2, .int b), (3, .int c), (4, .int d9), (5, .int e)], [], M11)
    have hF15 := fr_tr hF10 hF14 (by decide)
    refine Wn.run (tab := tb_m_feed) rfl 2 (c' := (32, [(0, .ref 114), (1, .int a), (2, .int b), (3, .int c), (4, .int d9), (5, .int e)], [.int c, .ref 114], M11)) (o := []) rfl trivial ?_
    refine Wn.callV (p := 114) (n := 2) (ix := 10) (ci := (10)) (P4 M11 115 114 2 (put4 mb (put4 mb (put4 mb u L a) (L + 4) b) ((L + 4) + 4) c) (upd (upd (upd g 0 (nI 0)) 2 (nI (L + 4))) 2 (nI ((L + 4) + 4))) (((L + 4) + 4) + 4)) [.int c] [] rfl rfl rfl rfl (Nat.le_of_ble_eq_true rfl) (Nat.le_of_ble_eq_true rfl) (c_m_four _ M11 (upd (upd (upd g 0 (nI 0)) 2 (nI (L + 4))) 2 (nI ((L + 4) + 4))) (put4 mb (put4 mb u L a) (L + 4) b) ((L + 4) + 4) c hg13 pk_us hu12 (by omega)) ?_
    rintro _ M16 ⟨rfl, hu17, hg18, hF19⟩
    show Wn _ 42 _ (35, [(0, .ref 114), (1, .int a), (2, .int b), (3, .int c), (4, .int d9), (5, .int e)], [], M16)
    have hF20 := fr_tr hF15 hF19 (by decide)
    refine Wn.run (tab := tb_m_feed) rfl 2 (c' := (38, [(0, .ref 114), (1, .int a), (2, .int b), (3, .int c), (4, .int d9), (5, .int e)], [.int d9, .ref 114], M16)) (o := []) rfl trivial ?_
    refine Wn.callV (p := 114) (n := 2) (ix := 10) (ci := (10)) (P4 M16 115 114 2 (put4 mb (put4 mb (put4 mb (put4 mb u L a) (L + 4) b) ((L + 4) + 4) c) (((L + 4) + 4) + 4) d9) (upd (upd (upd (upd g 0 (nI 0)) 2 (nI (L + 4))) 2 (nI ((L + 4) + 4))) 2 (nI (((L + 4) + 4) + 4))) ((((L + 4) + 4) + 4) + 4)) [.int d9] [] rfl rfl rfl rfl (Nat.le_of_ble_eq_true rfl) (Nat.le_of_ble_eq_true rfl) (c_m_four _ M16 (upd (upd (upd (upd g 0 (nI 0)) 2 (nI (L + 4))) 2 (nI ((L + 4) + 4))) 2 (nI (((L + 4) + 4) + 4))) (put4 mb (put4 mb (put4 mb u L a) (L + 4) b) ((L + 4) + 4) c) (((L + 4) + 4) + 4) d9 hg18 pk_us hu17 (by omega)) ?_
    rintro _ M21 ⟨rfl, hu22, hg23, hF24⟩
    show Wn _ 42 _ (41, [(0, .ref 114), (1, .int a), (2, .int b), (3, .int c), (4, .int d9), (5, .int e)], [], M21)
    have hF25 := fr_tr hF20 hF24 (by decide)
    refine Wn.run (tab := tb_m_feed) rfl 2 (c' := (44, [(0, .ref 114), (1, .int a), (2, .int b), (3, .int c), (4, .int d9), (5, .int e)], [.int e, .ref 114], M21)) (o := []) rfl trivial ?_
    refine Wn.callV (p := 114) (n := 2) (ix := 10) (ci := (10)) (P4 M21 115 114 2 (put4 mb (put4 mb (put4 mb (put4 mb (put4 mb u L a) (L + 4) b) ((L + 4) + 4) c) (((L + 4) + 4) + 4) d9) ((((L + 4) + 4) + 4) + 4) e) (upd (upd (upd (upd (upd g 0 (nI 0)) 2 (nI (L + 4))) 2 (nI ((L + 4) + 4))) 2 (nI (((L + 4) + 4) + 4))) 2 (nI ((((L + 4) + 4) + 4) + 4))) (((((L + 4) + 4) + 4) + 4) + 4)) [.int e] [] rfl rfl rfl rfl (Nat.le_of_ble_eq_true rfl) (Nat.le_of_ble_eq_true rfl) (c_m_four _ M21 (upd (upd (upd (upd (upd g 0 (nI 0)) 2 (nI (L + 4))) 2 (nI ((L + 4) + 4))) 2 (nI (((L + 4) + 4) + 4))) 2 (nI ((((L + 4) + 4) + 4) + 4))) (put4 mb (put4 mb (put4 mb (put4 mb u L a) (L + 4) b) ((L + 4) + 4) c) (((L + 4) + 4) + 4) d9) ((((L + 4) + 4) + 4) + 4) e hg23 pk_us hu22 (by omega)) ?_
    rintro _ M26 ⟨rfl, hu27, hg28, hF29⟩
    show Wn _ 42 _ (47, [(0, .ref 114), (1, .int a), (2, .int b), (3, .int c), (4, .int d9), (5, .int e)], [], M26)
    have hF30 := fr_tr hF25 hF29 (by decide)
    refine Wn.run (tab := tb_m_feed) rfl 2 (c' := (51, [(0, .ref 114), (1, .int a), (2, .int b), (3, .int c), (4, .int d9), (5, .int e)], [.int (M26.1 114 2)], M26)) (o := [shp 114 = (0, 10)]) rfl rfl ?_
    rw [show (M26.1 114 2) = (nI (((((L + 4) + 4) + 4) + 4) + 4)) from (fr_eq hg28 (show (upd (upd (upd (upd (upd (upd g 0 (nI 0)) 2 (nI (L + 4))) 2 (nI ((L + 4) + 4))) 2 (nI (((L + 4) + 4) + 4))) 2 (nI ((((L + 4) + 4) + 4) + 4))) 2 (nI (((((L + 4) + 4) + 4) + 4) + 4))) 2 = (nI (((((L + 4) + 4) + 4) + 4) + 4)) from pk_us))]
    exact absurd h1 (by omega)
  · show Wn _ 42 _ (18, [(0, .ref 114), (1, .int a), (2, .int b), (3, .int c), (4, .int d9), (5, .int e)], [], M1)
    have h1 := mt (n_le (n_add (fr_eq hk3 (show (upd g 0 (nI 0)) 2 = (nI L) from ((pk_un (by decide)).trans hL))) rfl) rfl (by omega) (by omega)).mpr h1
    refine Wn.run (tab := tb_m_feed) rfl 1 (c' := (19, [(0, .ref 114), (1, .int a), (2, .int b), (3, .int c), (4, .int d9), (5, .int e)], [.int (-1 : Int32)], M1)) (o := []) rfl trivial ?_
    exact Wn.iret rfl ⟨rfl, by rw [hk4]; exact hT, by rw [hk3]; exact ((pk_un (by decide)).trans hL), by rw [hg, hk3]; exact (Gx_up (Gx_rf _ _) (by decide)), hF5⟩
