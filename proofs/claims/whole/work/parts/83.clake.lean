/-! The class's lake. -/
def PIL (M0 : Mm) (res : Flt ⊕ (Nat × Dst)) : Po := fun r0 M' => M'.1 0 1 = nI 0 ∧ Gx [1, 15] (M0.1 0) (M'.1 0) ∧ match res with
  | .inl f => r0 = some (.int ((-1 : Int32) - nI f.2)) ∧ M'.1 0 15 = nI f.1 ∧ Fr [0, 16, 17, 18, 19, 20, 21, 22, 23, 24, 77, 78] M0 M'
  | .inr (k, st) => r0 = some (.int (nI k)) ∧ M'.1 0 15 = nI 0 ∧ StC M' 6 (lkS st.2.1) ∧ NmC M' 3 st.2.2.1 (st.2.1 2) ∧ M'.1 11 3 = nI 0 ∧ M'.1 35 = upd (M0.1 35) 2 (nI 0) ∧ M'.1 6 11 = M0.1 6 11 ∧ M'.1 6 12 = M0.1 6 12 ∧ Fr [0, 3, 4, 5, 6, 7, 8, 9, 10, 11, 12, 13, 14, 16, 17, 18, 19, 20, 21, 22, 23, 24, 35, 77, 78] M0 M'
set_option maxRecDepth 20000 in
theorem c_i_lake (d : Nat) (M : Mm) (T : Nat → Nat) (L : Nat) (hL : M.1 0 1 = nI L) (hT : TB (M.1 1) T L) (hL9 : L ≤ 940) : Wn (d + 7) 3 (PIL M (lnS T L 900 (L + 1) 0 lk0)) (0, lv_args 0 [.ref 0], [], M) := by
  refine Wn.run (tab := tb_i_lake) rfl 2 (c' := (4, [(0, .ref 0)], [.int (nI 900), .ref 0], M)) (o := []) rfl trivial ?_
  refine Wn.callV (p := 0) (n := 2) (ix := 104) (ci := (9)) (POT M T L 900) [.int (nI 900)] [] rfl rfl rfl rfl (Nat.le_of_ble_eq_true rfl) (Nat.le_of_ble_eq_true rfl) (c_i_openTape (d + 3) M T L 900 hL hT hL9 (by decide)) ?_
  rintro _ M1 ⟨rfl, o1, o2, o3, o4⟩
  show Wn _ 3 _ (7, [(0, .ref 0)], [], M1)
  refine Wn.run (tab := tb_i_lake) rfl 2 (c' := (11, [(0, .ref 0)], [.ref 78], M1)) (o := [shp 0 = (0, 9)]) rfl rfl ?_
  refine Wn.callV (p := 78) (n := 1) (ix := 107) (ci := (6)) (PRl M1 T L (lnS T L 900 (L + 1) 0 lk0)) [] [] rfl rfl rfl rfl (Nat.le_of_ble_eq_true rfl) (Nat.le_of_ble_eq_true rfl) (c_tl_readLines d M1 T L 0 o1) ?_
  intro r0 M2 hres
  cases hq : lnS T L 900 (L + 1) 0 lk0 with
  | inl f =>
    rw [hq] at hres
    obtain ⟨a1, ⟨x, rfl⟩, a3⟩ := hres
    show Wn _ 3 _ (14, [(0, .ref 0)], [.int x], M2)
    refine Wn.run (tab := tb_i_lake) rfl 6 (c' := (26, [(1, .int x), (0, .ref 0)], [], (mI M2 0 (upd (M2.1 0) 15 (M2.1 77 11))))) (o := [shp 0 = (0, 9), shp 77 = (0, 3), shp 0 = (0, 9)]) rfl ⟨rfl, rfl, rfl⟩ ?_
    rw [a3.1]
    generalize hM3 : (mI M2 0 (upd (M2.1 0) 15 (nI f.1))) = M3
    have hd := RdD_fr (fr_1I hM3) (by decide) a3
    refine Wn.run (tab := tb_i_lake) rfl 2 (c' := (30, [(1, .int x), (0, .ref 0)], [.ref 77], M3)) (o := [shp 0 = (0, 9)]) rfl rfl ?_
    refine Wn.callV (p := 77) (n := 1) (ix := 115) (ci := (3)) (fun r0 M0 => r0 = some (.int (nI 1)) ∧ M3 = M0) [] [] rfl rfl rfl rfl (Nat.le_of_ble_eq_true rfl) (Nat.le_of_ble_eq_true rfl) (w_rd_failedD _ M3 f.1 hd.1 hd.2.2.1 _ ⟨rfl, rfl⟩) ?_
    rintro _ _ ⟨rfl, rfl⟩
    show Wn _ 3 _ (33, [(1, .int x), (0, .ref 0)], [.int (nI 1)], M3)
    refine Wn.run (tab := tb_i_lake) rfl 1 (c' := (if (nI 1) = 0 then 46 else 36, [(1, .int x), (0, .ref 0)], [], M3)) (o := []) rfl trivial ?_
    rw [if_neg (show ¬ nI 1 = 0 by decide)]
    refine Wn.run (tab := tb_i_lake) rfl 5 (c' := (45, [(1, .int x), (0, .ref 0)], [.int ((-1 : Int32) - (M3.1 77 12))], M3)) (o := [shp 0 = (0, 9), shp 77 = (0, 3)]) rfl ⟨rfl, rfl⟩ ?_
    rw [hd.2.1]
    have e0 : M3.1 0 = upd (M1.1 0) 15 (nI f.1) := by rw [mI_eq hM3, (a1 0 (by decide)).1]
    refine Wn.iret rfl ⟨?_, ?_, rfl, ?_, fr_tr (fr_tr (fr_up o4 (by decide)) a1 (by decide)) (fr_1I hM3) (by decide)⟩
    · rw [e0, pk_un (by decide)]; exact o2
    · rw [e0]; exact Gx_up (Gx_sub o3 (by decide)) (by decide)
    · rw [e0, pk_us]
  | inr ks =>
    obtain ⟨k, st⟩ := ks
    rw [hq] at hres
    obtain ⟨a1, rfl, ⟨ta, a3⟩, a4, a5, a6⟩ := hres
    have hw := lnS_w (T := T) (mo := 900) (L + 1) 0 lk0 (Nat.zero_le _) DW_0 (by decide) hq
    have d26 := hw.1.1.2.2.1
    show Wn _ 3 _ (14, [(0, .ref 0)], [.int (nI k)], M2)
    refine Wn.run (tab := tb_i_lake) rfl 6 (c' := (26, [(1, .int (nI k)), (0, .ref 0)], [], (mI M2 0 (upd (M2.1 0) 15 (M2.1 77 11))))) (o := [shp 0 = (0, 9), shp 77 = (0, 3), shp 0 = (0, 9)]) rfl ⟨rfl, rfl, rfl⟩ ?_
    rw [show M2.1 77 11 = nI 0 from a3.1.2.2.2.2.1]
    generalize hM3 : (mI M2 0 (upd (M2.1 0) 15 (nI 0))) = M3
    have hr := RdL_fr (fr_1I hM3) (by decide) a3
    have f3 := fr_1I hM3
    refine Wn.run (tab := tb_i_lake) rfl 2 (c' := (30, [(1, .int (nI k)), (0, .ref 0)], [.ref 77], M3)) (o := [shp 0 = (0, 9)]) rfl rfl ?_
    refine Wn.callV (p := 77) (n := 1) (ix := 115) (ci := (3)) (fun r0 M0 => r0 = some (.int (nI 0)) ∧ M3 = M0) [] [] rfl rfl rfl rfl (Nat.le_of_ble_eq_true rfl) (Nat.le_of_ble_eq_true rfl) (w_rd_failedL _ M3 hr.1.2.2.2.2.1 _ ⟨rfl, rfl⟩) ?_
    rintro _ _ ⟨rfl, rfl⟩
    show Wn _ 3 _ (33, [(1, .int (nI k)), (0, .ref 0)], [.int (nI 0)], M3)
    refine Wn.run (tab := tb_i_lake) rfl 1 (c' := (if (nI 0) = 0 then 46 else 36, [(1, .int (nI k)), (0, .ref 0)], [], M3)) (o := []) rfl trivial ?_
    rw [if_pos (show nI 0 = 0 by decide)]
    refine Wn.run (tab := tb_i_lake) rfl 4 (c' := (54, [(1, .int (nI k)), (0, .ref 0)], [.ref 15, .ref 2], M3)) (o := [shp 0 = (0, 9), shp 0 = (0, 9)]) rfl ⟨rfl, rfl⟩ ?_
    have hcd := CD_fr f3 (by decide) a4
    have e2 := lkS_lo st.2.1 (k := 2) (by decide)
    refine Wn.callV (p := 2) (n := 2) (ix := 122) (ci := (8)) (PSC M3 2 (lkS st.2.1) st.2.2.1 0 (fun _ => 0) (fun _ => 0) (fun _ => 0)) [.ref 15] [] rfl rfl rfl rfl (Nat.le_of_ble_eq_true rfl) (Nat.le_of_ble_eq_true rfl) (c_sc_copyFrom_2_15 (d + 5) M3 (lkS st.2.1) st.2.2.1 0 (fun _ => 0) (fun _ => 0) (fun _ => 0) (CD_st hcd d26) (by rw [e2]; exact hcd.2.1) ⟨by rw [(f3 24 (by decide)).1]; exact a5, by decide, fun i hi => absurd hi (by omega)⟩) ?_
    rintro _ M4 ⟨rfl, c1, c2, c3, c4, c5, c6⟩
    show Wn _ 3 _ (57, [(1, .int (nI k)), (0, .ref 0)], [], M4)
    refine Wn.run (tab := tb_i_lake) rfl 2 (c' := (61, [(1, .int (nI k)), (0, .ref 0)], [.ref 35], M4)) (o := [shp 0 = (0, 9)]) rfl rfl ?_
    refine Wn.callV (p := 35) (n := 1) (ix := 126) (ci := (1)) (PU M4 35 (upd (M4.1 35) 2 (nI 0))) [] [] rfl rfl rfl rfl (Nat.le_of_ble_eq_true rfl) (Nat.le_of_ble_eq_true rfl) (c_hy_clear_35 (d + 7 - 1) M4 _ rfl) ?_
    rintro _ M5 ⟨rfl, h1, h2, h3⟩
    show Wn _ 3 _ (64, [(1, .int (nI k)), (0, .ref 0)], [], M5)
    refine Wn.run (tab := tb_i_lake) rfl 1 (c' := (65, [(1, .int (nI k)), (0, .ref 0)], [.int (nI k)], M5)) (o := []) rfl trivial ?_
    have e0 : M5.1 0 = upd (M1.1 0) 15 (nI 0) := by rw [(h3 0 (by decide)).1, (c6 0 (by decide)).1, mI_eq hM3, (a1 0 (by decide)).1]
    rw [e2] at c2
    refine Wn.iret rfl ⟨?_, ?_, rfl, ?_, fr_st h3 c1 (by decide), NmC_fr h3 (by decide) c2, ?_, ?_, ?_, ?_, ?_⟩
    · rw [e0, pk_un (by decide)]; exact o2
    · rw [e0]; exact Gx_up (Gx_sub o3 (by decide)) (by decide)
    · rw [e0, pk_us]
    · rw [(h3 11 (by decide)).1]; exact c3.1
    · rw [h1, (c6 35 (by decide)).1, (f3 35 (by decide)).1, (a1 35 (by decide)).1, (o4 35 (by decide)).1]
    · rw [(h3 6 (by decide)).1]; refine Eq.trans c4 ?_; show M3.1 6 11 = M.1 6 11; rw [(f3 6 (by decide)).1, (a1 6 (by decide)).1, (o4 6 (by decide)).1]
    · rw [(h3 6 (by decide)).1]; refine Eq.trans c5 ?_; show M3.1 6 12 = M.1 6 12; rw [(f3 6 (by decide)).1, (a1 6 (by decide)).1, (o4 6 (by decide)).1]
    · exact fr_tr (fr_tr (fr_tr (fr_tr (fr_up o4 (by decide)) a1 (by decide)) f3 (by decide)) c6 (by decide)) h3 (by decide)
/-! Images of the class. -/
def PIi (M0 : Mm) (P c : Nat) (σ : Nat → Nat) (ν : Nat → Int64) (n : Nat) (A S N : Nat → Nat) : Po := fun r0 M' => r0 = some (.int (nI 1)) ∧ StC M' (P + 4) σ ∧ NmC M' (P + 1) ν (σ 2) ∧ SnC M' (P + 9) n A S N ∧ M'.1 29 = upd (M0.1 29) c (nI 1) ∧ Fr [29, P + 1, P + 2, P + 3, P + 4, P + 5, P + 6, P + 7, P + 8, P + 9, P + 10, P + 11, P + 12] M0 M'
def PIr (M0 : Mm) (σ : Nat → Nat) (ν : Nat → Int64) (n : Nat) (A S N : Nat → Nat) : Po := fun r0 M' => r0 = some (.int (nI 1)) ∧ StC M' 6 σ ∧ NmC M' 3 ν (σ 2) ∧ SnC M' 11 n A S N ∧ M'.1 35 = upd (M0.1 35) 2 (nI 0) ∧ M'.1 6 11 = M0.1 6 11 ∧ M'.1 6 12 = M0.1 6 12 ∧ Fr [3, 4, 5, 6, 7, 8, 9, 10, 11, 12, 13, 14, 35] M0 M'
theorem c_i_image_no (d : Nat) (M : Mm) (k : Int32) (hk : k < 0 ∨ ¬ k < (nI 2)) (Q : Po) (hQ : Q (some (.int (nI 0))) M) : Wn (d + 0) 38 Q (0, lv_args 0 [.ref 0, .int k], [], M) := by
  have z : Wn (d + 0) 38 Q (9, [(0, .ref 0), (1, .int k)], [], M) := by
    refine Wn.run (tab := tb_i_image) rfl 1 (c' := (10, [(0, .ref 0), (1, .int k)], [.int (nI 0)], M)) (o := []) rfl trivial ?_
    exact Wn.zret rfl (Or.inl rfl) hQ
  refine Wn.run (tab := tb_i_image) rfl 2 (c' := (if k < 0 then 9 else 4, [(0, .ref 0), (1, .int k)], [], M)) (o := []) rfl trivial ?_
  refine Wn.br (fun h => z) (fun h => ?_)
  refine Wn.run (tab := tb_i_image) rfl 3 (c' := (if k < (nI 2) then 11 else 9, [(0, .ref 0), (1, .int k)], [], M)) (o := []) rfl trivial ?_
  rw [if_neg (hk.elim (fun q => absurd q h) id)]
  exact z
theorem c_i_restore_no (d : Nat) (M : Mm) (k : Int32) (hk : k < 0 ∨ ¬ k < (nI 2)) (Q : Po) (hQ : Q (some (.int (nI 0))) M) : Wn (d + 0) 39 Q (0, lv_args 0 [.ref 0, .int k], [], M) := by
  have z : Wn (d + 0) 39 Q (18, [(0, .ref 0), (1, .int k)], [], M) := by
    refine Wn.run (tab := tb_i_restore) rfl 1 (c' := (19, [(0, .ref 0), (1, .int k)], [.int (nI 0)], M)) (o := []) rfl trivial ?_
    exact Wn.zret rfl (Or.inl rfl) hQ
  refine Wn.run (tab := tb_i_restore) rfl 2 (c' := (if k < 0 then 18 else 4, [(0, .ref 0), (1, .int k)], [], M)) (o := []) rfl trivial ?_
  refine Wn.br (fun h => z) (fun h => ?_)
  refine Wn.run (tab := tb_i_restore) rfl 3 (c' := (if (nI 2) ≤ k then 18 else 9, [(0, .ref 0), (1, .int k)], [], M)) (o := []) rfl trivial ?_
  rw [if_pos (Int32.not_lt.mp (hk.elim (fun q => absurd q h) id))]
  exact z
set_option maxRecDepth 20000 in
theorem c_i_image_0 (d : Nat) (M : Mm) (σ : Nat → Nat) (ν : Nat → Int64) (n : Nat) (A S N : Nat → Nat) (hS : StC M 6 σ) (hN : NmC M 3 ν (σ 2)) (hP : SnC M 11 n A S N) (h28 : M.2.2 28 0 = 88) : Wn (d + 2) 38 (PIi M 88 0 σ ν n A S N) (0, lv_args 0 [.ref 0, .int (nI 0)], [], M) := by
  refine Wn.run (tab := tb_i_image) rfl 2 (c' := (if (nI 0) < 0 then 9 else 4, [(0, .ref 0), (1, .int (nI 0))], [], M)) (o := []) rfl trivial ?_
  rw [if_neg (show ¬ (nI 0) < 0 by decide)]
  refine Wn.run (tab := tb_i_image) rfl 3 (c' := (if (nI 0) < (nI 2) then 11 else 9, [(0, .ref 0), (1, .int (nI 0))], [], M)) (o := []) rfl trivial ?_
  rw [if_pos (show (nI 0) < (nI 2) by decide)]
  refine Wn.run (tab := tb_i_image) rfl 6 (c' := (21, [(0, .ref 0), (1, .int (nI 0))], [.ref 2, .ref (M.2.2 28 0)], M)) (o := [shp 0 = (0, 9), aok shp 28 6 (nI 0), shp 0 = (0, 9)]) rfl ⟨rfl, ⟨rfl, vp_in_nI (by decide) (by decide)⟩, rfl⟩ ?_
  rw [h28]
  refine Wn.callV (p := 88) (n := 2) (ix := 122) (ci := (8)) (PSC M 88 σ ν n A S N) [.ref 2] [] rfl rfl rfl rfl (Nat.le_of_ble_eq_true rfl) (Nat.le_of_ble_eq_true rfl) (c_sc_copyFrom_88_2 d M σ ν n A S N hS hN hP) ?_
  rintro _ M1 ⟨rfl, c1, c2, c3, c4, c5, c6⟩
  show Wn _ 38 _ (24, [(0, .ref 0), (1, .int (nI 0))], [], M1)
  refine Wn.run (tab := tb_i_image) rfl 5 (c' := (31, [(0, .ref 0), (1, .int (nI 0))], [], (mI M1 29 (upd (M1.1 29) 0 (nI 1))))) (o := [shp 0 = (0, 9), aok shp 29 2 (nI 0), is01 (nI 1)]) rfl ⟨rfl, ⟨rfl, vp_in_nI (by decide) (by decide)⟩, Or.inr rfl⟩ ?_
  generalize hM2 : (mI M1 29 (upd (M1.1 29) 0 (nI 1))) = M2
  have f2 := fr_1I hM2
  refine Wn.run (tab := tb_i_image) rfl 1 (c' := (32, [(0, .ref 0), (1, .int (nI 0))], [.int (nI 1)], M2)) (o := []) rfl trivial ?_
  exact Wn.zret rfl (Or.inr rfl) ⟨rfl, fr_st f2 c1 (by decide), NmC_fr f2 (by decide) c2, SnC_fr f2 (by decide) (by decide) (by decide) (by decide) c3, by rw [mI_eq hM2, (c6 29 (by decide)).1], fr_tr (fr_up c6 (by decide)) f2 (by decide)⟩
set_option maxRecDepth 20000 in
theorem c_i_restore_0_u (d : Nat) (M : Mm) (h29 : M.1 29 0 = nI 0) (Q : Po) (hQ : Q (some (.int (nI 0))) M) : Wn (d + 0) 39 Q (0, lv_args 0 [.ref 0, .int (nI 0)], [], M) := by
  refine Wn.run (tab := tb_i_restore) rfl 2 (c' := (if (nI 0) < 0 then 18 else 4, [(0, .ref 0), (1, .int (nI 0))], [], M)) (o := []) rfl trivial ?_
  rw [if_neg (show ¬ (nI 0) < 0 by decide)]
  refine Wn.run (tab := tb_i_restore) rfl 3 (c' := (if (nI 2) ≤ (nI 0) then 18 else 9, [(0, .ref 0), (1, .int (nI 0))], [], M)) (o := []) rfl trivial ?_
  rw [if_neg (show ¬ (nI 2) ≤ (nI 0) by decide)]
  refine Wn.run (tab := tb_i_restore) rfl 5 (c' := (if ¬ (M.1 29 0) = 0 then 20 else 18, [(0, .ref 0), (1, .int (nI 0))], [], M)) (o := [shp 0 = (0, 9), aok shp 29 2 (nI 0)]) rfl ⟨rfl, ⟨rfl, vp_in_nI (by decide) (by decide)⟩⟩ ?_
  rw [h29, if_neg (show ¬ ¬ nI 0 = 0 by decide)]
  refine Wn.run (tab := tb_i_restore) rfl 1 (c' := (19, [(0, .ref 0), (1, .int (nI 0))], [.int (nI 0)], M)) (o := []) rfl trivial ?_
  exact Wn.zret rfl (Or.inl rfl) hQ
set_option maxRecDepth 20000 in
theorem c_i_restore_0 (d : Nat) (M : Mm) (σ : Nat → Nat) (ν : Nat → Int64) (n : Nat) (A S N : Nat → Nat) (hS : StC M (88 + 4) σ) (hN : NmC M (88 + 1) ν (σ 2)) (hP : SnC M (88 + 9) n A S N) (h28 : M.2.2 28 0 = 88) (h29 : M.1 29 0 = nI 1) : Wn (d + 2) 39 (PIr M σ ν n A S N) (0, lv_args 0 [.ref 0, .int (nI 0)], [], M) := by
  refine Wn.run (tab := tb_i_restore) rfl 2 (c' := (if (nI 0) < 0 then 18 else 4, [(0, .ref 0), (1, .int (nI 0))], [], M)) (o := []) rfl trivial ?_
  rw [if_neg (show ¬ (nI 0) < 0 by decide)]
  refine Wn.run (tab := tb_i_restore) rfl 3 (c' := (if (nI 2) ≤ (nI 0) then 18 else 9, [(0, .ref 0), (1, .int (nI 0))], [], M)) (o := []) rfl trivial ?_
  rw [if_neg (show ¬ (nI 2) ≤ (nI 0) by decide)]
  refine Wn.run (tab := tb_i_restore) rfl 5 (c' := (if ¬ (M.1 29 0) = 0 then 20 else 18, [(0, .ref 0), (1, .int (nI 0))], [], M)) (o := [shp 0 = (0, 9), aok shp 29 2 (nI 0)]) rfl ⟨rfl, ⟨rfl, vp_in_nI (by decide) (by decide)⟩⟩ ?_
  rw [h29, if_pos (show ¬ nI 1 = 0 by decide)]
  refine Wn.run (tab := tb_i_restore) rfl 6 (c' := (30, [(0, .ref 0), (1, .int (nI 0))], [.ref (M.2.2 28 0), .ref 2], M)) (o := [shp 0 = (0, 9), shp 0 = (0, 9), aok shp 28 6 (nI 0)]) rfl ⟨rfl, rfl, ⟨rfl, vp_in_nI (by decide) (by decide)⟩⟩ ?_
  rw [h28]
  refine Wn.callV (p := 2) (n := 2) (ix := 122) (ci := (8)) (PSC M 2 σ ν n A S N) [.ref 88] [] rfl rfl rfl rfl (Nat.le_of_ble_eq_true rfl) (Nat.le_of_ble_eq_true rfl) (c_sc_copyFrom_2_88 d M σ ν n A S N hS hN hP) ?_
  rintro _ M1 ⟨rfl, c1, c2, c3, c4, c5, c6⟩
  show Wn _ 39 _ (33, [(0, .ref 0), (1, .int (nI 0))], [], M1)
  refine Wn.run (tab := tb_i_restore) rfl 2 (c' := (37, [(0, .ref 0), (1, .int (nI 0))], [.ref 35], M1)) (o := [shp 0 = (0, 9)]) rfl rfl ?_
  refine Wn.callV (p := 35) (n := 1) (ix := 126) (ci := (1)) (PU M1 35 (upd (M1.1 35) 2 (nI 0))) [] [] rfl rfl rfl rfl (Nat.le_of_ble_eq_true rfl) (Nat.le_of_ble_eq_true rfl) (c_hy_clear_35 (d + 1) M1 _ rfl) ?_
  rintro _ M2 ⟨rfl, h1, h2, h3⟩
  show Wn _ 39 _ (40, [(0, .ref 0), (1, .int (nI 0))], [], M2)
  refine Wn.run (tab := tb_i_restore) rfl 1 (c' := (41, [(0, .ref 0), (1, .int (nI 0))], [.int (nI 1)], M2)) (o := []) rfl trivial ?_
  refine Wn.zret rfl (Or.inr rfl) ⟨rfl, fr_st h3 c1 (by decide), NmC_fr h3 (by decide) c2, SnC_fr h3 (by decide) (by decide) (by decide) (by decide) c3, by rw [h1, (c6 35 (by decide)).1], by rw [(h3 6 (by decide)).1]; exact c4, by rw [(h3 6 (by decide)).1]; exact c5, fr_tr (fr_up c6 (by decide)) h3 (by decide)⟩
set_option maxRecDepth 20000 in
theorem c_i_image_1 (d : Nat) (M : Mm) (σ : Nat → Nat) (ν : Nat → Int64) (n : Nat) (A S N : Nat → Nat) (hS : StC M 6 σ) (hN : NmC M 3 ν (σ 2)) (hP : SnC M 11 n A S N) (h28 : M.2.2 28 1 = 101) : Wn (d + 2) 38 (PIi M 101 1 σ ν n A S N) (0, lv_args 0 [.ref 0, .int (nI 1)], [], M) := by
  refine Wn.run (tab := tb_i_image) rfl 2 (c' := (if (nI 1) < 0 then 9 else 4, [(0, .ref 0), (1, .int (nI 1))], [], M)) (o := []) rfl trivial ?_
  rw [if_neg (show ¬ (nI 1) < 0 by decide)]
  refine Wn.run (tab := tb_i_image) rfl 3 (c' := (if (nI 1) < (nI 2) then 11 else 9, [(0, .ref 0), (1, .int (nI 1))], [], M)) (o := []) rfl trivial ?_
  rw [if_pos (show (nI 1) < (nI 2) by decide)]
  refine Wn.run (tab := tb_i_image) rfl 6 (c' := (21, [(0, .ref 0), (1, .int (nI 1))], [.ref 2, .ref (M.2.2 28 1)], M)) (o := [shp 0 = (0, 9), aok shp 28 6 (nI 1), shp 0 = (0, 9)]) rfl ⟨rfl, ⟨rfl, vp_in_nI (by decide) (by decide)⟩, rfl⟩ ?_
  rw [h28]
  refine Wn.callV (p := 101) (n := 2) (ix := 122) (ci := (8)) (PSC M 101 σ ν n A S N) [.ref 2] [] rfl rfl rfl rfl (Nat.le_of_ble_eq_true rfl) (Nat.le_of_ble_eq_true rfl) (c_sc_copyFrom_101_2 d M σ ν n A S N hS hN hP) ?_
  rintro _ M1 ⟨rfl, c1, c2, c3, c4, c5, c6⟩
  show Wn _ 38 _ (24, [(0, .ref 0), (1, .int (nI 1))], [], M1)
  refine Wn.run (tab := tb_i_image) rfl 5 (c' := (31, [(0, .ref 0), (1, .int (nI 1))], [], (mI M1 29 (upd (M1.1 29) 1 (nI 1))))) (o := [shp 0 = (0, 9), aok shp 29 2 (nI 1), is01 (nI 1)]) rfl ⟨rfl, ⟨rfl, vp_in_nI (by decide) (by decide)⟩, Or.inr rfl⟩ ?_
  generalize hM2 : (mI M1 29 (upd (M1.1 29) 1 (nI 1))) = M2
  have f2 := fr_1I hM2
  refine Wn.run (tab := tb_i_image) rfl 1 (c' := (32, [(0, .ref 0), (1, .int (nI 1))], [.int (nI 1)], M2)) (o := []) rfl trivial ?_
  exact Wn.zret rfl (Or.inr rfl) ⟨rfl, fr_st f2 c1 (by decide), NmC_fr f2 (by decide) c2, SnC_fr f2 (by decide) (by decide) (by decide) (by decide) c3, by rw [mI_eq hM2, (c6 29 (by decide)).1], fr_tr (fr_up c6 (by decide)) f2 (by decide)⟩
set_option maxRecDepth 20000 in
theorem c_i_restore_1_u (d : Nat) (M : Mm) (h29 : M.1 29 1 = nI 0) (Q : Po) (hQ : Q (some (.int (nI 0))) M) : Wn (d + 0) 39 Q (0, lv_args 0 [.ref 0, .int (nI 1)], [], M) := by
  refine Wn.run (tab := tb_i_restore) rfl 2 (c' := (if (nI 1) < 0 then 18 else 4, [(0, .ref 0), (1, .int (nI 1))], [], M)) (o := []) rfl trivial ?_
  rw [if_neg (show ¬ (nI 1) < 0 by decide)]
  refine Wn.run (tab := tb_i_restore) rfl 3 (c' := (if (nI 2) ≤ (nI 1) then 18 else 9, [(0, .ref 0), (1, .int (nI 1))], [], M)) (o := []) rfl trivial ?_
  rw [if_neg (show ¬ (nI 2) ≤ (nI 1) by decide)]
  refine Wn.run (tab := tb_i_restore) rfl 5 (c' := (if ¬ (M.1 29 1) = 0 then 20 else 18, [(0, .ref 0), (1, .int (nI 1))], [], M)) (o := [shp 0 = (0, 9), aok shp 29 2 (nI 1)]) rfl ⟨rfl, ⟨rfl, vp_in_nI (by decide) (by decide)⟩⟩ ?_
  rw [h29, if_neg (show ¬ ¬ nI 0 = 0 by decide)]
  refine Wn.run (tab := tb_i_restore) rfl 1 (c' := (19, [(0, .ref 0), (1, .int (nI 1))], [.int (nI 0)], M)) (o := []) rfl trivial ?_
  exact Wn.zret rfl (Or.inl rfl) hQ
set_option maxRecDepth 20000 in
theorem c_i_restore_1 (d : Nat) (M : Mm) (σ : Nat → Nat) (ν : Nat → Int64) (n : Nat) (A S N : Nat → Nat) (hS : StC M (101 + 4) σ) (hN : NmC M (101 + 1) ν (σ 2)) (hP : SnC M (101 + 9) n A S N) (h28 : M.2.2 28 1 = 101) (h29 : M.1 29 1 = nI 1) : Wn (d + 2) 39 (PIr M σ ν n A S N) (0, lv_args 0 [.ref 0, .int (nI 1)], [], M) := by
  refine Wn.run (tab := tb_i_restore) rfl 2 (c' := (if (nI 1) < 0 then 18 else 4, [(0, .ref 0), (1, .int (nI 1))], [], M)) (o := []) rfl trivial ?_
  rw [if_neg (show ¬ (nI 1) < 0 by decide)]
  refine Wn.run (tab := tb_i_restore) rfl 3 (c' := (if (nI 2) ≤ (nI 1) then 18 else 9, [(0, .ref 0), (1, .int (nI 1))], [], M)) (o := []) rfl trivial ?_
  rw [if_neg (show ¬ (nI 2) ≤ (nI 1) by decide)]
  refine Wn.run (tab := tb_i_restore) rfl 5 (c' := (if ¬ (M.1 29 1) = 0 then 20 else 18, [(0, .ref 0), (1, .int (nI 1))], [], M)) (o := [shp 0 = (0, 9), aok shp 29 2 (nI 1)]) rfl ⟨rfl, ⟨rfl, vp_in_nI (by decide) (by decide)⟩⟩ ?_
  rw [h29, if_pos (show ¬ nI 1 = 0 by decide)]
  refine Wn.run (tab := tb_i_restore) rfl 6 (c' := (30, [(0, .ref 0), (1, .int (nI 1))], [.ref (M.2.2 28 1), .ref 2], M)) (o := [shp 0 = (0, 9), shp 0 = (0, 9), aok shp 28 6 (nI 1)]) rfl ⟨rfl, rfl, ⟨rfl, vp_in_nI (by decide) (by decide)⟩⟩ ?_
  rw [h28]
  refine Wn.callV (p := 2) (n := 2) (ix := 122) (ci := (8)) (PSC M 2 σ ν n A S N) [.ref 101] [] rfl rfl rfl rfl (Nat.le_of_ble_eq_true rfl) (Nat.le_of_ble_eq_true rfl) (c_sc_copyFrom_2_101 d M σ ν n A S N hS hN hP) ?_
  rintro _ M1 ⟨rfl, c1, c2, c3, c4, c5, c6⟩
  show Wn _ 39 _ (33, [(0, .ref 0), (1, .int (nI 1))], [], M1)
  refine Wn.run (tab := tb_i_restore) rfl 2 (c' := (37, [(0, .ref 0), (1, .int (nI 1))], [.ref 35], M1)) (o := [shp 0 = (0, 9)]) rfl rfl ?_
  refine Wn.callV (p := 35) (n := 1) (ix := 126) (ci := (1)) (PU M1 35 (upd (M1.1 35) 2 (nI 0))) [] [] rfl rfl rfl rfl (Nat.le_of_ble_eq_true rfl) (Nat.le_of_ble_eq_true rfl) (c_hy_clear_35 (d + 1) M1 _ rfl) ?_
  rintro _ M2 ⟨rfl, h1, h2, h3⟩
  show Wn _ 39 _ (40, [(0, .ref 0), (1, .int (nI 1))], [], M2)
  refine Wn.run (tab := tb_i_restore) rfl 1 (c' := (41, [(0, .ref 0), (1, .int (nI 1))], [.int (nI 1)], M2)) (o := []) rfl trivial ?_
  refine Wn.zret rfl (Or.inr rfl) ⟨rfl, fr_st h3 c1 (by decide), NmC_fr h3 (by decide) c2, SnC_fr h3 (by decide) (by decide) (by decide) (by decide) c3, by rw [h1, (c6 35 (by decide)).1], by rw [(h3 6 (by decide)).1]; exact c4, by rw [(h3 6 (by decide)).1]; exact c5, fr_tr (fr_up c6 (by decide)) h3 (by decide)⟩
