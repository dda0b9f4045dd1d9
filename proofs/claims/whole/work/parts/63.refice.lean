/-- the cell c was told -/
def icb (ic : Int64) (c : Nat) : Prop := (ic >>> ((nI c).toInt64 &&& 63)) &&& 1 = 1
def icu (ic : Int64) (c : Nat) : Int64 := ic ||| ((1 : Int64) <<< ((nI c).toInt64 &&& 63))
def rdIc (T : Nat → Nat) (L mo p : Nat) (δ : Nat → Nat) (ν : Nat → Int64) (o : Nat) (ic : Int64) : Flt ⊕ Dst :=
  if 0 < δ 2 then .inl (3, tAt T L mo p) else
  match tkN T L mo (tNx T L p) 0 (δ 0 - 1) with
  | .inl f => .inl f
  | .inr (x, p1) => match tkN T L mo p1 0 (δ 1 - 1) with
    | .inl f => .inl f
    | .inr (y, p2) => if (ic >>> ((nI (8 * y + x)).toInt64 &&& 63)) &&& 1 = 1 then .inl (3, tAt T L mo p1) else
      match tkN T L mo p2 0 9 with
      | .inl f => .inl f
      | .inr (i, p3) => .inr (p3, su δ (8 + (8 * y + x)) i, ν, o, icu ic (8 * y + x))
set_option maxRecDepth 20000 in
theorem c_m_readIce (d : Nat) (M : Mm) (g : Nat → Int32) (T : Nat → Nat) (L mo p : Nat) (hg : M.1 114 = g) (hK : TkM M T L mo p) (δ : Nat → Nat) (hh : ∀ k, k < 90 → M.1 117 k = nI (δ k)) (hδ : DB δ) (ν : Nat → Int64) (hN : ∀ q, q < δ 2 → M.2.1 119 (6 + q) = ν q) (o : Nat) (ho : g 20 = nI o) (ho5 : o < 32) (ic : Int64) (hic : M.2.1 114 21 = ic) (hv : Rsv M) (hk : tKd T L mo p = 11) : Wn (d + 4) 70 (PRm M g T L mo (rdIc T L mo p δ ν o ic)) (0, lv_args 0 [.ref 114], [], M) := by
  have hF := fr_rf [114, 117, 119] M
  have h6 : ∀ q, q < 6 → M.2.1 119 q = M.2.1 119 q := fun _ _ => rfl
  have kl := tKd_le T L mo p
  obtain ⟨b0, b1, b2_9, bq, bc⟩ := hδ
  refine Wn.run (tab := tb_m_readIce) rfl 5 (c' := (if (M.1 117 2) ≤ 0 then 15 else 9, [(0, .ref 114)], [], M)) (o := [shp 114 = (0, 10), aok shp 117 0 (nI 2)]) rfl ⟨rfl, ⟨rfl, vp_in_nI (by decide) (by decide)⟩⟩ ?_
  refine Wn.br (fun h1 => ?_) (fun h1 => ?_)
  · show Wn _ 70 _ (15, [(0, .ref 114)], [], M)
    have h1 := (n_le (rd0 hh (by omega)) nI_0.symm (by omega) (by omega)).mp h1
    refine Wn.run (tab := tb_m_readIce) rfl 1 (c' := (16, [(0, .ref 114)], [.ref 114], M)) (o := []) rfl trivial ?_
    refine Wn.callV (p := 114) (n := 1) (ix := 191) (ci := (10)) (PNx M g T L mo (tNx T L p)) [] [] rfl rfl rfl rfl (Nat.le_of_ble_eq_true rfl) (Nat.le_of_ble_eq_true rfl) (c_m_nx _ M g T L mo p hg hK (by omega) (by omega)) ?_
    rintro _ M1 ⟨rfl, ht2, hx3, hj4, hF5⟩
    show Wn _ 70 _ (19, [(0, .ref 114)], [], M1)
    obtain ⟨g6, hg7⟩ : ∃ g9, M1.1 114 = g9 := ⟨_, rfl⟩
    have hx8 := hx3
    rw [hg7] at hx8
    have hf9 : g6 20 = (nI o) := (hx8 20 (by decide)).trans (show g 20 = (nI o) from ho)
    have hf10 : g6 18 = (g 18) := (hx8 18 (by decide)).trans (show g 18 = (g 18) from rfl)
    have hk11 := fr_row hF5 (by decide) hh
    have hi12 := (hj4 21 (by decide)).trans hic
    have h613 := n6_fr hF5 (by decide) h6
    have hn14 := nf_fr hF5 (by decide) hN
    have hv15 := rv_fr hF5 (by decide) hv
    have hF16 := fr_tr hF hF5 (by decide)
    refine Wn.run (tab := tb_m_readIce) rfl 8 (c' := (29, [(0, .ref 114)], [.int ((M1.1 117 0) - (nI 1)), .int (nI 0), .ref 114], M1)) (o := [shp 114 = (0, 10), aok shp 117 0 (nI 0)]) rfl ⟨rfl, ⟨rfl, vp_in_nI (by decide) (by decide)⟩⟩ ?_
    rw [show (M1.1 117 0) = (nI (δ 0)) from (rd0 hk11 (by omega))]
    rw [show ((nI (δ 0)) - (nI 1)) = (nI ((δ 0) - 1)) from (n_sub rfl rfl (by omega))]
    cases hc1 : tkN T L mo (tNx T L p) 0 ((δ 0) - 1) with
    | inl f1 =>
      refine Wn.callV (p := 114) (n := 3) (ix := 201) (ci := (10)) (PFm M1 g6 f1.1 f1.2 (some (.int (nI 0)))) [.int (nI 0), .int (nI ((δ 0) - 1))] [] rfl rfl rfl rfl (Nat.le_of_ble_eq_true rfl) (Nat.le_of_ble_eq_true rfl) (c_m_takesE _ M1 g6 T L mo (tNx T L p) hg7 ht2 0 ((δ 0) - 1) (by omega) (by omega) f1 hc1) ?_
      rintro _ M21 ⟨rfl, h1517, h1618, hx19, hF20⟩
      show Wn _ 70 _ (32, [(0, .ref 114)], [.int (nI 0)], M21)
      obtain ⟨g22, hg23⟩ : ∃ g9, M21.1 114 = g9 := ⟨_, rfl⟩
      have hx24 := hx19
      rw [hg23] at hx24
      have hf25 : g22 15 = nI f1.1 := by rw [← hg23]; exact h1517
      have hf26 : g22 16 = nI f1.2 := by rw [← hg23]; exact h1618
      have hk27 := fr_row hF20 (by decide) hk11
      have h628 := n6_fr hF20 (by decide) h613
      have hn29 := nf_fr hF20 (by decide) hn14
      have hF30 := fr_tr hF16 hF20 (by decide)
      refine Wn.run (tab := tb_m_readIce) rfl 1 (c' := (if ¬ (nI 0) = 0 then 37 else 35, [(0, .ref 114)], [], M21)) (o := []) rfl trivial ?_
      rw [if_neg (show ¬ (¬ (nI 0) = 0) by decide)]
      show Wn _ 70 _ (35, [(0, .ref 114)], [], M21)
      refine Wn.run (tab := tb_m_readIce) rfl 1 (c' := (36, [(0, .ref 114)], [.int (nI 0)], M21)) (o := []) rfl trivial ?_
      have e9 : rdIc T L mo p δ ν o ic = .inl f1 := by unfold rdIc; rw [if_neg (by omega)]; simp only [hc1]
      rw [e9]
      exact Wn.zret rfl (Or.inl rfl) ⟨by rw [hg23]; exact (Gx_tr (Gx_tr (Gx_rf _ _) (Gx_mono hx8 (by decide))) (Gx_mono hx24 (by decide))), hF30, h628, rfl, by rw [hg23]; exact hf25, by rw [hg23]; exact hf26⟩
    | inr v1 =>
      obtain ⟨x1, p1⟩ := v1
      refine Wn.callV (p := 114) (n := 3) (ix := 201) (ci := (10)) (PTm M1 g6 T L mo p1 [4, 11, 12, 13, 14, 18] (nI x1) (some (.int (nI 1)))) [.int (nI 0), .int (nI ((δ 0) - 1))] [] rfl rfl rfl rfl (Nat.le_of_ble_eq_true rfl) (Nat.le_of_ble_eq_true rfl) (c_m_takesV _ M1 g6 T L mo (tNx T L p) hg7 ht2 0 ((δ 0) - 1) (by omega) (by omega) (x1, p1) hc1) ?_
      rintro _ M36 ⟨rfl, ht31, h1832, hx33, hj34, hF35⟩
      show Wn _ 70 _ (32, [(0, .ref 114)], [.int (nI 1)], M36)
      obtain ⟨g37, hg38⟩ : ∃ g9, M36.1 114 = g9 := ⟨_, rfl⟩
      have hx39 := hx33
      rw [hg38] at hx39
      have hf40 : g37 20 = (nI o) := (hx39 20 (by decide)).trans (show g6 20 = (nI o) from hf9)
      have hf41 : g37 18 = nI x1 := by rw [← hg38]; exact h1832
      have hk42 := fr_row hF35 (by decide) hk11
      have hi43 := (hj34 21 (by decide)).trans hi12
      have h644 := n6_fr hF35 (by decide) h613
      have hn45 := nf_fr hF35 (by decide) hn14
      have hv46 := rv_fr hF35 (by decide) hv15
      have hF47 := fr_tr hF16 hF35 (by decide)
      have bd1 : 0 ≤ x1 ∧ x1 ≤ ((δ 0) - 1) := by obtain ⟨q1, q2, q3⟩ := tkN_inr hc1; cases q3; exact q2
      have kl1 := tKd_le T L mo p1
      refine Wn.run (tab := tb_m_readIce) rfl 1 (c' := (if ¬ (nI 1) = 0 then 37 else 35, [(0, .ref 114)], [], M36)) (o := []) rfl trivial ?_
      rw [if_pos (show ¬ (nI 1) = 0 by decide)]
      show Wn _ 70 _ (37, [(0, .ref 114)], [], M36)
      refine Wn.run (tab := tb_m_readIce) rfl 3 (c' := (42, [(1, .int (M36.1 114 18)), (0, .ref 114)], [], M36)) (o := [shp 114 = (0, 10)]) rfl rfl ?_
      rw [show (M36.1 114 18) = (nI x1) from (fr_eq hg38 (show g37 18 = (nI x1) from hf41))]
      cases hcY : tkN T L mo p1 0 (δ 1 - 1) with
      | inl fY =>
        rcases tkN_inl hcY with ⟨hk1, rfl⟩ | ⟨hk1, hk2, rfl⟩
        · have tv9 : tKd T L mo p1 = 2 → tVl T L p1 < 1000 := fun h => tVl_lt (TkM_T hK) h
          refine Wn.run (tab := tb_m_readIce) rfl 4 (c' := (if (M36.1 114 11) = (nI 2) then 56 else 50, [(1, .int (nI x1)), (0, .ref 114)], [], M36)) (o := [shp 114 = (0, 10)]) rfl rfl ?_
          rw [if_neg (by rw [ht31.2.2.2.1]; intro q9; have q8 := (nI_eq (by have := tCd_le (tKd T L mo p1); omega) (by omega)).mp q9; have q7 := (tCd_2 (tKd_le _ _ _ _)).mp q8; omega)]
          show Wn _ 70 _ (50, [(1, .int (nI x1)), (0, .ref 114)], [], M36)
          refine Wn.run (tab := tb_m_readIce) rfl 2 (c' := (52, [(1, .int (nI x1)), (0, .ref 114)], [.int (nI 1), .ref 114], M36)) (o := []) rfl trivial ?_
          refine Wn.callV (p := 114) (n := 2) (ix := 188) (ci := (10)) (PBd M36 g37 (nI 1) (nI (tAt T L mo p1))) [.int (nI 1)] [] rfl rfl rfl rfl (Nat.le_of_ble_eq_true rfl) (Nat.le_of_ble_eq_true rfl) (c_m_bad _ M36 g37 T L mo p1 hg38 ht31 (nI 1)) ?_
          rintro _ M48 ⟨rfl, hg49, hs50, hF51⟩
          show Wn _ 70 _ (55, [(1, .int (nI x1)), (0, .ref 114)], [.int (nI 0)], M48)
          have hk52 := fr_row hF51 (by decide) hk42
          have h653 := n6_fr hF51 (by decide) h644
          have hn54 := nf_fr hF51 (by decide) hn45
          have hv55 := rv_fr hF51 (by decide) hv46
          have hF56 := fr_tr hF47 hF51 (by decide)
          have e9 : rdIc T L mo p δ ν o ic = .inl (1, tAt T L mo p1) := by unfold rdIc; rw [if_neg (by omega)]; simp only [hc1, hcY]
          rw [e9]
          exact Wn.zret rfl (Or.inl rfl) ⟨by rw [hg49]; exact (Gx_up (Gx_up (Gx_tr (Gx_tr (Gx_rf _ _) (Gx_mono hx8 (by decide))) (Gx_mono hx39 (by decide))) (by decide)) (by decide)), hF56, h653, rfl, by rw [hg49]; exact ((pk_un (by decide)).trans pk_us), by rw [hg49]; exact pk_us⟩
        · have tv9 : tKd T L mo p1 = 2 → tVl T L p1 < 1000 := fun h => tVl_lt (TkM_T hK) h
          refine Wn.run (tab := tb_m_readIce) rfl 4 (c' := (if (M36.1 114 11) = (nI 2) then 56 else 50, [(1, .int (nI x1)), (0, .ref 114)], [], M36)) (o := [shp 114 = (0, 10)]) rfl rfl ?_
          rw [if_pos (by rw [ht31.2.2.2.1]; exact congrArg nI ((tCd_2 (tKd_le _ _ _ _)).mpr (by omega)))]
          show Wn _ 70 _ (56, [(1, .int (nI x1)), (0, .ref 114)], [], M36)
          refine Wn.run (tab := tb_m_readIce) rfl 7 (c' := (if (M36.1 114 14) < (M36.1 117 1) then 75 else 69, [(1, .int (nI x1)), (0, .ref 114)], [], M36)) (o := [shp 114 = (0, 10), shp 114 = (0, 10), aok shp 117 0 (nI 1)]) rfl ⟨rfl, rfl, ⟨rfl, vp_in_nI (by decide) (by decide)⟩⟩ ?_
          refine Wn.br (fun h2 => ?_) (fun h2 => ?_)
          · show Wn _ 70 _ (75, [(1, .int (nI x1)), (0, .ref 114)], [], M36)
            have h2 := (n_lt (ht31.2.2.2.2.2.1 (by omega)) (rd0 hk42 (by omega)) (by omega) (by omega)).mp h2
            refine Wn.run (tab := tb_m_readIce) rfl 16 (c' := (if ¬ (lg_cmp (((M36.2.1 114 21) >>> (((((nI 8) * (M36.1 114 14)) + (nI x1))).toInt64 &&& 63)) &&& (1 : Int64)) (1 : Int64)) = 0 then 104 else 98, [(2, .int (((nI 8) * (M36.1 114 14)) + (nI x1))), (1, .int (nI x1)), (0, .ref 114)], [], M36)) (o := [shp 114 = (0, 10), shp 114 = (0, 10)]) rfl ⟨rfl, rfl⟩ ?_
            refine Wn.br (fun h3 => ?_) (fun h3 => ?_)
            · show Wn _ 70 _ (104, [(2, .int (((nI 8) * (M36.1 114 14)) + (nI x1))), (1, .int (nI x1)), (0, .ref 114)], [], M36)
              rw [show (M36.1 114 14) = (nI (tVl T L p1)) from (ht31.2.2.2.2.2.1 (by omega))] at h3
              rw [show (M36.2.1 114 21) = ic from hi43] at h3
              rw [pk_mul, nI_add] at h3
              have h3 : ¬ ((ic >>> ((nI (8 * (tVl T L p1) + x1)).toInt64 &&& 63)) &&& 1 = 1) := fun q9 => h3 ((lg_cmp_eq _ _).mpr q9)
              rw [show (M36.1 114 14) = (nI (tVl T L p1)) from (ht31.2.2.2.2.2.1 (by omega))]
              rw [show (((nI 8) * (nI (tVl T L p1))) + (nI x1)) = (nI ((8 * (tVl T L p1)) + x1)) from (n_add (n_mul rfl rfl) rfl)]
              refine Wn.run (tab := tb_m_readIce) rfl 8 (c' := (116, [(2, .int (nI ((8 * (tVl T L p1)) + x1))), (1, .int (nI x1)), (0, .ref 114)], [], (mJ M36 114 (vp_updL (M36.2.1 114) 21 ((M36.2.1 114 21) ||| ((1 : Int64) <<< (((nI ((8 * (tVl T L p1)) + x1))).toInt64 &&& 63))))))) (o := [shp 114 = (0, 10), shp 114 = (0, 10)]) rfl ⟨rfl, rfl⟩ ?_
              rw [show (M36.2.1 114 21) = ic from hi43]
              generalize hM58 : (mJ M36 114 (vp_updL (M36.2.1 114) 21 (ic ||| ((1 : Int64) <<< (((nI ((8 * (tVl T L p1)) + x1))).toInt64 &&& 63))))) = M57
              have ht59 := TkM_uJ hM58 (by decide) ht31
              have hk60 := fI_oJ hM58 hg38
              have hk61 := row_oJ hM58 hk42
              have hi62 := jc_eq hM58
              have h663 := n6_fr (fr_1J hM58) (by decide) h644
              have hn64 := nf_fr (fr_1J hM58) (by decide) hn45
              have hv65 := rv_fr (fr_1J hM58) (by decide) hv46
              have hF66 := fr_sJ hF47 hM58 (by decide)
              show Wn _ 70 _ (116, [(2, .int (nI ((8 * (tVl T L p1)) + x1))), (1, .int (nI x1)), (0, .ref 114)], [], M57)
              refine Wn.run (tab := tb_m_readIce) rfl 1 (c' := (117, [(2, .int (nI ((8 * (tVl T L p1)) + x1))), (1, .int (nI x1)), (0, .ref 114)], [.ref 114], M57)) (o := []) rfl trivial ?_
              refine Wn.callV (p := 114) (n := 1) (ix := 191) (ci := (10)) (PNx M57 g37 T L mo (tNx T L p1)) [] [] rfl rfl rfl rfl (Nat.le_of_ble_eq_true rfl) (Nat.le_of_ble_eq_true rfl) (c_m_nx _ M57 g37 T L mo p1 hk60 ht59 (by omega) (by omega)) ?_
              rintro _ M67 ⟨rfl, ht68, hx69, hj70, hF71⟩
              show Wn _ 70 _ (120, [(2, .int (nI ((8 * (tVl T L p1)) + x1))), (1, .int (nI x1)), (0, .ref 114)], [], M67)
              obtain ⟨g72, hg73⟩ : ∃ g9, M67.1 114 = g9 := ⟨_, rfl⟩
              have hx74 := hx69
              rw [hg73] at hx74
              have hf75 : g72 20 = (nI o) := (hx74 20 (by decide)).trans (show g37 20 = (nI o) from hf40)
              have hf76 : g72 18 = (nI x1) := (hx74 18 (by decide)).trans (show g37 18 = (nI x1) from hf41)
              have hk77 := fr_row hF71 (by decide) hk61
              have hi78 := (hj70 21 (by decide)).trans hi62
              have h679 := n6_fr hF71 (by decide) h663
              have hn80 := nf_fr hF71 (by decide) hn64
              have hv81 := rv_fr hF71 (by decide) hv65
              have hF82 := fr_tr hF66 hF71 (by decide)
              refine Wn.run (tab := tb_m_readIce) rfl 6 (c' := (128, [(2, .int (nI ((8 * (tVl T L p1)) + x1))), (1, .int (nI x1)), (0, .ref 114)], [.int (nI 9), .int (nI 0), .int ((nI 8) + (nI ((8 * (tVl T L p1)) + x1))), .ref 114], M67)) (o := []) rfl trivial ?_
              rw [show ((nI 8) + (nI ((8 * (tVl T L p1)) + x1))) = (nI (8 + ((8 * (tVl T L p1)) + x1))) from (n_add rfl rfl)]
              cases hc2 : tkN T L mo (tNx T L p1) 0 9 with
              | inl f2 =>
                refine Wn.callV (p := 114) (n := 4) (ix := 235) (ci := (10)) (PFm M67 g72 f2.1 f2.2 (some (.int (nI 0)))) [.int (nI (8 + ((8 * (tVl T L p1)) + x1))), .int (nI 0), .int (nI 9)] [] rfl rfl rfl rfl (Nat.le_of_ble_eq_true rfl) (Nat.le_of_ble_eq_true rfl) (c_m_putsE _ M67 g72 T L mo (tNx T L p1) hg73 ht68 δ hk77 (8 + ((8 * (tVl T L p1)) + x1)) 0 9 (by omega) (by omega) (by omega) f2 hc2) ?_
                rintro _ M87 ⟨rfl, h1583, h1684, hx85, hF86⟩
                show Wn _ 70 _ (131, [(2, .int (nI ((8 * (tVl T L p1)) + x1))), (1, .int (nI x1)), (0, .ref 114)], [.int (nI 0)], M87)
                obtain ⟨g88, hg89⟩ : ∃ g9, M87.1 114 = g9 := ⟨_, rfl⟩
                have hx90 := hx85
                rw [hg89] at hx90
                have hf91 : g88 15 = nI f2.1 := by rw [← hg89]; exact h1583
                have hf92 : g88 16 = nI f2.2 := by rw [← hg89]; exact h1684
                have hk93 := fr_row hF86 (by decide) hk77
                have h694 := n6_fr hF86 (by decide) h679
                have hn95 := nf_fr hF86 (by decide) hn80
                have hF96 := fr_tr hF82 hF86 (by decide)
                exact absurd hc2 (by omega)
              | inr v2 =>
                obtain ⟨x2, p2⟩ := v2
                refine Wn.callV (p := 114) (n := 4) (ix := 235) (ci := (10)) (PPt M67 g72 T L mo p2 (su δ (8 + ((8 * (tVl T L p1)) + x1)) x2)) [.int (nI (8 + ((8 * (tVl T L p1)) + x1))), .int (nI 0), .int (nI 9)] [] rfl rfl rfl rfl (Nat.le_of_ble_eq_true rfl) (Nat.le_of_ble_eq_true rfl) (c_m_putsV _ M67 g72 T L mo (tNx T L p1) hg73 ht68 δ hk77 (8 + ((8 * (tVl T L p1)) + x1)) 0 9 (by omega) (by omega) (by omega) x2 p2 hc2) ?_
                rintro _ M102 ⟨rfl, ht97, hr98, hx99, hj100, hF101⟩
                show Wn _ 70 _ (131, [(2, .int (nI ((8 * (tVl T L p1)) + x1))), (1, .int (nI x1)), (0, .ref 114)], [.int (nI 1)], M102)
                obtain ⟨g103, hg104⟩ : ∃ g9, M102.1 114 = g9 := ⟨_, rfl⟩
                have hx105 := hx99
                rw [hg104] at hx105
                have hf106 : g103 20 = (nI o) := (hx105 20 (by decide)).trans (show g72 20 = (nI o) from hf75)
                have hi107 := (hj100 21 (by decide)).trans hi78
                have h6108 := n6_fr hF101 (by decide) h679
                have hn109 := nf_fr hF101 (by decide) hn80
                have hv110 := rv_fr hF101 (by decide) hv81
                have hF111 := fr_tr hF82 hF101 (by decide)
                have bd2 : 0 ≤ x2 ∧ x2 ≤ 9 := by obtain ⟨q1, q2, q3⟩ := tkN_inr hc2; cases q3; exact q2
                have kl2 := tKd_le T L mo p2
                exact absurd hc2 (by omega)
            · show Wn _ 70 _ (98, [(2, .int (((nI 8) * (M36.1 114 14)) + (nI x1))), (1, .int (nI x1)), (0, .ref 114)], [], M36)
              rw [show (M36.1 114 14) = (nI (tVl T L p1)) from (ht31.2.2.2.2.2.1 (by omega))] at h3
              rw [show (M36.2.1 114 21) = ic from hi43] at h3
              rw [pk_mul, nI_add] at h3
              have h3 : ((ic >>> ((nI (8 * (tVl T L p1) + x1)).toInt64 &&& 63)) &&& 1 = 1) := (lg_cmp_eq _ _).mp (Classical.not_not.mp h3)
              rw [show (M36.1 114 14) = (nI (tVl T L p1)) from (ht31.2.2.2.2.2.1 (by omega))]
              rw [show (((nI 8) * (nI (tVl T L p1))) + (nI x1)) = (nI ((8 * (tVl T L p1)) + x1)) from (n_add (n_mul rfl rfl) rfl)]
              refine Wn.run (tab := tb_m_readIce) rfl 2 (c' := (100, [(2, .int (nI ((8 * (tVl T L p1)) + x1))), (1, .int (nI x1)), (0, .ref 114)], [.int (nI 3), .ref 114], M36)) (o := []) rfl trivial ?_
              refine Wn.callV (p := 114) (n := 2) (ix := 188) (ci := (10)) (PBd M36 g37 (nI 3) (nI (tAt T L mo p1))) [.int (nI 3)] [] rfl rfl rfl rfl (Nat.le_of_ble_eq_true rfl) (Nat.le_of_ble_eq_true rfl) (c_m_bad _ M36 g37 T L mo p1 hg38 ht31 (nI 3)) ?_
              rintro _ M112 ⟨rfl, hg113, hs114, hF115⟩
              show Wn _ 70 _ (103, [(2, .int (nI ((8 * (tVl T L p1)) + x1))), (1, .int (nI x1)), (0, .ref 114)], [.int (nI 0)], M112)
              have hk116 := fr_row hF115 (by decide) hk42
              have h6117 := n6_fr hF115 (by decide) h644
              have hn118 := nf_fr hF115 (by decide) hn45
              have hv119 := rv_fr hF115 (by decide) hv46
              have hF120 := fr_tr hF47 hF115 (by decide)
              exact absurd h3 (by omega)
          · show Wn _ 70 _ (69, [(1, .int (nI x1)), (0, .ref 114)], [], M36)
            have h2 := mt (n_lt (ht31.2.2.2.2.2.1 (by omega)) (rd0 hk42 (by omega)) (by omega) (by omega)).mpr h2
            refine Wn.run (tab := tb_m_readIce) rfl 2 (c' := (71, [(1, .int (nI x1)), (0, .ref 114)], [.int (nI 2), .ref 114], M36)) (o := []) rfl trivial ?_
            refine Wn.callV (p := 114) (n := 2) (ix := 188) (ci := (10)) (PBd M36 g37 (nI 2) (nI (tAt T L mo p1))) [.int (nI 2)] [] rfl rfl rfl rfl (Nat.le_of_ble_eq_true rfl) (Nat.le_of_ble_eq_true rfl) (c_m_bad _ M36 g37 T L mo p1 hg38 ht31 (nI 2)) ?_
            rintro _ M121 ⟨rfl, hg122, hs123, hF124⟩
            show Wn _ 70 _ (74, [(1, .int (nI x1)), (0, .ref 114)], [.int (nI 0)], M121)
            have hk125 := fr_row hF124 (by decide) hk42
            have h6126 := n6_fr hF124 (by decide) h644
            have hn127 := nf_fr hF124 (by decide) hn45
            have hv128 := rv_fr hF124 (by decide) hv46
            have hF129 := fr_tr hF47 hF124 (by decide)
            have e9 : rdIc T L mo p δ ν o ic = .inl (2, tAt T L mo p1) := by unfold rdIc; rw [if_neg (by omega)]; simp only [hc1, hcY]
            rw [e9]
            exact Wn.zret rfl (Or.inl rfl) ⟨by rw [hg122]; exact (Gx_up (Gx_up (Gx_tr (Gx_tr (Gx_rf _ _) (Gx_mono hx8 (by decide))) (Gx_mono hx39 (by decide))) (by decide)) (by decide)), hF129, h6126, rfl, by rw [hg122]; exact ((pk_un (by decide)).trans pk_us), by rw [hg122]; exact pk_us⟩
      | inr vY =>
        obtain ⟨hk1, hk2, rfl⟩ := tkN_inr hcY
        have tv9 := tVl_lt (TkM_T hK) hk1
        refine Wn.run (tab := tb_m_readIce) rfl 4 (c' := (if (M36.1 114 11) = (nI 2) then 56 else 50, [(1, .int (nI x1)), (0, .ref 114)], [], M36)) (o := [shp 114 = (0, 10)]) rfl rfl ?_
        rw [if_pos (by rw [ht31.2.2.2.1]; exact congrArg nI ((tCd_2 (tKd_le _ _ _ _)).mpr (by omega)))]
        show Wn _ 70 _ (56, [(1, .int (nI x1)), (0, .ref 114)], [], M36)
        refine Wn.run (tab := tb_m_readIce) rfl 7 (c' := (if (M36.1 114 14) < (M36.1 117 1) then 75 else 69, [(1, .int (nI x1)), (0, .ref 114)], [], M36)) (o := [shp 114 = (0, 10), shp 114 = (0, 10), aok shp 117 0 (nI 1)]) rfl ⟨rfl, rfl, ⟨rfl, vp_in_nI (by decide) (by decide)⟩⟩ ?_
        refine Wn.br (fun h4 => ?_) (fun h4 => ?_)
        · show Wn _ 70 _ (75, [(1, .int (nI x1)), (0, .ref 114)], [], M36)
          have h4 := (n_lt (ht31.2.2.2.2.2.1 (by omega)) (rd0 hk42 (by omega)) (by omega) (by omega)).mp h4
          refine Wn.run (tab := tb_m_readIce) rfl 16 (c' := (if ¬ (lg_cmp (((M36.2.1 114 21) >>> (((((nI 8) * (M36.1 114 14)) + (nI x1))).toInt64 &&& 63)) &&& (1 : Int64)) (1 : Int64)) = 0 then 104 else 98, [(2, .int (((nI 8) * (M36.1 114 14)) + (nI x1))), (1, .int (nI x1)), (0, .ref 114)], [], M36)) (o := [shp 114 = (0, 10), shp 114 = (0, 10)]) rfl ⟨rfl, rfl⟩ ?_
          refine Wn.br (fun h5 => ?_) (fun h5 => ?_)
          · show Wn _ 70 _ (104, [(2, .int (((nI 8) * (M36.1 114 14)) + (nI x1))), (1, .int (nI x1)), (0, .ref 114)], [], M36)
            rw [show (M36.1 114 14) = (nI (tVl T L p1)) from (ht31.2.2.2.2.2.1 (by omega))] at h5
            rw [show (M36.2.1 114 21) = ic from hi43] at h5
            rw [pk_mul, nI_add] at h5
            have h5 : ¬ ((ic >>> ((nI (8 * (tVl T L p1) + x1)).toInt64 &&& 63)) &&& 1 = 1) := fun q9 => h5 ((lg_cmp_eq _ _).mpr q9)
            rw [show (M36.1 114 14) = (nI (tVl T L p1)) from (ht31.2.2.2.2.2.1 (by omega))]
            rw [show (((nI 8) * (nI (tVl T L p1))) + (nI x1)) = (nI ((8 * (tVl T L p1)) + x1)) from (n_add (n_mul rfl rfl) rfl)]
            refine Wn.run (tab := tb_m_readIce) rfl 8 (c' := (116, [(2, .int (nI ((8 * (tVl T L p1)) + x1))), (1, .int (nI x1)), (0, .ref 114)], [], (mJ M36 114 (vp_updL (M36.2.1 114) 21 ((M36.2.1 114 21) ||| ((1 : Int64) <<< (((nI ((8 * (tVl T L p1)) + x1))).toInt64 &&& 63))))))) (o := [shp 114 = (0, 10), shp 114 = (0, 10)]) rfl ⟨rfl, rfl⟩ ?_
            rw [show (M36.2.1 114 21) = ic from hi43]
            generalize hM131 : (mJ M36 114 (vp_updL (M36.2.1 114) 21 (ic ||| ((1 : Int64) <<< (((nI ((8 * (tVl T L p1)) + x1))).toInt64 &&& 63))))) = M130
            have ht132 := TkM_uJ hM131 (by decide) ht31
            have hk133 := fI_oJ hM131 hg38
            have hk134 := row_oJ hM131 hk42
            have hi135 := jc_eq hM131
            have h6136 := n6_fr (fr_1J hM131) (by decide) h644
            have hn137 := nf_fr (fr_1J hM131) (by decide) hn45
            have hv138 := rv_fr (fr_1J hM131) (by decide) hv46
            have hF139 := fr_sJ hF47 hM131 (by decide)
            show Wn _ 70 _ (116, [(2, .int (nI ((8 * (tVl T L p1)) + x1))), (1, .int (nI x1)), (0, .ref 114)], [], M130)
            refine Wn.run (tab := tb_m_readIce) rfl 1 (c' := (117, [(2, .int (nI ((8 * (tVl T L p1)) + x1))), (1, .int (nI x1)), (0, .ref 114)], [.ref 114], M130)) (o := []) rfl trivial ?_
            refine Wn.callV (p := 114) (n := 1) (ix := 191) (ci := (10)) (PNx M130 g37 T L mo (tNx T L p1)) [] [] rfl rfl rfl rfl (Nat.le_of_ble_eq_true rfl) (Nat.le_of_ble_eq_true rfl) (c_m_nx _ M130 g37 T L mo p1 hk133 ht132 (by omega) (by omega)) ?_
            rintro _ M140 ⟨rfl, ht141, hx142, hj143, hF144⟩
            show Wn _ 70 _ (120, [(2, .int (nI ((8 * (tVl T L p1)) + x1))), (1, .int (nI x1)), (0, .ref 114)], [], M140)
            obtain ⟨g145, hg146⟩ : ∃ g9, M140.1 114 = g9 := ⟨_, rfl⟩
            have hx147 := hx142
            rw [hg146] at hx147
            have hf148 : g145 20 = (nI o) := (hx147 20 (by decide)).trans (show g37 20 = (nI o) from hf40)
            have hf149 : g145 18 = (nI x1) := (hx147 18 (by decide)).trans (show g37 18 = (nI x1) from hf41)
            have hk150 := fr_row hF144 (by decide) hk134
            have hi151 := (hj143 21 (by decide)).trans hi135
            have h6152 := n6_fr hF144 (by decide) h6136
            have hn153 := nf_fr hF144 (by decide) hn137
            have hv154 := rv_fr hF144 (by decide) hv138
            have hF155 := fr_tr hF139 hF144 (by decide)
            refine Wn.run (tab := tb_m_readIce) rfl 6 (c' := (128, [(2, .int (nI ((8 * (tVl T L p1)) + x1))), (1, .int (nI x1)), (0, .ref 114)], [.int (nI 9), .int (nI 0), .int ((nI 8) + (nI ((8 * (tVl T L p1)) + x1))), .ref 114], M140)) (o := []) rfl trivial ?_
            rw [show ((nI 8) + (nI ((8 * (tVl T L p1)) + x1))) = (nI (8 + ((8 * (tVl T L p1)) + x1))) from (n_add rfl rfl)]
            cases hc3 : tkN T L mo (tNx T L p1) 0 9 with
            | inl f3 =>
              refine Wn.callV (p := 114) (n := 4) (ix := 235) (ci := (10)) (PFm M140 g145 f3.1 f3.2 (some (.int (nI 0)))) [.int (nI (8 + ((8 * (tVl T L p1)) + x1))), .int (nI 0), .int (nI 9)] [] rfl rfl rfl rfl (Nat.le_of_ble_eq_true rfl) (Nat.le_of_ble_eq_true rfl) (c_m_putsE _ M140 g145 T L mo (tNx T L p1) hg146 ht141 δ hk150 (8 + ((8 * (tVl T L p1)) + x1)) 0 9 (by omega) (by omega) (by omega) f3 hc3) ?_
              rintro _ M160 ⟨rfl, h15156, h16157, hx158, hF159⟩
              show Wn _ 70 _ (131, [(2, .int (nI ((8 * (tVl T L p1)) + x1))), (1, .int (nI x1)), (0, .ref 114)], [.int (nI 0)], M160)
              obtain ⟨g161, hg162⟩ : ∃ g9, M160.1 114 = g9 := ⟨_, rfl⟩
              have hx163 := hx158
              rw [hg162] at hx163
              have hf164 : g161 15 = nI f3.1 := by rw [← hg162]; exact h15156
              have hf165 : g161 16 = nI f3.2 := by rw [← hg162]; exact h16157
              have hk166 := fr_row hF159 (by decide) hk150
              have h6167 := n6_fr hF159 (by decide) h6152
              have hn168 := nf_fr hF159 (by decide) hn153
              have hF169 := fr_tr hF155 hF159 (by decide)
              have e9 : rdIc T L mo p δ ν o ic = .inl f3 := by unfold rdIc; rw [if_neg (by omega)]; simp only [hc1, hcY]; rw [if_neg h5]; simp only [hc3]
              rw [e9]
              exact Wn.zret rfl (Or.inl rfl) ⟨by rw [hg162]; exact (Gx_tr (Gx_tr (Gx_tr (Gx_tr (Gx_rf _ _) (Gx_mono hx8 (by decide))) (Gx_mono hx39 (by decide))) (Gx_mono hx147 (by decide))) (Gx_mono hx163 (by decide))), hF169, h6167, rfl, by rw [hg162]; exact hf164, by rw [hg162]; exact hf165⟩
            | inr v3 =>
              obtain ⟨x3, p3⟩ := v3
              refine Wn.callV (p := 114) (n := 4) (ix := 235) (ci := (10)) (PPt M140 g145 T L mo p3 (su δ (8 + ((8 * (tVl T L p1)) + x1)) x3)) [.int (nI (8 + ((8 * (tVl T L p1)) + x1))), .int (nI 0), .int (nI 9)] [] rfl rfl rfl rfl (Nat.le_of_ble_eq_true rfl) (Nat.le_of_ble_eq_true rfl) (c_m_putsV _ M140 g145 T L mo (tNx T L p1) hg146 ht141 δ hk150 (8 + ((8 * (tVl T L p1)) + x1)) 0 9 (by omega) (by omega) (by omega) x3 p3 hc3) ?_
              rintro _ M175 ⟨rfl, ht170, hr171, hx172, hj173, hF174⟩
              show Wn _ 70 _ (131, [(2, .int (nI ((8 * (tVl T L p1)) + x1))), (1, .int (nI x1)), (0, .ref 114)], [.int (nI 1)], M175)
              obtain ⟨g176, hg177⟩ : ∃ g9, M175.1 114 = g9 := ⟨_, rfl⟩
              have hx178 := hx172
              rw [hg177] at hx178
              have hf179 : g176 20 = (nI o) := (hx178 20 (by decide)).trans (show g145 20 = (nI o) from hf148)
              have hi180 := (hj173 21 (by decide)).trans hi151
              have h6181 := n6_fr hF174 (by decide) h6152
              have hn182 := nf_fr hF174 (by decide) hn153
              have hv183 := rv_fr hF174 (by decide) hv154
              have hF184 := fr_tr hF155 hF174 (by decide)
              have bd3 : 0 ≤ x3 ∧ x3 ≤ 9 := by obtain ⟨q1, q2, q3⟩ := tkN_inr hc3; cases q3; exact q2
              have kl3 := tKd_le T L mo p3
              have e9 : rdIc T L mo p δ ν o ic = .inr (p3, su δ (8 + (8 * tVl T L p1 + x1)) x3, ν, o, icu ic (8 * tVl T L p1 + x1)) := by unfold rdIc; rw [if_neg (by omega)]; simp only [hc1, hcY]; rw [if_neg h5]; simp only [hc3]
              rw [e9]
              exact Wn.zret rfl (Or.inr rfl) ⟨by rw [hg177]; exact (Gx_tr (Gx_tr (Gx_tr (Gx_tr (Gx_rf _ _) (Gx_mono hx8 (by decide))) (Gx_mono hx39 (by decide))) (Gx_mono hx147 (by decide))) (Gx_mono hx178 (by decide))), hF184, h6181, rfl, ht170, hr171, fun q hq => hn182 q (by have hq2 : q < su δ (8 + (8 * tVl T L p1 + x1)) x3 2 := hq; rw [su_ne (by omega)] at hq2; exact hq2), by rw [hg177]; exact hf179, hi180⟩
          · show Wn _ 70 _ (98, [(2, .int (((nI 8) * (M36.1 114 14)) + (nI x1))), (1, .int (nI x1)), (0, .ref 114)], [], M36)
            rw [show (M36.1 114 14) = (nI (tVl T L p1)) from (ht31.2.2.2.2.2.1 (by omega))] at h5
            rw [show (M36.2.1 114 21) = ic from hi43] at h5
            rw [pk_mul, nI_add] at h5
            have h5 : ((ic >>> ((nI (8 * (tVl T L p1) + x1)).toInt64 &&& 63)) &&& 1 = 1) := (lg_cmp_eq _ _).mp (Classical.not_not.mp h5)
            rw [show (M36.1 114 14) = (nI (tVl T L p1)) from (ht31.2.2.2.2.2.1 (by omega))]
            rw [show (((nI 8) * (nI (tVl T L p1))) + (nI x1)) = (nI ((8 * (tVl T L p1)) + x1)) from (n_add (n_mul rfl rfl) rfl)]
            refine Wn.run (tab := tb_m_readIce) rfl 2 (c' := (100, [(2, .int (nI ((8 * (tVl T L p1)) + x1))), (1, .int (nI x1)), (0, .ref 114)], [.int (nI 3), .ref 114], M36)) (o := []) rfl trivial ?_
            refine Wn.callV (p := 114) (n := 2) (ix := 188) (ci := (10)) (PBd M36 g37 (nI 3) (nI (tAt T L mo p1))) [.int (nI 3)] [] rfl rfl rfl rfl (Nat.le_of_ble_eq_true rfl) (Nat.le_of_ble_eq_true rfl) (c_m_bad _ M36 g37 T L mo p1 hg38 ht31 (nI 3)) ?_
            rintro _ M185 ⟨rfl, hg186, hs187, hF188⟩
            show Wn _ 70 _ (103, [(2, .int (nI ((8 * (tVl T L p1)) + x1))), (1, .int (nI x1)), (0, .ref 114)], [.int (nI 0)], M185)
            have hk189 := fr_row hF188 (by decide) hk42
            have h6190 := n6_fr hF188 (by decide) h644
            have hn191 := nf_fr hF188 (by decide) hn45
            have hv192 := rv_fr hF188 (by decide) hv46
            have hF193 := fr_tr hF47 hF188 (by decide)
            have e9 : rdIc T L mo p δ ν o ic = .inl (3, tAt T L mo p1) := by unfold rdIc; rw [if_neg (by omega)]; simp only [hc1, hcY]; rw [if_pos h5]
            rw [e9]
            exact Wn.zret rfl (Or.inl rfl) ⟨by rw [hg186]; exact (Gx_up (Gx_up (Gx_tr (Gx_tr (Gx_rf _ _) (Gx_mono hx8 (by decide))) (Gx_mono hx39 (by decide))) (by decide)) (by decide)), hF193, h6190, rfl, by rw [hg186]; exact ((pk_un (by decide)).trans pk_us), by rw [hg186]; exact pk_us⟩
        · show Wn _ 70 _ (69, [(1, .int (nI x1)), (0, .ref 114)], [], M36)
          have h4 := mt (n_lt (ht31.2.2.2.2.2.1 (by omega)) (rd0 hk42 (by omega)) (by omega) (by omega)).mpr h4
          refine Wn.run (tab := tb_m_readIce) rfl 2 (c' := (71, [(1, .int (nI x1)), (0, .ref 114)], [.int (nI 2), .ref 114], M36)) (o := []) rfl trivial ?_
          refine Wn.callV (p := 114) (n := 2) (ix := 188) (ci := (10)) (PBd M36 g37 (nI 2) (nI (tAt T L mo p1))) [.int (nI 2)] [] rfl rfl rfl rfl (Nat.le_of_ble_eq_true rfl) (Nat.le_of_ble_eq_true rfl) (c_m_bad _ M36 g37 T L mo p1 hg38 ht31 (nI 2)) ?_
          rintro _ M194 ⟨rfl, hg195, hs196, hF197⟩
          show Wn _ 70 _ (74, [(1, .int (nI x1)), (0, .ref 114)], [.int (nI 0)], M194)
          have hk198 := fr_row hF197 (by decide) hk42
          have h6199 := n6_fr hF197 (by decide) h644
          have hn200 := nf_fr hF197 (by decide) hn45
          have hv201 := rv_fr hF197 (by decide) hv46
          have hF202 := fr_tr hF47 hF197 (by decide)
          exact absurd h4 (by omega)
  · show Wn _ 70 _ (9, [(0, .ref 114)], [], M)
    have h1 := mt (n_le (rd0 hh (by omega)) nI_0.symm (by omega) (by omega)).mpr h1
    refine Wn.run (tab := tb_m_readIce) rfl 2 (c' := (11, [(0, .ref 114)], [.int (nI 3), .ref 114], M)) (o := []) rfl trivial ?_
    refine Wn.callV (p := 114) (n := 2) (ix := 188) (ci := (10)) (PBd M g (nI 3) (nI (tAt T L mo p))) [.int (nI 3)] [] rfl rfl rfl rfl (Nat.le_of_ble_eq_true rfl) (Nat.le_of_ble_eq_true rfl) (c_m_bad _ M g T L mo p hg hK (nI 3)) ?_
    rintro _ M203 ⟨rfl, hg204, hs205, hF206⟩
    show Wn _ 70 _ (14, [(0, .ref 114)], [.int (nI 0)], M203)
    have hk207 := fr_row hF206 (by decide) hh
    have h6208 := n6_fr hF206 (by decide) h6
    have hn209 := nf_fr hF206 (by decide) hN
    have hv210 := rv_fr hF206 (by decide) hv
    have hF211 := fr_tr hF hF206 (by decide)
    have e9 : rdIc T L mo p δ ν o ic = .inl (3, tAt T L mo p) := by unfold rdIc; rw [if_pos (by omega)]
    rw [e9]
    exact Wn.zret rfl (Or.inl rfl) ⟨by rw [hg204]; exact (Gx_up (Gx_up (Gx_rf _ _) (by decide)) (by decide)), hF211, h6208, rfl, by rw [hg204]; exact ((pk_un (by decide)).trans pk_us), by rw [hg204]; exact pk_us⟩
