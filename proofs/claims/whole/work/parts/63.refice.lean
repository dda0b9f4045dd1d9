/-- the cell c was told -/
def icb (ic : Int64) (c : Nat) : Prop := (ic >>> ((nI c).toInt64 &&& 63)) &&& 1 = 1
def icu (ic : Int64) (c : Nat) : Int64 := ic ||| ((1 : Int64) <<< ((nI c).toInt64 &&& 63))
def rdIc (T : Nat → Nat) (L mo p : Nat) (δ : Nat → Nat) (ν : Nat → Int64) (o : Nat) (ic : Int64) : Flt ⊕ Dst :=
  if 0 < δ 2 then .inl (3, tAt T L mo p) else
  match tkN T L mo (tNx T L p) 0 (δ 0 - 1) with
  | .inl f => .inl f
  | .inr (x, p1) => match tkN T L mo p1 0 (δ 1 - 1) with
    | .inl f => .inl f
    | .inr (y, p2) => if (ic >>> ((nI (8 * y + x)).toInt64 &&& 63)) &&& 1 = 1 then .inl (3, tAt T L mo p1) else
      match tkN T L mo p2 0 9 with
      | .inl f => .inl f
      | .inr (i, p3) => .inr (p3, su δ (8 + (8 * y + x)) i, ν, o, icu ic (8 * y + x))
set_option maxRecDepth 20000 in
theorem c_m_readIce (d : Nat) (M : Mm) (g : Nat → Int32) (T : Nat → Nat) (L mo p : Nat) (hg : M.1 114 = g) (hK : TkM M T L mo p) (δ : Nat → Nat) (hh : ∀ k, k < 90 → M.1 117 k = nI (δ k)) (hδ : DB δ) (ν : Nat → Int64) (hN : ∀ q, q < δ 2 → M.2.1 119 (6 + q) = ν q) (o : Nat) (ho : g 20 = nI o) (ho5 : o < 32) (ic : Int64) (hic : M.2.1 114 21 = ic) (hv : Rsv M) (hk : tKd T L mo p = 11) : Wn (d + 4) 70 (PRm M g T L mo (rdIc T L mo p δ ν o ic)) (0, lv_args 0 [.ref 114], [], M) := by
  have hF := fr_rf [114, 117, 119] M
  have h6 : ∀ q, q < 6 → M.2.1 119 q = M.2.1 119 q := fun _ _ => rfl
  have kl := tKd_le T L mo p
  obtain ⟨b0, b1, b2_9, bq, bc⟩ := hδ
  refine Wn.run (tab := tb_m_readIce) rfl 5 (c' := (if (M.1 117 2) ≤ 0 then 15 else 9, [(0, .ref 114)], [], M)) (o := [shp 114 = (0, 10), aok shp 117 0 (nI 2)]) rfl ⟨rfl, ⟨rfl, vp_in_nI (by decide) (by decide)⟩⟩ ?_
  refine Wn.br (fun h1 => ?_) (fun h1 => ?_)
  · show Wn _ 70 _ (15, [(0, .ref 114)], [], M)
    have h1 := (n_le (rd0 hh (by omega)) nI_0.symm (by omega) (by omega)).mp h1
    refine Wn.run (tab := tb_m_readIce) rfl 1 (c' := (16, [(0, .ref 114)], [.ref 114], M)) (o := []) rfl trivial ?_
    refine Wn.callV (p := 114) (n := 1) (ix := 191) (ci := (10)) (PNx M g T L mo (tNx T L p)) [] [] rfl rfl rfl rfl (Nat.le_of_ble_eq_true rfl) (Nat.le_of_ble_eq_true rfl) (c_m_nx _ M g T L mo p hg hK (by omega) (by omega)) ?_
    rintro _ M1 ⟨rfl, ht2, hx3, hj4, hF5⟩
    show Wn _ 70 _ (19, [(0, .ref 114)], [], M1)
    obtain ⟨g6, hg7⟩ : ∃ g9, M1.1 114 = g9 := ⟨_, rfl⟩
    have hx8 := hx3
    rw [hg7] at hx8
    have hf9 : g6 20 = (nI o) := (hx8 20 (by decide)).trans (show g 20 = (nI o) from ho)
    have hf10 : g6 18 = (g 18) := (hx8 18 (by decide)).trans (show g 18 = (g 18) from rfl)
    have hf11 : g6 15 = (g 15) := (hx8 15 (by decide)).trans (show g 15 = (g 15) from rfl)
    have hk12 := fr_row hF5 (by decide) hh
    have hi13 := (hj4 21 (by decide)).trans hic
    have h614 := n6_fr hF5 (by decide) h6
    have hn15 := nf_fr hF5 (by decide) hN
    have hv16 := rv_fr hF5 (by decide) hv
    have hF17 := fr_tr hF hF5 (by decide)
    refine Wn.run (tab := tb_m_readIce) rfl 8 (c' := (29, [(0, .ref 114)], [.int ((M1.1 117 0) - (nI 1)), .int (nI 0), .ref 114], M1)) (o := [shp 114 = (0, 10), aok shp 117 0 (nI 0)]) rfl ⟨rfl, ⟨rfl, vp_in_nI (by decide) (by decide)⟩⟩ ?_
    rw [show (M1.1 117 0) = (nI (δ 0)) from (rd0 hk12 (by omega))]
    rw [show ((nI (δ 0)) - (nI 1)) = (nI ((δ 0) - 1)) from (n_sub rfl rfl (by omega))]
    cases hc1 : tkN T L mo (tNx T L p) 0 ((δ 0) - 1) with
    | inl f1 =>
      refine Wn.callV (p := 114) (n := 3) (ix := 201) (ci := (10)) (PFm M1 g6 f1.1 f1.2 (some (.int (nI 0)))) [.int (nI 0), .int (nI ((δ 0) - 1))] [] rfl rfl rfl rfl (Nat.le_of_ble_eq_true rfl) (Nat.le_of_ble_eq_true rfl) (c_m_takesE _ M1 g6 T L mo (tNx T L p) hg7 ht2 0 ((δ 0) - 1) (by omega) (by omega) f1 hc1) ?_
      rintro _ M22 ⟨rfl, h1518, h1619, hx20, hF21⟩
      show Wn _ 70 _ (32, [(0, .ref 114)], [.int (nI 0)], M22)
      obtain ⟨g23, hg24⟩ : ∃ g9, M22.1 114 = g9 := ⟨_, rfl⟩
      have hx25 := hx20
      rw [hg24] at hx25
      have hf26 : g23 15 = nI f1.1 := by rw [← hg24]; exact h1518
      have hf27 : g23 16 = nI f1.2 := by rw [← hg24]; exact h1619
      have hk28 := fr_row hF21 (by decide) hk12
      have h629 := n6_fr hF21 (by decide) h614
      have hn30 := nf_fr hF21 (by decide) hn15
      have hF31 := fr_tr hF17 hF21 (by decide)
      refine Wn.run (tab := tb_m_readIce) rfl 1 (c' := (if ¬ (nI 0) = 0 then 37 else 35, [(0, .ref 114)], [], M22)) (o := []) rfl trivial ?_
      rw [if_neg (show ¬ (¬ (nI 0) = 0) by decide)]
      show Wn _ 70 _ (35, [(0, .ref 114)], [], M22)
      refine Wn.run (tab := tb_m_readIce) rfl 1 (c' := (36, [(0, .ref 114)], [.int (nI 0)], M22)) (o := []) rfl trivial ?_
      have e9 : rdIc T L mo p δ ν o ic = .inl f1 := by unfold rdIc; rw [if_neg (by omega)]; simp only [hc1]
      rw [e9]
      exact Wn.zret rfl (Or.inl rfl) ⟨by rw [hg24]; exact (Gx_tr (Gx_tr (Gx_rf _ _) (Gx_mono hx8 (by decide))) (Gx_mono hx25 (by decide))), hF31, h629, rfl, by rw [hg24]; exact hf26, by rw [hg24]; exact hf27⟩
    | inr v1 =>
      obtain ⟨x1, p1⟩ := v1
      refine Wn.callV (p := 114) (n := 3) (ix := 201) (ci := (10)) (PTm M1 g6 T L mo p1 [4, 11, 12, 13, 14, 18] (nI x1) (some (.int (nI 1)))) [.int (nI 0), .int (nI ((δ 0) - 1))] [] rfl rfl rfl rfl (Nat.le_of_ble_eq_true rfl) (Nat.le_of_ble_eq_true rfl) (c_m_takesV _ M1 g6 T L mo (tNx T L p) hg7 ht2 0 ((δ 0) - 1) (by omega) (by omega) (x1, p1) hc1) ?_
      rintro _ M37 ⟨rfl, ht32, h1833, hx34, hj35, hF36⟩
      show Wn _ 70 _ (32, [(0, .ref 114)], [.int (nI 1)], M37)
      obtain ⟨g38, hg39⟩ : ∃ g9, M37.1 114 = g9 := ⟨_, rfl⟩
      have hx40 := hx34
      rw [hg39] at hx40
      have hf41 : g38 20 = (nI o) := (hx40 20 (by decide)).trans (show g6 20 = (nI o) from hf9)
      have hf42 : g38 15 = (g 15) := (hx40 15 (by decide)).trans (show g6 15 = (g 15) from hf11)
      have hf43 : g38 18 = nI x1 := by rw [← hg39]; exact h1833
      have hk44 := fr_row hF36 (by decide) hk12
      have hi45 := (hj35 21 (by decide)).trans hi13
      have h646 := n6_fr hF36 (by decide) h614
      have hn47 := nf_fr hF36 (by decide) hn15
      have hv48 := rv_fr hF36 (by decide) hv16
      have hF49 := fr_tr hF17 hF36 (by decide)
      have bd1 : 0 ≤ x1 ∧ x1 ≤ ((δ 0) - 1) := by obtain ⟨q1, q2, q3⟩ := tkN_inr hc1; cases q3; exact q2
      have kl1 := tKd_le T L mo p1
      refine Wn.run (tab := tb_m_readIce) rfl 1 (c' := (if ¬ (nI 1) = 0 then 37 else 35, [(0, .ref 114)], [], M37)) (o := []) rfl trivial ?_
      rw [if_pos (show ¬ (nI 1) = 0 by decide)]
      show Wn _ 70 _ (37, [(0, .ref 114)], [], M37)
      refine Wn.run (tab := tb_m_readIce) rfl 3 (c' := (42, [(1, .int (M37.1 114 18)), (0, .ref 114)], [], M37)) (o := [shp 114 = (0, 10)]) rfl rfl ?_
      rw [show (M37.1 114 18) = (nI x1) from (fr_eq hg39 (show g38 18 = (nI x1) from hf43))]
      cases hcY : tkN T L mo p1 0 (δ 1 - 1) with
      | inl fY =>
        rcases tkN_inl hcY with ⟨hk1, rfl⟩ | ⟨hk1, hk2, rfl⟩
        · have tv9 : tKd T L mo p1 = 2 → tVl T L p1 < 1000 := fun h => tVl_lt (TkM_T hK) h
          refine Wn.run (tab := tb_m_readIce) rfl 4 (c' := (if (M37.1 114 11) = (nI 2) then 56 else 50, [(1, .int (nI x1)), (0, .ref 114)], [], M37)) (o := [shp 114 = (0, 10)]) rfl rfl ?_
          rw [if_neg (by rw [ht32.2.2.2.1]; intro q9; have q8 := (nI_eq (by have := tCd_le (tKd T L mo p1); omega) (by omega)).mp q9; have q7 := (tCd_2 (tKd_le _ _ _ _)).mp q8; omega)]
          show Wn _ 70 _ (50, [(1, .int (nI x1)), (0, .ref 114)], [], M37)
          refine Wn.run (tab := tb_m_readIce) rfl 2 (c' := (52, [(1, .int (nI x1)), (0, .ref 114)], [.int (nI 1), .ref 114], M37)) (o := []) rfl trivial ?_
          refine Wn.callV (p := 114) (n := 2) (ix := 188) (ci := (10)) (PBd M37 g38 (nI 1) (nI (tAt T L mo p1))) [.int (nI 1)] [] rfl rfl rfl rfl (Nat.le_of_ble_eq_true rfl) (Nat.le_of_ble_eq_true rfl) (c_m_bad _ M37 g38 T L mo p1 hg39 ht32 (nI 1)) ?_
          rintro _ M50 ⟨rfl, hg51, hs52, hF53⟩
          show Wn _ 70 _ (55, [(1, .int (nI x1)), (0, .ref 114)], [.int (nI 0)], M50)
          have hk54 := fr_row hF53 (by decide) hk44
          have h655 := n6_fr hF53 (by decide) h646
          have hn56 := nf_fr hF53 (by decide) hn47
          have hv57 := rv_fr hF53 (by decide) hv48
          have hF58 := fr_tr hF49 hF53 (by decide)
          have e9 : rdIc T L mo p δ ν o ic = .inl (1, tAt T L mo p1) := by unfold rdIc; rw [if_neg (by omega)]; simp only [hc1, hcY]
          rw [e9]
          exact Wn.zret rfl (Or.inl rfl) ⟨by rw [hg51]; exact (Gx_up (Gx_up (Gx_tr (Gx_tr (Gx_rf _ _) (Gx_mono hx8 (by decide))) (Gx_mono hx40 (by decide))) (by decide)) (by decide)), hF58, h655, rfl, by rw [hg51]; exact ((pk_un (by decide)).trans pk_us), by rw [hg51]; exact pk_us⟩
        · have tv9 : tKd T L mo p1 = 2 → tVl T L p1 < 1000 := fun h => tVl_lt (TkM_T hK) h
          refine Wn.run (tab := tb_m_readIce) rfl 4 (c' := (if (M37.1 114 11) = (nI 2) then 56 else 50, [(1, .int (nI x1)), (0, .ref 114)], [], M37)) (o := [shp 114 = (0, 10)]) rfl rfl ?_
          rw [if_pos (by rw [ht32.2.2.2.1]; exact congrArg nI ((tCd_2 (tKd_le _ _ _ _)).mpr (by omega)))]
          show Wn _ 70 _ (56, [(1, .int (nI x1)), (0, .ref 114)], [], M37)
          refine Wn.run (tab := tb_m_readIce) rfl 7 (c' := (if (M37.1 114 14) < (M37.1 117 1) then 75 else 69, [(1, .int (nI x1)), (0, .ref 114)], [], M37)) (o := [shp 114 = (0, 10), shp 114 = (0, 10), aok shp 117 0 (nI 1)]) rfl ⟨rfl, rfl, ⟨rfl, vp_in_nI (by decide) (by decide)⟩⟩ ?_
          refine Wn.br (fun h2 => ?_) (fun h2 => ?_)
          · show Wn _ 70 _ (75, [(1, .int (nI x1)), (0, .ref 114)], [], M37)
            have h2 := (n_lt (ht32.2.2.2.2.2.1 (by omega)) (rd0 hk44 (by omega)) (by omega) (by omega)).mp h2
            refine Wn.run (tab := tb_m_readIce) rfl 16 (c' := (if ¬ (lg_cmp (((M37.2.1 114 21) >>> (((((nI 8) * (M37.1 114 14)) + (nI x1))).toInt64 &&& 63)) &&& (1 : Int64)) (1 : Int64)) = 0 then 104 else 98, [(2, .int (((nI 8) * (M37.1 114 14)) + (nI x1))), (1, .int (nI x1)), (0, .ref 114)], [], M37)) (o := [shp 114 = (0, 10), shp 114 = (0, 10)]) rfl ⟨rfl, rfl⟩ ?_
            refine Wn.br (fun h3 => ?_) (fun h3 => ?_)
            · show Wn _ 70 _ (104, [(2, .int (((nI 8) * (M37.1 114 14)) + (nI x1))), (1, .int (nI x1)), (0, .ref 114)], [], M37)
              rw [show (M37.1 114 14) = (nI (tVl T L p1)) from (ht32.2.2.2.2.2.1 (by omega))] at h3
              rw [show (M37.2.1 114 21) = ic from hi45] at h3
              rw [pk_mul, nI_add] at h3
              have h3 : ¬ ((ic >>> ((nI (8 * (tVl T L p1) + x1)).toInt64 &&& 63)) &&& 1 = 1) := fun q9 => h3 ((lg_cmp_eq _ _).mpr q9)
              rw [show (M37.1 114 14) = (nI (tVl T L p1)) from (ht32.2.2.2.2.2.1 (by omega))]
              rw [show (((nI 8) * (nI (tVl T L p1))) + (nI x1)) = (nI ((8 * (tVl T L p1)) + x1)) from (n_add (n_mul rfl rfl) rfl)]
              refine Wn.run (tab := tb_m_readIce) rfl 8 (c' := (116, [(2, .int (nI ((8 * (tVl T L p1)) + x1))), (1, .int (nI x1)), (0, .ref 114)], [], (mJ M37 114 (vp_updL (M37.2.1 114) 21 ((M37.2.1 114 21) ||| ((1 : Int64) <<< (((nI ((8 * (tVl T L p1)) + x1))).toInt64 &&& 63))))))) (o := [shp 114 = (0, 10), shp 114 = (0, 10)]) rfl ⟨rfl, rfl⟩ ?_
              rw [show (M37.2.1 114 21) = ic from hi45]
              generalize hM60 : (mJ M37 114 (vp_updL (M37.2.1 114) 21 (ic ||| ((1 : Int64) <<< (((nI ((8 * (tVl T L p1)) + x1))).toInt64 &&& 63))))) = M59
              have ht61 := TkM_uJ hM60 (by decide) ht32
              have hk62 := fI_oJ hM60 hg39
              have hk63 := row_oJ hM60 hk44
              have hi64 := jc_eq hM60
              have h665 := n6_fr (fr_1J hM60) (by decide) h646
              have hn66 := nf_fr (fr_1J hM60) (by decide) hn47
              have hv67 := rv_fr (fr_1J hM60) (by decide) hv48
              have hF68 := fr_sJ hF49 hM60 (by decide)
              show Wn _ 70 _ (116, [(2, .int (nI ((8 * (tVl T L p1)) + x1))), (1, .int (nI x1)), (0, .ref 114)], [], M59)
              refine Wn.run (tab := tb_m_readIce) rfl 1 (c' := (117, [(2, .int (nI ((8 * (tVl T L p1)) + x1))), (1, .int (nI x1)), (0, .ref 114)], [.ref 114], M59)) (o := []) rfl trivial ?_
              refine Wn.callV (p := 114) (n := 1) (ix := 191) (ci := (10)) (PNx M59 g38 T L mo (tNx T L p1)) [] [] rfl rfl rfl rfl (Nat.le_of_ble_eq_true rfl) (Nat.le_of_ble_eq_true rfl) (c_m_nx _ M59 g38 T L mo p1 hk62 ht61 (by omega) (by omega)) ?_
              rintro _ M69 ⟨rfl, ht70, hx71, hj72, hF73⟩
              show Wn _ 70 _ (120, [(2, .int (nI ((8 * (tVl T L p1)) + x1))), (1, .int (nI x1)), (0, .ref 114)], [], M69)
              obtain ⟨g74, hg75⟩ : ∃ g9, M69.1 114 = g9 := ⟨_, rfl⟩
              have hx76 := hx71
              rw [hg75] at hx76
              have hf77 : g74 20 = (nI o) := (hx76 20 (by decide)).trans (show g38 20 = (nI o) from hf41)
              have hf78 : g74 18 = (nI x1) := (hx76 18 (by decide)).trans (show g38 18 = (nI x1) from hf43)
              have hf79 : g74 15 = (g 15) := (hx76 15 (by decide)).trans (show g38 15 = (g 15) from hf42)
              have hk80 := fr_row hF73 (by decide) hk63
              have hi81 := (hj72 21 (by decide)).trans hi64
              have h682 := n6_fr hF73 (by decide) h665
              have hn83 := nf_fr hF73 (by decide) hn66
              have hv84 := rv_fr hF73 (by decide) hv67
              have hF85 := fr_tr hF68 hF73 (by decide)
              refine Wn.run (tab := tb_m_readIce) rfl 6 (c' := (128, [(2, .int (nI ((8 * (tVl T L p1)) + x1))), (1, .int (nI x1)), (0, .ref 114)], [.int (nI 9), .int (nI 0), .int ((nI 8) + (nI ((8 * (tVl T L p1)) + x1))), .ref 114], M69)) (o := []) rfl trivial ?_
              rw [show ((nI 8) + (nI ((8 * (tVl T L p1)) + x1))) = (nI (8 + ((8 * (tVl T L p1)) + x1))) from (n_add rfl rfl)]
              cases hc2 : tkN T L mo (tNx T L p1) 0 9 with
              | inl f2 =>
                refine Wn.callV (p := 114) (n := 4) (ix := 235) (ci := (10)) (PFm M69 g74 f2.1 f2.2 (some (.int (nI 0)))) [.int (nI (8 + ((8 * (tVl T L p1)) + x1))), .int (nI 0), .int (nI 9)] [] rfl rfl rfl rfl (Nat.le_of_ble_eq_true rfl) (Nat.le_of_ble_eq_true rfl) (c_m_putsE _ M69 g74 T L mo (tNx T L p1) hg75 ht70 δ hk80 (8 + ((8 * (tVl T L p1)) + x1)) 0 9 (by omega) (by omega) (by omega) f2 hc2) ?_
                rintro _ M90 ⟨rfl, h1586, h1687, hx88, hF89⟩
                show Wn _ 70 _ (131, [(2, .int (nI ((8 * (tVl T L p1)) + x1))), (1, .int (nI x1)), (0, .ref 114)], [.int (nI 0)], M90)
                obtain ⟨g91, hg92⟩ : ∃ g9, M90.1 114 = g9 := ⟨_, rfl⟩
                have hx93 := hx88
                rw [hg92] at hx93
                have hf94 : g91 15 = nI f2.1 := by rw [← hg92]; exact h1586
                have hf95 : g91 16 = nI f2.2 := by rw [← hg92]; exact h1687
                have hk96 := fr_row hF89 (by decide) hk80
                have h697 := n6_fr hF89 (by decide) h682
                have hn98 := nf_fr hF89 (by decide) hn83
                have hF99 := fr_tr hF85 hF89 (by decide)
                exact absurd hc2 (by omega)
              | inr v2 =>
                obtain ⟨x2, p2⟩ := v2
                refine Wn.callV (p := 114) (n := 4) (ix := 235) (ci := (10)) (PPt M69 g74 T L mo p2 (su δ (8 + ((8 * (tVl T L p1)) + x1)) x2)) [.int (nI (8 + ((8 * (tVl T L p1)) + x1))), .int (nI 0), .int (nI 9)] [] rfl rfl rfl rfl (Nat.le_of_ble_eq_true rfl) (Nat.le_of_ble_eq_true rfl) (c_m_putsV _ M69 g74 T L mo (tNx T L p1) hg75 ht70 δ hk80 (8 + ((8 * (tVl T L p1)) + x1)) 0 9 (by omega) (by omega) (by omega) x2 p2 hc2) ?_
                rintro _ M105 ⟨rfl, ht100, hr101, hx102, hj103, hF104⟩
                show Wn _ 70 _ (131, [(2, .int (nI ((8 * (tVl T L p1)) + x1))), (1, .int (nI x1)), (0, .ref 114)], [.int (nI 1)], M105)
                obtain ⟨g106, hg107⟩ : ∃ g9, M105.1 114 = g9 := ⟨_, rfl⟩
                have hx108 := hx102
                rw [hg107] at hx108
                have hf109 : g106 20 = (nI o) := (hx108 20 (by decide)).trans (show g74 20 = (nI o) from hf77)
                have hf110 : g106 15 = (g 15) := (hx108 15 (by decide)).trans (show g74 15 = (g 15) from hf79)
                have hi111 := (hj103 21 (by decide)).trans hi81
                have h6112 := n6_fr hF104 (by decide) h682
                have hn113 := nf_fr hF104 (by decide) hn83
                have hv114 := rv_fr hF104 (by decide) hv84
                have hF115 := fr_tr hF85 hF104 (by decide)
                have bd2 : 0 ≤ x2 ∧ x2 ≤ 9 := by obtain ⟨q1, q2, q3⟩ := tkN_inr hc2; cases q3; exact q2
                have kl2 := tKd_le T L mo p2
                exact absurd hc2 (by omega)
            · show Wn _ 70 _ (98, [(2, .int (((nI 8) * (M37.1 114 14)) + (nI x1))), (1, .int (nI x1)), (0, .ref 114)], [], M37)
              rw [show (M37.1 114 14) = (nI (tVl T L p1)) from (ht32.2.2.2.2.2.1 (by omega))] at h3
              rw [show (M37.2.1 114 21) = ic from hi45] at h3
              rw [pk_mul, nI_add] at h3
              have h3 : ((ic >>> ((nI (8 * (tVl T L p1) + x1)).toInt64 &&& 63)) &&& 1 = 1) := (lg_cmp_eq _ _).mp (Classical.not_not.mp h3)
              rw [show (M37.1 114 14) = (nI (tVl T L p1)) from (ht32.2.2.2.2.2.1 (by omega))]
              rw [show (((nI 8) * (nI (tVl T L p1))) + (nI x1)) = (nI ((8 * (tVl T L p1)) + x1)) from (n_add (n_mul rfl rfl) rfl)]
              refine Wn.run (tab := tb_m_readIce) rfl 2 (c' := (100, [(2, .int (nI ((8 * (tVl T L p1)) + x1))), (1, .int (nI x1)), (0, .ref 114)], [.int (nI 3), .ref 114], M37)) (o := []) rfl trivial ?_
              refine Wn.callV (p := 114) (n := 2) (ix := 188) (ci := (10)) (PBd M37 g38 (nI 3) (nI (tAt T L mo p1))) [.int (nI 3)] [] rfl rfl rfl rfl (Nat.le_of_ble_eq_true rfl) (Nat.le_of_ble_eq_true rfl) (c_m_bad _ M37 g38 T L mo p1 hg39 ht32 (nI 3)) ?_
              rintro _ M116 ⟨rfl, hg117, hs118, hF119⟩
              show Wn _ 70 _ (103, [(2, .int (nI ((8 * (tVl T L p1)) + x1))), (1, .int (nI x1)), (0, .ref 114)], [.int (nI 0)], M116)
              have hk120 := fr_row hF119 (by decide) hk44
              have h6121 := n6_fr hF119 (by decide) h646
              have hn122 := nf_fr hF119 (by decide) hn47
              have hv123 := rv_fr hF119 (by decide) hv48
              have hF124 := fr_tr hF49 hF119 (by decide)
              exact absurd h3 (by omega)
          · show Wn _ 70 _ (69, [(1, .int (nI x1)), (0, .ref 114)], [], M37)
            have h2 := mt (n_lt (ht32.2.2.2.2.2.1 (by omega)) (rd0 hk44 (by omega)) (by omega) (by omega)).mpr h2
            refine Wn.run (tab := tb_m_readIce) rfl 2 (c' := (71, [(1, .int (nI x1)), (0, .ref 114)], [.int (nI 2), .ref 114], M37)) (o := []) rfl trivial ?_
            refine Wn.callV (p := 114) (n := 2) (ix := 188) (ci := (10)) (PBd M37 g38 (nI 2) (nI (tAt T L mo p1))) [.int (nI 2)] [] rfl rfl rfl rfl (Nat.le_of_ble_eq_true rfl) (Nat.le_of_ble_eq_true rfl) (c_m_bad _ M37 g38 T L mo p1 hg39 ht32 (nI 2)) ?_
            rintro _ M125 ⟨rfl, hg126, hs127, hF128⟩
            show Wn _ 70 _ (74, [(1, .int (nI x1)), (0, .ref 114)], [.int (nI 0)], M125)
            have hk129 := fr_row hF128 (by decide) hk44
            have h6130 := n6_fr hF128 (by decide) h646
            have hn131 := nf_fr hF128 (by decide) hn47
            have hv132 := rv_fr hF128 (by decide) hv48
            have hF133 := fr_tr hF49 hF128 (by decide)
            have e9 : rdIc T L mo p δ ν o ic = .inl (2, tAt T L mo p1) := by unfold rdIc; rw [if_neg (by omega)]; simp only [hc1, hcY]
            rw [e9]
            exact Wn.zret rfl (Or.inl rfl) ⟨by rw [hg126]; exact (Gx_up (Gx_up (Gx_tr (Gx_tr (Gx_rf _ _) (Gx_mono hx8 (by decide))) (Gx_mono hx40 (by decide))) (by decide)) (by decide)), hF133, h6130, rfl, by rw [hg126]; exact ((pk_un (by decide)).trans pk_us), by rw [hg126]; exact pk_us⟩
      | inr vY =>
        obtain ⟨hk1, hk2, rfl⟩ := tkN_inr hcY
        have tv9 := tVl_lt (TkM_T hK) hk1
        refine Wn.run (tab := tb_m_readIce) rfl 4 (c' := (if (M37.1 114 11) = (nI 2) then 56 else 50, [(1, .int (nI x1)), (0, .ref 114)], [], M37)) (o := [shp 114 = (0, 10)]) rfl rfl ?_
        rw [if_pos (by rw [ht32.2.2.2.1]; exact congrArg nI ((tCd_2 (tKd_le _ _ _ _)).mpr (by omega)))]
        show Wn _ 70 _ (56, [(1, .int (nI x1)), (0, .ref 114)], [], M37)
        refine Wn.run (tab := tb_m_readIce) rfl 7 (c' := (if (M37.1 114 14) < (M37.1 117 1) then 75 else 69, [(1, .int (nI x1)), (0, .ref 114)], [], M37)) (o := [shp 114 = (0, 10), shp 114 = (0, 10), aok shp 117 0 (nI 1)]) rfl ⟨rfl, rfl, ⟨rfl, vp_in_nI (by decide) (by decide)⟩⟩ ?_
        refine Wn.br (fun h4 => ?_) (fun h4 => ?_)
        · show Wn _ 70 _ (75, [(1, .int (nI x1)), (0, .ref 114)], [], M37)
          have h4 := (n_lt (ht32.2.2.2.2.2.1 (by omega)) (rd0 hk44 (by omega)) (by omega) (by omega)).mp h4
          refine Wn.run (tab := tb_m_readIce) rfl 16 (c' := (if ¬ (lg_cmp (((M37.2.1 114 21) >>> (((((nI 8) * (M37.1 114 14)) + (nI x1))).toInt64 &&& 63)) &&& (1 : Int64)) (1 : Int64)) = 0 then 104 else 98, [(2, .int (((nI 8) * (M37.1 114 14)) + (nI x1))), (1, .int (nI x1)), (0, .ref 114)], [], M37)) (o := [shp 114 = (0, 10), shp 114 = (0, 10)]) rfl ⟨rfl, rfl⟩ ?_
          refine Wn.br (fun h5 => ?_) (fun h5 => ?_)
          · show Wn _ 70 _ (104, [(2, .int (((nI 8) * (M37.1 114 14)) + (nI x1))), (1, .int (nI x1)), (0, .ref 114)], [], M37)
            rw [show (M37.1 114 14) = (nI (tVl T L p1)) from (ht32.2.2.2.2.2.1 (by omega))] at h5
            rw [show (M37.2.1 114 21) = ic from hi45] at h5
            rw [pk_mul, nI_add] at h5
            have h5 : ¬ ((ic >>> ((nI (8 * (tVl T L p1) + x1)).toInt64 &&& 63)) &&& 1 = 1) := fun q9 => h5 ((lg_cmp_eq _ _).mpr q9)
            rw [show (M37.1 114 14) = (nI (tVl T L p1)) from (ht32.2.2.2.2.2.1 (by omega))]
            rw [show (((nI 8) * (nI (tVl T L p1))) + (nI x1)) = (nI ((8 * (tVl T L p1)) + x1)) from (n_add (n_mul rfl rfl) rfl)]
            refine Wn.run (tab := tb_m_readIce) rfl 8 (c' := (116, [(2, .int (nI ((8 * (tVl T L p1)) + x1))), (1, .int (nI x1)), (0, .ref 114)], [], (mJ M37 114 (vp_updL (M37.2.1 114) 21 ((M37.2.1 114 21) ||| ((1 : Int64) <<< (((nI ((8 * (tVl T L p1)) + x1))).toInt64 &&& 63))))))) (o := [shp 114 = (0, 10), shp 114 = (0, 10)]) rfl ⟨rfl, rfl⟩ ?_
            rw [show (M37.2.1 114 21) = ic from hi45]
            generalize hM135 : (mJ M37 114 (vp_updL (M37.2.1 114) 21 (ic ||| ((1 : Int64) <<< (((nI ((8 * (tVl T L p1)) + x1))).toInt64 &&& 63))))) = M134
            have ht136 := TkM_uJ hM135 (by decide) ht32
            have hk137 := fI_oJ hM135 hg39
            have hk138 := row_oJ hM135 hk44
            have hi139 := jc_eq hM135
            have h6140 := n6_fr (fr_1J hM135) (by decide) h646
            have hn141 := nf_fr (fr_1J hM135) (by decide) hn47
            have hv142 := rv_fr (fr_1J hM135) (by decide) hv48
            have hF143 := fr_sJ hF49 hM135 (by decide)
            show Wn _ 70 _ (116, [(2, .int (nI ((8 * (tVl T L p1)) + x1))), (1, .int (nI x1)), (0, .ref 114)], [], M134)
            refine Wn.run (tab := tb_m_readIce) rfl 1 (c' := (117, [(2, .int (nI ((8 * (tVl T L p1)) + x1))), (1, .int (nI x1)), (0, .ref 114)], [.ref 114], M134)) (o := []) rfl trivial ?_
            refine Wn.callV (p := 114) (n := 1) (ix := 191) (ci := (10)) (PNx M134 g38 T L mo (tNx T L p1)) [] [] rfl rfl rfl rfl (Nat.le_of_ble_eq_true rfl) (Nat.le_of_ble_eq_true rfl) (c_m_nx _ M134 g38 T L mo p1 hk137 ht136 (by omega) (by omega)) ?_
            rintro _ M144 ⟨rfl, ht145, hx146, hj147, hF148⟩
            show Wn _ 70 _ (120, [(2, .int (nI ((8 * (tVl T L p1)) + x1))), (1, .int (nI x1)), (0, .ref 114)], [], M144)
            obtain ⟨g149, hg150⟩ : ∃ g9, M144.1 114 = g9 := ⟨_, rfl⟩
            have hx151 := hx146
            rw [hg150] at hx151
            have hf152 : g149 20 = (nI o) := (hx151 20 (by decide)).trans (show g38 20 = (nI o) from hf41)
            have hf153 : g149 18 = (nI x1) := (hx151 18 (by decide)).trans (show g38 18 = (nI x1) from hf43)
            have hf154 : g149 15 = (g 15) := (hx151 15 (by decide)).trans (show g38 15 = (g 15) from hf42)
            have hk155 := fr_row hF148 (by decide) hk138
            have hi156 := (hj147 21 (by decide)).trans hi139
            have h6157 := n6_fr hF148 (by decide) h6140
            have hn158 := nf_fr hF148 (by decide) hn141
            have hv159 := rv_fr hF148 (by decide) hv142
            have hF160 := fr_tr hF143 hF148 (by decide)
            refine Wn.run (tab := tb_m_readIce) rfl 6 (c' := (128, [(2, .int (nI ((8 * (tVl T L p1)) + x1))), (1, .int (nI x1)), (0, .ref 114)], [.int (nI 9), .int (nI 0), .int ((nI 8) + (nI ((8 * (tVl T L p1)) + x1))), .ref 114], M144)) (o := []) rfl trivial ?_
            rw [show ((nI 8) + (nI ((8 * (tVl T L p1)) + x1))) = (nI (8 + ((8 * (tVl T L p1)) + x1))) from (n_add rfl rfl)]
            cases hc3 : tkN T L mo (tNx T L p1) 0 9 with
            | inl f3 =>
              refine Wn.callV (p := 114) (n := 4) (ix := 235) (ci := (10)) (PFm M144 g149 f3.1 f3.2 (some (.int (nI 0)))) [.int (nI (8 + ((8 * (tVl T L p1)) + x1))), .int (nI 0), .int (nI 9)] [] rfl rfl rfl rfl (Nat.le_of_ble_eq_true rfl) (Nat.le_of_ble_eq_true rfl) (c_m_putsE _ M144 g149 T L mo (tNx T L p1) hg150 ht145 δ hk155 (8 + ((8 * (tVl T L p1)) + x1)) 0 9 (by omega) (by omega) (by omega) f3 hc3) ?_
              rintro _ M165 ⟨rfl, h15161, h16162, hx163, hF164⟩
              show Wn _ 70 _ (131, [(2, .int (nI ((8 * (tVl T L p1)) + x1))), (1, .int (nI x1)), (0, .ref 114)], [.int (nI 0)], M165)
              obtain ⟨g166, hg167⟩ : ∃ g9, M165.1 114 = g9 := ⟨_, rfl⟩
              have hx168 := hx163
              rw [hg167] at hx168
              have hf169 : g166 15 = nI f3.1 := by rw [← hg167]; exact h15161
              have hf170 : g166 16 = nI f3.2 := by rw [← hg167]; exact h16162
              have hk171 := fr_row hF164 (by decide) hk155
              have h6172 := n6_fr hF164 (by decide) h6157
              have hn173 := nf_fr hF164 (by decide) hn158
              have hF174 := fr_tr hF160 hF164 (by decide)
              have e9 : rdIc T L mo p δ ν o ic = .inl f3 := by unfold rdIc; rw [if_neg (by omega)]; simp only [hc1, hcY]; rw [if_neg h5]; simp only [hc3]
              rw [e9]
              exact Wn.zret rfl (Or.inl rfl) ⟨by rw [hg167]; exact (Gx_tr (Gx_tr (Gx_tr (Gx_tr (Gx_rf _ _) (Gx_mono hx8 (by decide))) (Gx_mono hx40 (by decide))) (Gx_mono hx151 (by decide))) (Gx_mono hx168 (by decide))), hF174, h6172, rfl, by rw [hg167]; exact hf169, by rw [hg167]; exact hf170⟩
            | inr v3 =>
              obtain ⟨x3, p3⟩ := v3
              refine Wn.callV (p := 114) (n := 4) (ix := 235) (ci := (10)) (PPt M144 g149 T L mo p3 (su δ (8 + ((8 * (tVl T L p1)) + x1)) x3)) [.int (nI (8 + ((8 * (tVl T L p1)) + x1))), .int (nI 0), .int (nI 9)] [] rfl rfl rfl rfl (Nat.le_of_ble_eq_true rfl) (Nat.le_of_ble_eq_true rfl) (c_m_putsV _ M144 g149 T L mo (tNx T L p1) hg150 ht145 δ hk155 (8 + ((8 * (tVl T L p1)) + x1)) 0 9 (by omega) (by omega) (by omega) x3 p3 hc3) ?_
              rintro _ M180 ⟨rfl, ht175, hr176, hx177, hj178, hF179⟩
              show Wn _ 70 _ (131, [(2, .int (nI ((8 * (tVl T L p1)) + x1))), (1, .int (nI x1)), (0, .ref 114)], [.int (nI 1)], M180)
              obtain ⟨g181, hg182⟩ : ∃ g9, M180.1 114 = g9 := ⟨_, rfl⟩
              have hx183 := hx177
              rw [hg182] at hx183
              have hf184 : g181 20 = (nI o) := (hx183 20 (by decide)).trans (show g149 20 = (nI o) from hf152)
              have hf185 : g181 15 = (g 15) := (hx183 15 (by decide)).trans (show g149 15 = (g 15) from hf154)
              have hi186 := (hj178 21 (by decide)).trans hi156
              have h6187 := n6_fr hF179 (by decide) h6157
              have hn188 := nf_fr hF179 (by decide) hn158
              have hv189 := rv_fr hF179 (by decide) hv159
              have hF190 := fr_tr hF160 hF179 (by decide)
              have bd3 : 0 ≤ x3 ∧ x3 ≤ 9 := by obtain ⟨q1, q2, q3⟩ := tkN_inr hc3; cases q3; exact q2
              have kl3 := tKd_le T L mo p3
              have e9 : rdIc T L mo p δ ν o ic = .inr (p3, su δ (8 + (8 * tVl T L p1 + x1)) x3, ν, o, icu ic (8 * tVl T L p1 + x1)) := by unfold rdIc; rw [if_neg (by omega)]; simp only [hc1, hcY]; rw [if_neg h5]; simp only [hc3]
              rw [e9]
              exact Wn.zret rfl (Or.inr rfl) ⟨by rw [hg182]; exact (Gx_tr (Gx_tr (Gx_tr (Gx_tr (Gx_rf _ _) (Gx_mono hx8 (by decide))) (Gx_mono hx40 (by decide))) (Gx_mono hx151 (by decide))) (Gx_mono hx183 (by decide))), hF190, h6187, rfl, ht175, hr176, fun q hq => hn188 q (by have hq2 : q < su δ (8 + (8 * tVl T L p1 + x1)) x3 2 := hq; rw [su_ne (by omega)] at hq2; exact hq2), by rw [hg182]; exact hf184, hi186, by rw [hg182]; exact hf185⟩
          · show Wn _ 70 _ (98, [(2, .int (((nI 8) * (M37.1 114 14)) + (nI x1))), (1, .int (nI x1)), (0, .ref 114)], [], M37)
            rw [show (M37.1 114 14) = (nI (tVl T L p1)) from (ht32.2.2.2.2.2.1 (by omega))] at h5
            rw [show (M37.2.1 114 21) = ic from hi45] at h5
            rw [pk_mul, nI_add] at h5
            have h5 : ((ic >>> ((nI (8 * (tVl T L p1) + x1)).toInt64 &&& 63)) &&& 1 = 1) := (lg_cmp_eq _ _).mp (Classical.not_not.mp h5)
            rw [show (M37.1 114 14) = (nI (tVl T L p1)) from (ht32.2.2.2.2.2.1 (by omega))]
            rw [show (((nI 8) * (nI (tVl T L p1))) + (nI x1)) = (nI ((8 * (tVl T L p1)) + x1)) from (n_add (n_mul rfl rfl) rfl)]
            refine Wn.run (tab := tb_m_readIce) rfl 2 (c' := (100, [(2, .int (nI ((8 * (tVl T L p1)) + x1))), (1, .int (nI x1)), (0, .ref 114)], [.int (nI 3), .ref 114], M37)) (o := []) rfl trivial ?_
            refine Wn.callV (p := 114) (n := 2) (ix := 188) (ci := (10)) (PBd M37 g38 (nI 3) (nI (tAt T L mo p1))) [.int (nI 3)] [] rfl rfl rfl rfl (Nat.le_of_ble_eq_true rfl) (Nat.le_of_ble_eq_true rfl) (c_m_bad _ M37 g38 T L mo p1 hg39 ht32 (nI 3)) ?_
            rintro _ M191 ⟨rfl, hg192, hs193, hF194⟩
            show Wn _ 70 _ (103, [(2, .int (nI ((8 * (tVl T L p1)) + x1))), (1, .int (nI x1)), (0, .ref 114)], [.int (nI 0)], M191)
            have hk195 := fr_row hF194 (by decide) hk44
            have h6196 := n6_fr hF194 (by decide) h646
            have hn197 := nf_fr hF194 (by decide) hn47
            have hv198 := rv_fr hF194 (by decide) hv48
            have hF199 := fr_tr hF49 hF194 (by decide)
            have e9 : rdIc T L mo p δ ν o ic = .inl (3, tAt T L mo p1) := by unfold rdIc; rw [if_neg (by omega)]; simp only [hc1, hcY]; rw [if_pos h5]
            rw [e9]
            exact Wn.zret rfl (Or.inl rfl) ⟨by rw [hg192]; exact (Gx_up (Gx_up (Gx_tr (Gx_tr (Gx_rf _ _) (Gx_mono hx8 (by decide))) (Gx_mono hx40 (by decide))) (by decide)) (by decide)), hF199, h6196, rfl, by rw [hg192]; exact ((pk_un (by decide)).trans pk_us), by rw [hg192]; exact pk_us⟩
        · show Wn _ 70 _ (69, [(1, .int (nI x1)), (0, .ref 114)], [], M37)
          have h4 := mt (n_lt (ht32.2.2.2.2.2.1 (by omega)) (rd0 hk44 (by omega)) (by omega) (by omega)).mpr h4
          refine Wn.run (tab := tb_m_readIce) rfl 2 (c' := (71, [(1, .int (nI x1)), (0, .ref 114)], [.int (nI 2), .ref 114], M37)) (o := []) rfl trivial ?_
          refine Wn.callV (p := 114) (n := 2) (ix := 188) (ci := (10)) (PBd M37 g38 (nI 2) (nI (tAt T L mo p1))) [.int (nI 2)] [] rfl rfl rfl rfl (Nat.le_of_ble_eq_true rfl) (Nat.le_of_ble_eq_true rfl) (c_m_bad _ M37 g38 T L mo p1 hg39 ht32 (nI 2)) ?_
          rintro _ M200 ⟨rfl, hg201, hs202, hF203⟩
          show Wn _ 70 _ (74, [(1, .int (nI x1)), (0, .ref 114)], [.int (nI 0)], M200)
          have hk204 := fr_row hF203 (by decide) hk44
          have h6205 := n6_fr hF203 (by decide) h646
          have hn206 := nf_fr hF203 (by decide) hn47
          have hv207 := rv_fr hF203 (by decide) hv48
          have hF208 := fr_tr hF49 hF203 (by decide)
          exact absurd h4 (by omega)
  · show Wn _ 70 _ (9, [(0, .ref 114)], [], M)
    have h1 := mt (n_le (rd0 hh (by omega)) nI_0.symm (by omega) (by omega)).mpr h1
    refine Wn.run (tab := tb_m_readIce) rfl 2 (c' := (11, [(0, .ref 114)], [.int (nI 3), .ref 114], M)) (o := []) rfl trivial ?_
    refine Wn.callV (p := 114) (n := 2) (ix := 188) (ci := (10)) (PBd M g (nI 3) (nI (tAt T L mo p))) [.int (nI 3)] [] rfl rfl rfl rfl (Nat.le_of_ble_eq_true rfl) (Nat.le_of_ble_eq_true rfl) (c_m_bad _ M g T L mo p hg hK (nI 3)) ?_
    rintro _ M209 ⟨rfl, hg210, hs211, hF212⟩
    show Wn _ 70 _ (14, [(0, .ref 114)], [.int (nI 0)], M209)
    have hk213 := fr_row hF212 (by decide) hh
    have h6214 := n6_fr hF212 (by decide) h6
    have hn215 := nf_fr hF212 (by decide) hN
    have hv216 := rv_fr hF212 (by decide) hv
    have hF217 := fr_tr hF hF212 (by decide)
    have e9 : rdIc T L mo p δ ν o ic = .inl (3, tAt T L mo p) := by unfold rdIc; rw [if_pos (by omega)]
    rw [e9]
    exact Wn.zret rfl (Or.inl rfl) ⟨by rw [hg210]; exact (Gx_up (Gx_up (Gx_rf _ _) (by decide)) (by decide)), hF217, h6214, rfl, by rw [hg210]; exact ((pk_un (by decide)).trans pk_us), by rw [hg210]; exact pk_us⟩
