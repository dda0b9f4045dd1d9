/-- the loads told on a cell -/
def dlN (δ : Nat → Nat) (c : Nat) : Nat → Nat
  | 0 => 0
  | i + 1 => dlN δ c i + (if δ (72 + i) = c then δ (78 + i) else 0)
theorem dlN_le {δ : Nat → Nat} (h : ∀ q, q < δ 2 → δ (72 + q) < 64 ∧ 1 ≤ δ (78 + q) ∧ δ (78 + q) ≤ 5 ∧ δ (84 + q) ≤ 8) (c : Nat) : ∀ n, n ≤ δ 2 → dlN δ c n ≤ 5 * n
  | 0, _ => Nat.le_refl 0
  | n + 1, hn => by
    have ih := dlN_le h c n (by omega)
    have h1 := h n (by omega)
    unfold dlN
    split <;> omega
def rdPe (T : Nat → Nat) (L mo p : Nat) (δ : Nat → Nat) (ν : Nat → Int64) (o : Nat) (ic : Int64) : Flt ⊕ Dst :=
  if δ 2 = 6 then .inl (4, tAt T L mo p) else
  if ¬ tKd T L mo (tNx T L p) = 3 then .inl (1, tAt T L mo (tNx T L p)) else
  match pcl ν (tNm T L (tNx T L p)) (δ 2) with
  | some _ => .inl (3, tAt T L mo (tNx T L p))
  | none => match tkN T L mo (tNx T L (tNx T L p)) 0 (δ 0 - 1) with
    | .inl f => .inl f
    | .inr (x, p1) => match tkN T L mo p1 0 (δ 1 - 1) with
      | .inl f => .inl f
      | .inr (y, p2) => match tkN T L mo p2 1 5 with
        | .inl f => .inl f
        | .inr (ld, p3) => if δ (8 + (8 * y + x)) < ld + dlN δ (8 * y + x) (δ 2) then .inl (3, tAt T L mo p2) else
          match tkN T L mo p3 0 8 with
          | .inl f => .inl f
          | .inr (t, p4) => .inr (p4, su (su (su (su δ (72 + δ 2) (8 * y + x)) (78 + δ 2) ld) (84 + δ 2) t) 2 (δ 2 + 1), vp_updL ν (δ 2) (tNm T L (tNx T L p)), o, ic)
theorem nf_up {M M' : Mm} {ν : Nat → Int64} {n ix : Nat} {v : Int64} (hM : mJ M 119 (vp_updL (M.2.1 119) ix v) = M') (hi : ix = 6 + n) (h : ∀ q, q < n → M.2.1 119 (6 + q) = ν q) : ∀ q, q < n + 1 → M'.2.1 119 (6 + q) = vp_updL ν n v q := fun q hq => by
  rw [mJ_eq hM, hi]
  by_cases e : q = n
  · subst e; rw [pk_uLs, pk_uLs]
  · rw [pk_uLn (show 6 + q ≠ 6 + n by omega), pk_uLn (show q ≠ n by omega)]; exact h q (by omega)
set_option maxRecDepth 20000 in
theorem c_m_readPerson (d : Nat) (M : Mm) (g : Nat → Int32) (T : Nat → Nat) (L mo p : Nat) (hg : M.1 114 = g) (hK : TkM M T L mo p) (δ : Nat → Nat) (hh : ∀ k, k < 90 → M.1 117 k = nI (δ k)) (hδ : DB δ) (ν : Nat → Int64) (hN : ∀ q, q < δ 2 → M.2.1 119 (6 + q) = ν q) (o : Nat) (ho : g 20 = nI o) (ho5 : o < 32) (ic : Int64) (hic : M.2.1 114 21 = ic) (hv : Rsv M) (hk : tKd T L mo p = 12) : Wn (d + 4) 71 (PRm M g T L mo (rdPe T L mo p δ ν o ic)) (0, lv_args 0 [.ref 114], [], M) := by
  have hF := fr_rf [114, 117, 119] M
  have h6 : ∀ q, q < 6 → M.2.1 119 q = M.2.1 119 q := fun _ _ => rfl
  have kl := tKd_le T L mo p
  obtain ⟨b0, b1, b2_9, bq, bc⟩ := hδ
  refine Wn.run (tab := tb_m_readPerson) rfl 8 (c' := (if ¬ (M.1 117 2) = (nI 6) then 19 else 13, [(1, .int (M.1 117 2)), (0, .ref 114)], [], M)) (o := [shp 114 = (0, 10), aok shp 117 0 (nI 2)]) rfl ⟨rfl, ⟨rfl, vp_in_nI (by decide) (by decide)⟩⟩ ?_
  refine Wn.br (fun h1 => ?_) (fun h1 => ?_)
  · show Wn _ 71 _ (19, [(1, .int (M.1 117 2)), (0, .ref 114)], [], M)
    have h1 := mt (n_eq (rd0 hh (by omega)) rfl (by omega) (by omega)).mpr h1
    rw [show (M.1 117 2) = (nI (δ 2)) from (rd0 hh (by omega))]
    refine Wn.run (tab := tb_m_readPerson) rfl 1 (c' := (20, [(1, .int (nI (δ 2))), (0, .ref 114)], [.ref 114], M)) (o := []) rfl trivial ?_
    refine Wn.callV (p := 114) (n := 1) (ix := 191) (ci := (10)) (PNx M g T L mo (tNx T L p)) [] [] rfl rfl rfl rfl (Nat.le_of_ble_eq_true rfl) (Nat.le_of_ble_eq_true rfl) (c_m_nx _ M g T L mo p hg hK (by omega) (by omega)) ?_
    rintro _ M1 ⟨rfl, ht2, hx3, hj4, hF5⟩
    show Wn _ 71 _ (23, [(1, .int (nI (δ 2))), (0, .ref 114)], [], M1)
    obtain ⟨g6, hg7⟩ : ∃ g9, M1.1 114 = g9 := ⟨_, rfl⟩
    have hx8 := hx3
    rw [hg7] at hx8
    have hf9 : g6 20 = (nI o) := (hx8 20 (by decide)).trans (show g 20 = (nI o) from ho)
    have hf10 : g6 18 = (g 18) := (hx8 18 (by decide)).trans (show g 18 = (g 18) from rfl)
    have hf11 : g6 15 = (g 15) := (hx8 15 (by decide)).trans (show g 15 = (g 15) from rfl)
    have hk12 := fr_row hF5 (by decide) hh
    have hi13 := (hj4 21 (by decide)).trans hic
    have h614 := n6_fr hF5 (by decide) h6
    have hn15 := nf_fr hF5 (by decide) hN
    have hv16 := rv_fr hF5 (by decide) hv
    have hF17 := fr_tr hF hF5 (by decide)
    refine Wn.run (tab := tb_m_readPerson) rfl 1 (c' := (24, [(1, .int (nI (δ 2))), (0, .ref 114)], [.ref 114], M1)) (o := []) rfl trivial ?_
    by_cases hk3 : tKd T L mo (tNx T L p) = 3
    · refine Wn.callV (p := 114) (n := 1) (ix := 205) (ci := (10)) (fun r0 M0 => r0 = some (.int (b2 (tKd T L mo (tNx T L p) = 3))) ∧ M1 = M0) [] [] rfl rfl rfl rfl (Nat.le_of_ble_eq_true rfl) (Nat.le_of_ble_eq_true rfl) (w_m_isName _ M1 T L mo (tNx T L p) ht2 hv16 _ ⟨rfl, rfl⟩) ?_
      rintro _ _ ⟨rfl, rfl⟩
      show Wn _ 71 _ (27, [(1, .int (nI (δ 2))), (0, .ref 114)], [.int (b2 (tKd T L mo (tNx T L p) = 3))], M1)
      refine Wn.run (tab := tb_m_readPerson) rfl 1 (c' := (if ¬ (b2 (tKd T L mo (tNx T L p) = 3)) = 0 then 36 else 30, [(1, .int (nI (δ 2))), (0, .ref 114)], [], M1)) (o := []) rfl trivial ?_
      rw [if_pos (b2_n0.mpr (by omega))]
      show Wn _ 71 _ (36, [(1, .int (nI (δ 2))), (0, .ref 114)], [], M1)
      refine Wn.run (tab := tb_m_readPerson) rfl 3 (c' := (40, [(1, .int (nI (δ 2))), (0, .ref 114)], [.int (nI (δ 2)), .int (nI 6), .ref 114], M1)) (o := []) rfl trivial ?_
      refine Wn.callV (p := 114) (n := 3) (ix := 209) (ci := (10)) (fun r0 M0 => r0 = some (.int (oI (pcl ν (tNm T L (tNx T L p)) (δ 2)))) ∧ M1 = M0) [.int (nI 6), .int (nI (δ 2))] [] rfl rfl rfl rfl (Nat.le_of_ble_eq_true rfl) (Nat.le_of_ble_eq_true rfl) (w_m_seek _ M1 T L mo (tNx T L p) ht2 (by omega) 6 (δ 2) (by omega) ν hn15 _ ⟨rfl, rfl⟩) ?_
      rintro _ _ ⟨rfl, rfl⟩
      show Wn _ 71 _ (43, [(1, .int (nI (δ 2))), (0, .ref 114)], [.int (oI (pcl ν (tNm T L (tNx T L p)) (δ 2)))], M1)
      cases hb1 : pcl ν (tNm T L (tNx T L p)) (δ 2) with
      | none =>
        show Wn _ 71 _ (43, [(1, .int (nI (δ 2))), (0, .ref 114)], [.int (-1 : Int32)], M1)
        refine Wn.run (tab := tb_m_readPerson) rfl 1 (c' := (if (-1 : Int32) < 0 then 52 else 46, [(1, .int (nI (δ 2))), (0, .ref 114)], [], M1)) (o := []) rfl trivial ?_
        rw [if_pos (show (-1 : Int32) < 0 by decide)]
        show Wn _ 71 _ (52, [(1, .int (nI (δ 2))), (0, .ref 114)], [], M1)
        refine Wn.run (tab := tb_m_readPerson) rfl 8 (c' := (65, [(1, .int (nI (δ 2))), (0, .ref 114)], [], (mJ M1 119 (vp_updL (M1.2.1 119) (((nI 6) + (nI (δ 2)))).toNatClampNeg (M1.2.1 114 17))))) (o := [shp 114 = (0, 10), shp 114 = (0, 10), aok shp 119 3 ((nI 6) + (nI (δ 2)))]) rfl ⟨rfl, rfl, (ak1 (n := 12) rfl rfl (n_add rfl rfl) (by omega))⟩ ?_
        rw [show (M1.2.1 114 17) = (tNm T L (tNx T L p)) from (ht2.2.2.2.2.2.2.2.1 (by omega))]
        generalize hM19 : (mJ M1 119 (vp_updL (M1.2.1 119) (((nI 6) + (nI (δ 2)))).toNatClampNeg (tNm T L (tNx T L p)))) = M18
        have ht20 := TkM_fr (fr_1J hM19) (by decide) ht2
        have hk21 := fI_oJ hM19 hg7
        have hk22 := row_oJ hM19 hk12
        have hi23 := ic_fr (fr_1J hM19) (by decide) hi13
        have h624 := n6_up hM19 (cl1 (n_add rfl rfl) (by omega)) (by omega) h614
        have hn25 := nf_up hM19 (cl1 (n_add rfl rfl) (by omega)) hn15
        have hv26 := rv_fr (fr_1J hM19) (by decide) hv16
        have hF27 := fr_sJ hF17 hM19 (by decide)
        show Wn _ 71 _ (65, [(1, .int (nI (δ 2))), (0, .ref 114)], [], M18)
        refine Wn.run (tab := tb_m_readPerson) rfl 1 (c' := (66, [(1, .int (nI (δ 2))), (0, .ref 114)], [.ref 114], M18)) (o := []) rfl trivial ?_
        refine Wn.callV (p := 114) (n := 1) (ix := 191) (ci := (10)) (PNx M18 g6 T L mo (tNx T L (tNx T L p))) [] [] rfl rfl rfl rfl (Nat.le_of_ble_eq_true rfl) (Nat.le_of_ble_eq_true rfl) (c_m_nx _ M18 g6 T L mo (tNx T L p) hk21 ht20 (by omega) (by omega)) ?_
        rintro _ M28 ⟨rfl, ht29, hx30, hj31, hF32⟩
        show Wn _ 71 _ (69, [(1, .int (nI (δ 2))), (0, .ref 114)], [], M28)
        obtain ⟨g33, hg34⟩ : ∃ g9, M28.1 114 = g9 := ⟨_, rfl⟩
        have hx35 := hx30
        rw [hg34] at hx35
        have hf36 : g33 20 = (nI o) := (hx35 20 (by decide)).trans (show g6 20 = (nI o) from hf9)
        have hf37 : g33 18 = (g 18) := (hx35 18 (by decide)).trans (show g6 18 = (g 18) from hf10)
        have hf38 : g33 15 = (g 15) := (hx35 15 (by decide)).trans (show g6 15 = (g 15) from hf11)
        have hk39 := fr_row hF32 (by decide) hk22
        have hi40 := (hj31 21 (by decide)).trans hi23
        have h641 := n6_fr hF32 (by decide) h624
        have hn42 := nf_fr hF32 (by decide) hn25
        have hv43 := rv_fr hF32 (by decide) hv26
        have hF44 := fr_tr hF27 hF32 (by decide)
        refine Wn.run (tab := tb_m_readPerson) rfl 8 (c' := (79, [(1, .int (nI (δ 2))), (0, .ref 114)], [.int ((M28.1 117 0) - (nI 1)), .int (nI 0), .ref 114], M28)) (o := [shp 114 = (0, 10), aok shp 117 0 (nI 0)]) rfl ⟨rfl, ⟨rfl, vp_in_nI (by decide) (by decide)⟩⟩ ?_
        rw [show (M28.1 117 0) = (nI (δ 0)) from (rd0 hk39 (by omega))]
        rw [show ((nI (δ 0)) - (nI 1)) = (nI ((δ 0) - 1)) from (n_sub rfl rfl (by omega))]
        cases hc1 : tkN T L mo (tNx T L (tNx T L p)) 0 ((δ 0) - 1) with
        | inl f1 =>
          refine Wn.callV (p := 114) (n := 3) (ix := 201) (ci := (10)) (PFm M28 g33 f1.1 f1.2 (some (.int (nI 0)))) [.int (nI 0), .int (nI ((δ 0) - 1))] [] rfl rfl rfl rfl (Nat.le_of_ble_eq_true rfl) (Nat.le_of_ble_eq_true rfl) (c_m_takesE _ M28 g33 T L mo (tNx T L (tNx T L p)) hg34 ht29 0 ((δ 0) - 1) (by omega) (by omega) f1 hc1) ?_
          rintro _ M49 ⟨rfl, h1545, h1646, hx47, hF48⟩
          show Wn _ 71 _ (82, [(1, .int (nI (δ 2))), (0, .ref 114)], [.int (nI 0)], M49)
          obtain ⟨g50, hg51⟩ : ∃ g9, M49.1 114 = g9 := ⟨_, rfl⟩
          have hx52 := hx47
          rw [hg51] at hx52
          have hf53 : g50 15 = nI f1.1 := by rw [← hg51]; exact h1545
          have hf54 : g50 16 = nI f1.2 := by rw [← hg51]; exact h1646
          have hk55 := fr_row hF48 (by decide) hk39
          have h656 := n6_fr hF48 (by decide) h641
          have hn57 := nf_fr hF48 (by decide) hn42
          have hF58 := fr_tr hF44 hF48 (by decide)
          refine Wn.run (tab := tb_m_readPerson) rfl 1 (c' := (if ¬ (nI 0) = 0 then 87 else 85, [(1, .int (nI (δ 2))), (0, .ref 114)], [], M49)) (o := []) rfl trivial ?_
          rw [if_neg (show ¬ (¬ (nI 0) = 0) by decide)]
          show Wn _ 71 _ (85, [(1, .int (nI (δ 2))), (0, .ref 114)], [], M49)
          refine Wn.run (tab := tb_m_readPerson) rfl 1 (c' := (86, [(1, .int (nI (δ 2))), (0, .ref 114)], [.int (nI 0)], M49)) (o := []) rfl trivial ?_
          have e9 : rdPe T L mo p δ ν o ic = .inl f1 := by unfold rdPe; rw [if_neg h1, if_neg (fun q9 => q9 hk3)]; simp only [hb1, hc1]
          rw [e9]
          exact Wn.zret rfl (Or.inl rfl) ⟨by rw [hg51]; exact (Gx_tr (Gx_tr (Gx_tr (Gx_rf _ _) (Gx_mono hx8 (by decide))) (Gx_mono hx35 (by decide))) (Gx_mono hx52 (by decide))), hF58, h656, rfl, by rw [hg51]; exact hf53, by rw [hg51]; exact hf54⟩
        | inr v1 =>
          obtain ⟨x1, p1⟩ := v1
          refine Wn.callV (p := 114) (n := 3) (ix := 201) (ci := (10)) (PTm M28 g33 T L mo p1 [4, 11, 12, 13, 14, 18] (nI x1) (some (.int (nI 1)))) [.int (nI 0), .int (nI ((δ 0) - 1))] [] rfl rfl rfl rfl (Nat.le_of_ble_eq_true rfl) (Nat.le_of_ble_eq_true rfl) (c_m_takesV _ M28 g33 T L mo (tNx T L (tNx T L p)) hg34 ht29 0 ((δ 0) - 1) (by omega) (by omega) (x1, p1) hc1) ?_
          rintro _ M64 ⟨rfl, ht59, h1860, hx61, hj62, hF63⟩
          show Wn _ 71 _ (82, [(1, .int (nI (δ 2))), (0, .ref 114)], [.int (nI 1)], M64)
          obtain ⟨g65, hg66⟩ : ∃ g9, M64.1 114 = g9 := ⟨_, rfl⟩
          have hx67 := hx61
          rw [hg66] at hx67
          have hf68 : g65 20 = (nI o) := (hx67 20 (by decide)).trans (show g33 20 = (nI o) from hf36)
          have hf69 : g65 15 = (g 15) := (hx67 15 (by decide)).trans (show g33 15 = (g 15) from hf38)
          have hf70 : g65 18 = nI x1 := by rw [← hg66]; exact h1860
          have hk71 := fr_row hF63 (by decide) hk39
          have hi72 := (hj62 21 (by decide)).trans hi40
          have h673 := n6_fr hF63 (by decide) h641
          have hn74 := nf_fr hF63 (by decide) hn42
          have hv75 := rv_fr hF63 (by decide) hv43
          have hF76 := fr_tr hF44 hF63 (by decide)
          have bd1 : 0 ≤ x1 ∧ x1 ≤ ((δ 0) - 1) := by obtain ⟨q1, q2, q3⟩ := tkN_inr hc1; cases q3; exact q2
          have kl1 := tKd_le T L mo p1
          refine Wn.run (tab := tb_m_readPerson) rfl 1 (c' := (if ¬ (nI 1) = 0 then 87 else 85, [(1, .int (nI (δ 2))), (0, .ref 114)], [], M64)) (o := []) rfl trivial ?_
          rw [if_pos (show ¬ (nI 1) = 0 by decide)]
          show Wn _ 71 _ (87, [(1, .int (nI (δ 2))), (0, .ref 114)], [], M64)
          refine Wn.run (tab := tb_m_readPerson) rfl 11 (c' := (102, [(2, .int (M64.1 114 18)), (1, .int (nI (δ 2))), (0, .ref 114)], [.int ((M64.1 117 1) - (nI 1)), .int (nI 0), .ref 114], M64)) (o := [shp 114 = (0, 10), shp 114 = (0, 10), aok shp 117 0 (nI 1)]) rfl ⟨rfl, rfl, ⟨rfl, vp_in_nI (by decide) (by decide)⟩⟩ ?_
          rw [show (M64.1 117 1) = (nI (δ 1)) from (rd0 hk71 (by omega))]
          rw [show (M64.1 114 18) = (nI x1) from (fr_eq hg66 (show g65 18 = (nI x1) from hf70))]
          rw [show ((nI (δ 1)) - (nI 1)) = (nI ((δ 1) - 1)) from (n_sub rfl rfl (by omega))]
          cases hc2 : tkN T L mo p1 0 ((δ 1) - 1) with
          | inl f2 =>
            refine Wn.callV (p := 114) (n := 3) (ix := 201) (ci := (10)) (PFm M64 g65 f2.1 f2.2 (some (.int (nI 0)))) [.int (nI 0), .int (nI ((δ 1) - 1))] [] rfl rfl rfl rfl (Nat.le_of_ble_eq_true rfl) (Nat.le_of_ble_eq_true rfl) (c_m_takesE _ M64 g65 T L mo p1 hg66 ht59 0 ((δ 1) - 1) (by omega) (by omega) f2 hc2) ?_
            rintro _ M81 ⟨rfl, h1577, h1678, hx79, hF80⟩
            show Wn _ 71 _ (105, [(2, .int (nI x1)), (1, .int (nI (δ 2))), (0, .ref 114)], [.int (nI 0)], M81)
            obtain ⟨g82, hg83⟩ : ∃ g9, M81.1 114 = g9 := ⟨_, rfl⟩
            have hx84 := hx79
            rw [hg83] at hx84
            have hf85 : g82 15 = nI f2.1 := by rw [← hg83]; exact h1577
            have hf86 : g82 16 = nI f2.2 := by rw [← hg83]; exact h1678
            have hk87 := fr_row hF80 (by decide) hk71
            have h688 := n6_fr hF80 (by decide) h673
            have hn89 := nf_fr hF80 (by decide) hn74
            have hF90 := fr_tr hF76 hF80 (by decide)
            refine Wn.run (tab := tb_m_readPerson) rfl 1 (c' := (if ¬ (nI 0) = 0 then 110 else 108, [(2, .int (nI x1)), (1, .int (nI (δ 2))), (0, .ref 114)], [], M81)) (o := []) rfl trivial ?_
            rw [if_neg (show ¬ (¬ (nI 0) = 0) by decide)]
            show Wn _ 71 _ (108, [(2, .int (nI x1)), (1, .int (nI (δ 2))), (0, .ref 114)], [], M81)
            refine Wn.run (tab := tb_m_readPerson) rfl 1 (c' := (109, [(2, .int (nI x1)), (1, .int (nI (δ 2))), (0, .ref 114)], [.int (nI 0)], M81)) (o := []) rfl trivial ?_
            have e9 : rdPe T L mo p δ ν o ic = .inl f2 := by unfold rdPe; rw [if_neg h1, if_neg (fun q9 => q9 hk3)]; simp only [hb1, hc1, hc2]
            rw [e9]
            exact Wn.zret rfl (Or.inl rfl) ⟨by rw [hg83]; exact (Gx_tr (Gx_tr (Gx_tr (Gx_tr (Gx_rf _ _) (Gx_mono hx8 (by decide))) (Gx_mono hx35 (by decide))) (Gx_mono hx67 (by decide))) (Gx_mono hx84 (by decide))), hF90, h688, rfl, by rw [hg83]; exact hf85, by rw [hg83]; exact hf86⟩
          | inr v2 =>
            obtain ⟨x2, p2⟩ := v2
            refine Wn.callV (p := 114) (n := 3) (ix := 201) (ci := (10)) (PTm M64 g65 T L mo p2 [4, 11, 12, 13, 14, 18] (nI x2) (some (.int (nI 1)))) [.int (nI 0), .int (nI ((δ 1) - 1))] [] rfl rfl rfl rfl (Nat.le_of_ble_eq_true rfl) (Nat.le_of_ble_eq_true rfl) (c_m_takesV _ M64 g65 T L mo p1 hg66 ht59 0 ((δ 1) - 1) (by omega) (by omega) (x2, p2) hc2) ?_
            rintro _ M96 ⟨rfl, ht91, h1892, hx93, hj94, hF95⟩
            show Wn _ 71 _ (105, [(2, .int (nI x1)), (1, .int (nI (δ 2))), (0, .ref 114)], [.int (nI 1)], M96)
            obtain ⟨g97, hg98⟩ : ∃ g9, M96.1 114 = g9 := ⟨_, rfl⟩
            have hx99 := hx93
            rw [hg98] at hx99
            have hf100 : g97 20 = (nI o) := (hx99 20 (by decide)).trans (show g65 20 = (nI o) from hf68)
            have hf101 : g97 15 = (g 15) := (hx99 15 (by decide)).trans (show g65 15 = (g 15) from hf69)
            have hf102 : g97 18 = nI x2 := by rw [← hg98]; exact h1892
            have hk103 := fr_row hF95 (by decide) hk71
            have hi104 := (hj94 21 (by decide)).trans hi72
            have h6105 := n6_fr hF95 (by decide) h673
            have hn106 := nf_fr hF95 (by decide) hn74
            have hv107 := rv_fr hF95 (by decide) hv75
            have hF108 := fr_tr hF76 hF95 (by decide)
            have bd2 : 0 ≤ x2 ∧ x2 ≤ ((δ 1) - 1) := by obtain ⟨q1, q2, q3⟩ := tkN_inr hc2; cases q3; exact q2
            have kl2 := tKd_le T L mo p2
            refine Wn.run (tab := tb_m_readPerson) rfl 1 (c' := (if ¬ (nI 1) = 0 then 110 else 108, [(2, .int (nI x1)), (1, .int (nI (δ 2))), (0, .ref 114)], [], M96)) (o := []) rfl trivial ?_
            rw [if_pos (show ¬ (nI 1) = 0 by decide)]
            show Wn _ 71 _ (110, [(2, .int (nI x1)), (1, .int (nI (δ 2))), (0, .ref 114)], [], M96)
            refine Wn.run (tab := tb_m_readPerson) rfl 7 (c' := (120, [(3, .int (((nI 8) * (M96.1 114 18)) + (nI x1))), (2, .int (nI x1)), (1, .int (nI (δ 2))), (0, .ref 114)], [], M96)) (o := [shp 114 = (0, 10)]) rfl rfl ?_
            rw [show (M96.1 114 18) = (nI x2) from (fr_eq hg98 (show g97 18 = (nI x2) from hf102))]
            rw [show (((nI 8) * (nI x2)) + (nI x1)) = (nI ((8 * x2) + x1)) from (n_add (n_mul rfl rfl) rfl)]
            cases hcZ : tkN T L mo p2 1 5 with
            | inl fZ =>
              rcases tkN_inl hcZ with ⟨hk1, rfl⟩ | ⟨hk1, hk2, rfl⟩
              · have tv9 : tKd T L mo p2 = 2 → tVl T L p2 < 1000 := fun h => tVl_lt (TkM_T hK) h
                refine Wn.run (tab := tb_m_readPerson) rfl 4 (c' := (if (M96.1 114 11) = (nI 2) then 134 else 128, [(3, .int (nI ((8 * x2) + x1))), (2, .int (nI x1)), (1, .int (nI (δ 2))), (0, .ref 114)], [], M96)) (o := [shp 114 = (0, 10)]) rfl rfl ?_
                rw [if_neg (by rw [ht91.2.2.2.1]; intro q9; have q8 := (nI_eq (by have := tCd_le (tKd T L mo p2); omega) (by omega)).mp q9; have q7 := (tCd_2 (tKd_le _ _ _ _)).mp q8; omega)]
                show Wn _ 71 _ (128, [(3, .int (nI ((8 * x2) + x1))), (2, .int (nI x1)), (1, .int (nI (δ 2))), (0, .ref 114)], [], M96)
                refine Wn.run (tab := tb_m_readPerson) rfl 2 (c' := (130, [(3, .int (nI ((8 * x2) + x1))), (2, .int (nI x1)), (1, .int (nI (δ 2))), (0, .ref 114)], [.int (nI 1), .ref 114], M96)) (o := []) rfl trivial ?_
                refine Wn.callV (p := 114) (n := 2) (ix := 188) (ci := (10)) (PBd M96 g97 (nI 1) (nI (tAt T L mo p2))) [.int (nI 1)] [] rfl rfl rfl rfl (Nat.le_of_ble_eq_true rfl) (Nat.le_of_ble_eq_true rfl) (c_m_bad _ M96 g97 T L mo p2 hg98 ht91 (nI 1)) ?_
                rintro _ M109 ⟨rfl, hg110, hs111, hF112⟩
                show Wn _ 71 _ (133, [(3, .int (nI ((8 * x2) + x1))), (2, .int (nI x1)), (1, .int (nI (δ 2))), (0, .ref 114)], [.int (nI 0)], M109)
                have hk113 := fr_row hF112 (by decide) hk103
                have h6114 := n6_fr hF112 (by decide) h6105
                have hn115 := nf_fr hF112 (by decide) hn106
                have hv116 := rv_fr hF112 (by decide) hv107
                have hF117 := fr_tr hF108 hF112 (by decide)
                have e9 : rdPe T L mo p δ ν o ic = .inl (1, tAt T L mo p2) := by unfold rdPe; rw [if_neg h1, if_neg (fun q9 => q9 hk3)]; simp only [hb1, hc1, hc2, hcZ]
                rw [e9]
                exact Wn.zret rfl (Or.inl rfl) ⟨by rw [hg110]; exact (Gx_up (Gx_up (Gx_tr (Gx_tr (Gx_tr (Gx_tr (Gx_rf _ _) (Gx_mono hx8 (by decide))) (Gx_mono hx35 (by decide))) (Gx_mono hx67 (by decide))) (Gx_mono hx99 (by decide))) (by decide)) (by decide)), hF117, h6114, rfl, by rw [hg110]; exact ((pk_un (by decide)).trans pk_us), by rw [hg110]; exact pk_us⟩
              · have tv9 : tKd T L mo p2 = 2 → tVl T L p2 < 1000 := fun h => tVl_lt (TkM_T hK) h
                refine Wn.run (tab := tb_m_readPerson) rfl 4 (c' := (if (M96.1 114 11) = (nI 2) then 134 else 128, [(3, .int (nI ((8 * x2) + x1))), (2, .int (nI x1)), (1, .int (nI (δ 2))), (0, .ref 114)], [], M96)) (o := [shp 114 = (0, 10)]) rfl rfl ?_
                rw [if_pos (by rw [ht91.2.2.2.1]; exact congrArg nI ((tCd_2 (tKd_le _ _ _ _)).mpr (by omega)))]
                show Wn _ 71 _ (134, [(3, .int (nI ((8 * x2) + x1))), (2, .int (nI x1)), (1, .int (nI (δ 2))), (0, .ref 114)], [], M96)
                refine Wn.run (tab := tb_m_readPerson) rfl 4 (c' := (140, [(3, .int (nI ((8 * x2) + x1))), (2, .int (nI x1)), (1, .int (nI (δ 2))), (0, .ref 114)], [.int (nI 5), .int (nI 1), .int (M96.1 114 14)], M96)) (o := [shp 114 = (0, 10)]) rfl rfl ?_
                rw [show (M96.1 114 14) = (nI (tVl T L p2)) from (ht91.2.2.2.2.2.1 (by omega))]
                refine Wn.callS (n := 3) (ix := 194) (fun r0 M0 => r0 = some (.int (b2 (1 ≤ (tVl T L p2) ∧ (tVl T L p2) ≤ 5))) ∧ M96 = M0) [.int (nI (tVl T L p2)), .int (nI 1), .int (nI 5)] [] rfl rfl rfl (Nat.le_of_ble_eq_true rfl) (Nat.le_of_ble_eq_true rfl) (w_m_isInN _ (tVl T L p2) 1 5 (by omega) (by omega) (by omega) M96 _ ⟨rfl, rfl⟩) ?_
                rintro _ _ ⟨rfl, rfl⟩
                show Wn _ 71 _ (143, [(3, .int (nI ((8 * x2) + x1))), (2, .int (nI x1)), (1, .int (nI (δ 2))), (0, .ref 114)], [.int (b2 (1 ≤ (tVl T L p2) ∧ (tVl T L p2) ≤ 5))], M96)
                refine Wn.run (tab := tb_m_readPerson) rfl 1 (c' := (if ¬ (b2 (1 ≤ (tVl T L p2) ∧ (tVl T L p2) ≤ 5)) = 0 then 152 else 146, [(3, .int (nI ((8 * x2) + x1))), (2, .int (nI x1)), (1, .int (nI (δ 2))), (0, .ref 114)], [], M96)) (o := []) rfl trivial ?_
                rw [if_neg (fun h9 => h9 (b2_e0.mpr (by omega)))]
                show Wn _ 71 _ (146, [(3, .int (nI ((8 * x2) + x1))), (2, .int (nI x1)), (1, .int (nI (δ 2))), (0, .ref 114)], [], M96)
                refine Wn.run (tab := tb_m_readPerson) rfl 2 (c' := (148, [(3, .int (nI ((8 * x2) + x1))), (2, .int (nI x1)), (1, .int (nI (δ 2))), (0, .ref 114)], [.int (nI 2), .ref 114], M96)) (o := []) rfl trivial ?_
                refine Wn.callV (p := 114) (n := 2) (ix := 188) (ci := (10)) (PBd M96 g97 (nI 2) (nI (tAt T L mo p2))) [.int (nI 2)] [] rfl rfl rfl rfl (Nat.le_of_ble_eq_true rfl) (Nat.le_of_ble_eq_true rfl) (c_m_bad _ M96 g97 T L mo p2 hg98 ht91 (nI 2)) ?_
                rintro _ M118 ⟨rfl, hg119, hs120, hF121⟩
                show Wn _ 71 _ (151, [(3, .int (nI ((8 * x2) + x1))), (2, .int (nI x1)), (1, .int (nI (δ 2))), (0, .ref 114)], [.int (nI 0)], M118)
                have hk122 := fr_row hF121 (by decide) hk103
                have h6123 := n6_fr hF121 (by decide) h6105
                have hn124 := nf_fr hF121 (by decide) hn106
                have hv125 := rv_fr hF121 (by decide) hv107
                have hF126 := fr_tr hF108 hF121 (by decide)
                have e9 : rdPe T L mo p δ ν o ic = .inl (2, tAt T L mo p2) := by unfold rdPe; rw [if_neg h1, if_neg (fun q9 => q9 hk3)]; simp only [hb1, hc1, hc2, hcZ]
                rw [e9]
                exact Wn.zret rfl (Or.inl rfl) ⟨by rw [hg119]; exact (Gx_up (Gx_up (Gx_tr (Gx_tr (Gx_tr (Gx_tr (Gx_rf _ _) (Gx_mono hx8 (by decide))) (Gx_mono hx35 (by decide))) (Gx_mono hx67 (by decide))) (Gx_mono hx99 (by decide))) (by decide)) (by decide)), hF126, h6123, rfl, by rw [hg119]; exact ((pk_un (by decide)).trans pk_us), by rw [hg119]; exact pk_us⟩
            | inr vZ =>
              obtain ⟨hk1, hk2, rfl⟩ := tkN_inr hcZ
              refine Wn.run (tab := tb_m_readPerson) rfl 4 (c' := (if (M96.1 114 11) = (nI 2) then 134 else 128, [(3, .int (nI ((8 * x2) + x1))), (2, .int (nI x1)), (1, .int (nI (δ 2))), (0, .ref 114)], [], M96)) (o := [shp 114 = (0, 10)]) rfl rfl ?_
              rw [if_pos (by rw [ht91.2.2.2.1]; exact congrArg nI ((tCd_2 (tKd_le _ _ _ _)).mpr (by omega)))]
              show Wn _ 71 _ (134, [(3, .int (nI ((8 * x2) + x1))), (2, .int (nI x1)), (1, .int (nI (δ 2))), (0, .ref 114)], [], M96)
              refine Wn.run (tab := tb_m_readPerson) rfl 4 (c' := (140, [(3, .int (nI ((8 * x2) + x1))), (2, .int (nI x1)), (1, .int (nI (δ 2))), (0, .ref 114)], [.int (nI 5), .int (nI 1), .int (M96.1 114 14)], M96)) (o := [shp 114 = (0, 10)]) rfl rfl ?_
              rw [show (M96.1 114 14) = (nI (tVl T L p2)) from (ht91.2.2.2.2.2.1 (by omega))]
              refine Wn.callS (n := 3) (ix := 194) (fun r0 M0 => r0 = some (.int (b2 (1 ≤ (tVl T L p2) ∧ (tVl T L p2) ≤ 5))) ∧ M96 = M0) [.int (nI (tVl T L p2)), .int (nI 1), .int (nI 5)] [] rfl rfl rfl (Nat.le_of_ble_eq_true rfl) (Nat.le_of_ble_eq_true rfl) (w_m_isInN _ (tVl T L p2) 1 5 (by omega) (by omega) (by omega) M96 _ ⟨rfl, rfl⟩) ?_
              rintro _ _ ⟨rfl, rfl⟩
              show Wn _ 71 _ (143, [(3, .int (nI ((8 * x2) + x1))), (2, .int (nI x1)), (1, .int (nI (δ 2))), (0, .ref 114)], [.int (b2 (1 ≤ (tVl T L p2) ∧ (tVl T L p2) ≤ 5))], M96)
              refine Wn.run (tab := tb_m_readPerson) rfl 1 (c' := (if ¬ (b2 (1 ≤ (tVl T L p2) ∧ (tVl T L p2) ≤ 5)) = 0 then 152 else 146, [(3, .int (nI ((8 * x2) + x1))), (2, .int (nI x1)), (1, .int (nI (δ 2))), (0, .ref 114)], [], M96)) (o := []) rfl trivial ?_
              rw [if_pos (b2_n0.mpr (by omega))]
              show Wn _ 71 _ (152, [(3, .int (nI ((8 * x2) + x1))), (2, .int (nI x1)), (1, .int (nI (δ 2))), (0, .ref 114)], [], M96)
              refine Wn.run (tab := tb_m_readPerson) rfl 5 (c' := (161, [(5, .int (nI 0)), (4, .int (M96.1 114 14)), (3, .int (nI ((8 * x2) + x1))), (2, .int (nI x1)), (1, .int (nI (δ 2))), (0, .ref 114)], [], M96)) (o := [shp 114 = (0, 10)]) rfl rfl ?_
              rw [show (M96.1 114 14) = (nI (tVl T L p2)) from (ht91.2.2.2.2.2.1 (by omega))]
              have cb : (8 * x2 + x1) < 64 := by omega
              have bc9 := bc (8 * x2 + x1) cb
              rw [show (nI (tVl T L p2)) = (nI (tVl T L p2 + dlN δ (8 * x2 + x1) 0)) from rfl]
              show Wn _ 71 _ (161, [(5, .int (nI 0)), (4, .int (nI (tVl T L p2 + dlN δ (8 * x2 + x1) 0))), (3, .int (nI ((8 * x2) + x1))), (2, .int (nI x1)), (1, .int (nI (δ 2))), (0, .ref 114)], [], M96)
              have loop : ∀ (m i : Nat), δ 2 - i = m → i ≤ δ 2 → Wn (d + 4) 71 (PRm M g T L mo (rdPe T L mo p δ ν o ic)) (161, [(5, .int (nI i)), (4, .int (nI (tVl T L p2 + dlN δ (8 * x2 + x1) i))), (3, .int (nI ((8 * x2) + x1))), (2, .int (nI x1)), (1, .int (nI (δ 2))), (0, .ref 114)], [], M96) := by
                intro m
                induction m using Nat.strongRecOn with
                | _ m ih =>
                  intro i hm hq
                  have dl8 := dlN_le bq (8 * x2 + x1) i (by omega)
                  have bq9 : i < δ 2 → δ (72 + i) < 64 ∧ δ (78 + i) ≤ 5 := fun h => ⟨(bq i h).1, (bq i h).2.2.1⟩
                  refine Wn.run (tab := tb_m_readPerson) rfl 3 (c' := (if (nI (δ 2)) ≤ (nI i) then 206 else 167, [(5, .int (nI i)), (4, .int (nI (tVl T L p2 + dlN δ (8 * x2 + x1) i))), (3, .int (nI ((8 * x2) + x1))), (2, .int (nI x1)), (1, .int (nI (δ 2))), (0, .ref 114)], [], M96)) (o := []) rfl trivial ?_
                  refine Wn.br (fun h2 => ?_) (fun h2 => ?_)
                  · show Wn _ 71 _ (206, [(5, .int (nI i)), (4, .int (nI (tVl T L p2 + dlN δ (8 * x2 + x1) i))), (3, .int (nI ((8 * x2) + x1))), (2, .int (nI x1)), (1, .int (nI (δ 2))), (0, .ref 114)], [], M96)
                    have h2 := (n_le rfl rfl (by omega) (by omega)).mp h2
                    have e8 : i = δ 2 := by omega
                    rw [e8]
                    have dl9 := dlN_le bq (8 * x2 + x1) (δ 2) (Nat.le_refl _)
                    refine Wn.run (tab := tb_m_readPerson) rfl 8 (c' := (if (nI (tVl T L p2 + dlN δ (8 * x2 + x1) (δ 2))) ≤ (M96.1 117 (((nI 8) + (nI ((8 * x2) + x1)))).toNatClampNeg) then 226 else 220, [(5, .int (nI (δ 2))), (4, .int (nI (tVl T L p2 + dlN δ (8 * x2 + x1) (δ 2)))), (3, .int (nI ((8 * x2) + x1))), (2, .int (nI x1)), (1, .int (nI (δ 2))), (0, .ref 114)], [], M96)) (o := [shp 114 = (0, 10), aok shp 117 0 ((nI 8) + (nI ((8 * x2) + x1)))]) rfl ⟨rfl, (ak1 (n := 90) rfl rfl (n_add rfl rfl) (by omega))⟩ ?_
                    refine Wn.br (fun h3 => ?_) (fun h3 => ?_)
                    · show Wn _ 71 _ (226, [(5, .int (nI (δ 2))), (4, .int (nI (tVl T L p2 + dlN δ (8 * x2 + x1) (δ 2)))), (3, .int (nI ((8 * x2) + x1))), (2, .int (nI x1)), (1, .int (nI (δ 2))), (0, .ref 114)], [], M96)
                      have h3 := (n_le rfl (rd1 hk103 (n_add rfl rfl) (by omega) (by omega)) (by omega) (by omega)).mp h3
                      refine Wn.run (tab := tb_m_readPerson) rfl 7 (c' := (236, [(5, .int (nI (δ 2))), (4, .int (nI (tVl T L p2 + dlN δ (8 * x2 + x1) (δ 2)))), (3, .int (nI ((8 * x2) + x1))), (2, .int (nI x1)), (1, .int (nI (δ 2))), (0, .ref 114)], [], (mI M96 117 (upd (M96.1 117) (((nI 72) + (nI (δ 2)))).toNatClampNeg (nI ((8 * x2) + x1)))))) (o := [shp 114 = (0, 10), aok shp 117 0 ((nI 72) + (nI (δ 2)))]) rfl ⟨rfl, (ak1 (n := 90) rfl rfl (n_add rfl rfl) (by omega))⟩ ?_
                      generalize hM128 : (mI M96 117 (upd (M96.1 117) (((nI 72) + (nI (δ 2)))).toNatClampNeg (nI ((8 * x2) + x1)))) = M127
                      have ht129 := TkM_fr (fr_1I hM128) (by decide) ht91
                      have hk130 := fI_ne hM128 (by decide) hg98
                      have hk131 : ∀ k, k < 90 → M127.1 117 k = nI ((su δ (72 + (δ 2)) ((8 * x2) + x1)) k) := row_up hM128 hk103 (cl1 (n_add rfl rfl) (by omega)) rfl
                      have hi132 := jc_oI hM128 hi104
                      have h6133 := n6_fr (fr_1I hM128) (by decide) h6105
                      have hn134 := nf_fr (fr_1I hM128) (by decide) hn106
                      have hv135 := rv_fr (fr_1I hM128) (by decide) hv107
                      have hF136 := fr_sI hF108 hM128 (by decide)
                      show Wn _ 71 _ (236, [(5, .int (nI (δ 2))), (4, .int (nI (tVl T L p2 + dlN δ (8 * x2 + x1) (δ 2)))), (3, .int (nI ((8 * x2) + x1))), (2, .int (nI x1)), (1, .int (nI (δ 2))), (0, .ref 114)], [], M127)
                      refine Wn.run (tab := tb_m_readPerson) rfl 8 (c' := (249, [(5, .int (nI (δ 2))), (4, .int (nI (tVl T L p2 + dlN δ (8 * x2 + x1) (δ 2)))), (3, .int (nI ((8 * x2) + x1))), (2, .int (nI x1)), (1, .int (nI (δ 2))), (0, .ref 114)], [], (mI M127 117 (upd (M127.1 117) (((nI 78) + (nI (δ 2)))).toNatClampNeg (M127.1 114 14))))) (o := [shp 114 = (0, 10), shp 114 = (0, 10), aok shp 117 0 ((nI 78) + (nI (δ 2)))]) rfl ⟨rfl, rfl, (ak1 (n := 90) rfl rfl (n_add rfl rfl) (by omega))⟩ ?_
                      rw [show (M127.1 114 14) = (nI (tVl T L p2)) from (ht129.2.2.2.2.2.1 (by omega))]
                      generalize hM138 : (mI M127 117 (upd (M127.1 117) (((nI 78) + (nI (δ 2)))).toNatClampNeg (nI (tVl T L p2)))) = M137
                      have ht139 := TkM_fr (fr_1I hM138) (by decide) ht129
                      have hk140 := fI_ne hM138 (by decide) hk130
                      have hk141 : ∀ k, k < 90 → M137.1 117 k = nI ((su (su δ (72 + (δ 2)) ((8 * x2) + x1)) (78 + (δ 2)) (tVl T L p2)) k) := row_up hM138 hk131 (cl1 (n_add rfl rfl) (by omega)) rfl
                      have hi142 := jc_oI hM138 hi132
                      have h6143 := n6_fr (fr_1I hM138) (by decide) h6133
                      have hn144 := nf_fr (fr_1I hM138) (by decide) hn134
                      have hv145 := rv_fr (fr_1I hM138) (by decide) hv135
                      have hF146 := fr_sI hF136 hM138 (by decide)
                      show Wn _ 71 _ (249, [(5, .int (nI (δ 2))), (4, .int (nI (tVl T L p2 + dlN δ (8 * x2 + x1) (δ 2)))), (3, .int (nI ((8 * x2) + x1))), (2, .int (nI x1)), (1, .int (nI (δ 2))), (0, .ref 114)], [], M137)
                      refine Wn.run (tab := tb_m_readPerson) rfl 1 (c' := (250, [(5, .int (nI (δ 2))), (4, .int (nI (tVl T L p2 + dlN δ (8 * x2 + x1) (δ 2)))), (3, .int (nI ((8 * x2) + x1))), (2, .int (nI x1)), (1, .int (nI (δ 2))), (0, .ref 114)], [.ref 114], M137)) (o := []) rfl trivial ?_
                      refine Wn.callV (p := 114) (n := 1) (ix := 191) (ci := (10)) (PNx M137 g97 T L mo (tNx T L p2)) [] [] rfl rfl rfl rfl (Nat.le_of_ble_eq_true rfl) (Nat.le_of_ble_eq_true rfl) (c_m_nx _ M137 g97 T L mo p2 hk140 ht139 (by omega) (by omega)) ?_
                      rintro _ M147 ⟨rfl, ht148, hx149, hj150, hF151⟩
                      show Wn _ 71 _ (253, [(5, .int (nI (δ 2))), (4, .int (nI (tVl T L p2 + dlN δ (8 * x2 + x1) (δ 2)))), (3, .int (nI ((8 * x2) + x1))), (2, .int (nI x1)), (1, .int (nI (δ 2))), (0, .ref 114)], [], M147)
                      obtain ⟨g152, hg153⟩ : ∃ g9, M147.1 114 = g9 := ⟨_, rfl⟩
                      have hx154 := hx149
                      rw [hg153] at hx154
                      have hf155 : g152 20 = (nI o) := (hx154 20 (by decide)).trans (show g97 20 = (nI o) from hf100)
                      have hf156 : g152 18 = (nI x2) := (hx154 18 (by decide)).trans (show g97 18 = (nI x2) from hf102)
                      have hf157 : g152 15 = (g 15) := (hx154 15 (by decide)).trans (show g97 15 = (g 15) from hf101)
                      have hk158 := fr_row hF151 (by decide) hk141
                      have hi159 := (hj150 21 (by decide)).trans hi142
                      have h6160 := n6_fr hF151 (by decide) h6143
                      have hn161 := nf_fr hF151 (by decide) hn144
                      have hv162 := rv_fr hF151 (by decide) hv145
                      have hF163 := fr_tr hF146 hF151 (by decide)
                      refine Wn.run (tab := tb_m_readPerson) rfl 6 (c' := (261, [(5, .int (nI (δ 2))), (4, .int (nI (tVl T L p2 + dlN δ (8 * x2 + x1) (δ 2)))), (3, .int (nI ((8 * x2) + x1))), (2, .int (nI x1)), (1, .int (nI (δ 2))), (0, .ref 114)], [.int (nI 8), .int (nI 0), .int ((nI 84) + (nI (δ 2))), .ref 114], M147)) (o := []) rfl trivial ?_
                      rw [show ((nI 84) + (nI (δ 2))) = (nI (84 + (δ 2))) from (n_add rfl rfl)]
                      cases hc3 : tkN T L mo (tNx T L p2) 0 8 with
                      | inl f3 =>
                        refine Wn.callV (p := 114) (n := 4) (ix := 235) (ci := (10)) (PFm M147 g152 f3.1 f3.2 (some (.int (nI 0)))) [.int (nI (84 + (δ 2))), .int (nI 0), .int (nI 8)] [] rfl rfl rfl rfl (Nat.le_of_ble_eq_true rfl) (Nat.le_of_ble_eq_true rfl) (c_m_putsE _ M147 g152 T L mo (tNx T L p2) hg153 ht148 (su (su δ (72 + (δ 2)) ((8 * x2) + x1)) (78 + (δ 2)) (tVl T L p2)) hk158 (84 + (δ 2)) 0 8 (by omega) (by omega) (by omega) f3 hc3) ?_
                        rintro _ M168 ⟨rfl, h15164, h16165, hx166, hF167⟩
                        show Wn _ 71 _ (264, [(5, .int (nI (δ 2))), (4, .int (nI (tVl T L p2 + dlN δ (8 * x2 + x1) (δ 2)))), (3, .int (nI ((8 * x2) + x1))), (2, .int (nI x1)), (1, .int (nI (δ 2))), (0, .ref 114)], [.int (nI 0)], M168)
                        obtain ⟨g169, hg170⟩ : ∃ g9, M168.1 114 = g9 := ⟨_, rfl⟩
                        have hx171 := hx166
                        rw [hg170] at hx171
                        have hf172 : g169 15 = nI f3.1 := by rw [← hg170]; exact h15164
                        have hf173 : g169 16 = nI f3.2 := by rw [← hg170]; exact h16165
                        have hk174 := fr_row hF167 (by decide) hk158
                        have h6175 := n6_fr hF167 (by decide) h6160
                        have hn176 := nf_fr hF167 (by decide) hn161
                        have hF177 := fr_tr hF163 hF167 (by decide)
                        refine Wn.run (tab := tb_m_readPerson) rfl 1 (c' := (if ¬ (nI 0) = 0 then 269 else 267, [(5, .int (nI (δ 2))), (4, .int (nI (tVl T L p2 + dlN δ (8 * x2 + x1) (δ 2)))), (3, .int (nI ((8 * x2) + x1))), (2, .int (nI x1)), (1, .int (nI (δ 2))), (0, .ref 114)], [], M168)) (o := []) rfl trivial ?_
                        rw [if_neg (show ¬ (¬ (nI 0) = 0) by decide)]
                        show Wn _ 71 _ (267, [(5, .int (nI (δ 2))), (4, .int (nI (tVl T L p2 + dlN δ (8 * x2 + x1) (δ 2)))), (3, .int (nI ((8 * x2) + x1))), (2, .int (nI x1)), (1, .int (nI (δ 2))), (0, .ref 114)], [], M168)
                        refine Wn.run (tab := tb_m_readPerson) rfl 1 (c' := (268, [(5, .int (nI (δ 2))), (4, .int (nI (tVl T L p2 + dlN δ (8 * x2 + x1) (δ 2)))), (3, .int (nI ((8 * x2) + x1))), (2, .int (nI x1)), (1, .int (nI (δ 2))), (0, .ref 114)], [.int (nI 0)], M168)) (o := []) rfl trivial ?_
                        have e9 : rdPe T L mo p δ ν o ic = .inl f3 := by unfold rdPe; rw [if_neg h1, if_neg (fun q9 => q9 hk3)]; simp only [hb1, hc1, hc2, hcZ]; rw [if_neg (by omega)]; simp only [hc3]
                        rw [e9]
                        exact Wn.zret rfl (Or.inl rfl) ⟨by rw [hg170]; exact (Gx_tr (Gx_tr (Gx_tr (Gx_tr (Gx_tr (Gx_tr (Gx_rf _ _) (Gx_mono hx8 (by decide))) (Gx_mono hx35 (by decide))) (Gx_mono hx67 (by decide))) (Gx_mono hx99 (by decide))) (Gx_mono hx154 (by decide))) (Gx_mono hx171 (by decide))), hF177, h6175, rfl, by rw [hg170]; exact hf172, by rw [hg170]; exact hf173⟩
                      | inr v3 =>
                        obtain ⟨x3, p3⟩ := v3
                        refine Wn.callV (p := 114) (n := 4) (ix := 235) (ci := (10)) (PPt M147 g152 T L mo p3 (su (su (su δ (72 + (δ 2)) ((8 * x2) + x1)) (78 + (δ 2)) (tVl T L p2)) (84 + (δ 2)) x3)) [.int (nI (84 + (δ 2))), .int (nI 0), .int (nI 8)] [] rfl rfl rfl rfl (Nat.le_of_ble_eq_true rfl) (Nat.le_of_ble_eq_true rfl) (c_m_putsV _ M147 g152 T L mo (tNx T L p2) hg153 ht148 (su (su δ (72 + (δ 2)) ((8 * x2) + x1)) (78 + (δ 2)) (tVl T L p2)) hk158 (84 + (δ 2)) 0 8 (by omega) (by omega) (by omega) x3 p3 hc3) ?_
                        rintro _ M183 ⟨rfl, ht178, hr179, hx180, hj181, hF182⟩
                        show Wn _ 71 _ (264, [(5, .int (nI (δ 2))), (4, .int (nI (tVl T L p2 + dlN δ (8 * x2 + x1) (δ 2)))), (3, .int (nI ((8 * x2) + x1))), (2, .int (nI x1)), (1, .int (nI (δ 2))), (0, .ref 114)], [.int (nI 1)], M183)
                        obtain ⟨g184, hg185⟩ : ∃ g9, M183.1 114 = g9 := ⟨_, rfl⟩
                        have hx186 := hx180
                        rw [hg185] at hx186
                        have hf187 : g184 20 = (nI o) := (hx186 20 (by decide)).trans (show g152 20 = (nI o) from hf155)
                        have hf188 : g184 15 = (g 15) := (hx186 15 (by decide)).trans (show g152 15 = (g 15) from hf157)
                        have hi189 := (hj181 21 (by decide)).trans hi159
                        have h6190 := n6_fr hF182 (by decide) h6160
                        have hn191 := nf_fr hF182 (by decide) hn161
                        have hv192 := rv_fr hF182 (by decide) hv162
                        have hF193 := fr_tr hF163 hF182 (by decide)
                        have bd3 : 0 ≤ x3 ∧ x3 ≤ 8 := by obtain ⟨q1, q2, q3⟩ := tkN_inr hc3; cases q3; exact q2
                        have kl3 := tKd_le T L mo p3
                        refine Wn.run (tab := tb_m_readPerson) rfl 1 (c' := (if ¬ (nI 1) = 0 then 269 else 267, [(5, .int (nI (δ 2))), (4, .int (nI (tVl T L p2 + dlN δ (8 * x2 + x1) (δ 2)))), (3, .int (nI ((8 * x2) + x1))), (2, .int (nI x1)), (1, .int (nI (δ 2))), (0, .ref 114)], [], M183)) (o := []) rfl trivial ?_
                        rw [if_pos (show ¬ (nI 1) = 0 by decide)]
                        show Wn _ 71 _ (269, [(5, .int (nI (δ 2))), (4, .int (nI (tVl T L p2 + dlN δ (8 * x2 + x1) (δ 2)))), (3, .int (nI ((8 * x2) + x1))), (2, .int (nI x1)), (1, .int (nI (δ 2))), (0, .ref 114)], [], M183)
                        refine Wn.run (tab := tb_m_readPerson) rfl 8 (c' := (279, [(5, .int (nI (δ 2))), (4, .int (nI (tVl T L p2 + dlN δ (8 * x2 + x1) (δ 2)))), (3, .int (nI ((8 * x2) + x1))), (2, .int (nI x1)), (1, .int (nI (δ 2))), (0, .ref 114)], [], (mI M183 117 (upd (M183.1 117) 2 ((M183.1 117 2) + (nI 1)))))) (o := [shp 114 = (0, 10), aok shp 117 0 (nI 2), aok shp 117 0 (nI 2)]) rfl ⟨rfl, ⟨rfl, vp_in_nI (by decide) (by decide)⟩, ⟨rfl, vp_in_nI (by decide) (by decide)⟩⟩ ?_
                        rw [show (M183.1 117 2) = (nI (δ 2)) from (r_ne (r_ne (r_ne (rd0 hr179 (by omega)) (by omega)) (by omega)) (by omega))]
                        rw [show ((nI (δ 2)) + (nI 1)) = (nI ((δ 2) + 1)) from (n_add rfl rfl)]
                        generalize hM195 : (mI M183 117 (upd (M183.1 117) 2 (nI ((δ 2) + 1)))) = M194
                        have ht196 := TkM_fr (fr_1I hM195) (by decide) ht178
                        have hk197 := fI_ne hM195 (by decide) hg185
                        have hk198 : ∀ k, k < 90 → M194.1 117 k = nI ((su (su (su (su δ (72 + (δ 2)) ((8 * x2) + x1)) (78 + (δ 2)) (tVl T L p2)) (84 + (δ 2)) x3) 2 ((δ 2) + 1)) k) := row_up hM195 hr179 rfl rfl
                        have hi199 := jc_oI hM195 hi189
                        have h6200 := n6_fr (fr_1I hM195) (by decide) h6190
                        have hn201 := nf_fr (fr_1I hM195) (by decide) hn191
                        have hv202 := rv_fr (fr_1I hM195) (by decide) hv192
                        have hF203 := fr_sI hF193 hM195 (by decide)
                        show Wn _ 71 _ (279, [(5, .int (nI (δ 2))), (4, .int (nI (tVl T L p2 + dlN δ (8 * x2 + x1) (δ 2)))), (3, .int (nI ((8 * x2) + x1))), (2, .int (nI x1)), (1, .int (nI (δ 2))), (0, .ref 114)], [], M194)
                        refine Wn.run (tab := tb_m_readPerson) rfl 1 (c' := (280, [(5, .int (nI (δ 2))), (4, .int (nI (tVl T L p2 + dlN δ (8 * x2 + x1) (δ 2)))), (3, .int (nI ((8 * x2) + x1))), (2, .int (nI x1)), (1, .int (nI (δ 2))), (0, .ref 114)], [.int (nI 1)], M194)) (o := []) rfl trivial ?_
                        have e9 : rdPe T L mo p δ ν o ic = .inr (p3, (su (su (su (su δ (72 + (δ 2)) ((8 * x2) + x1)) (78 + (δ 2)) (tVl T L p2)) (84 + (δ 2)) x3) 2 ((δ 2) + 1)), (vp_updL ν (δ 2) (tNm T L (tNx T L p))), o, ic) := by unfold rdPe; rw [if_neg h1, if_neg (fun q9 => q9 hk3)]; simp only [hb1, hc1, hc2, hcZ]; rw [if_neg (by omega)]; simp only [hc3]
                        rw [e9]
                        exact Wn.zret rfl (Or.inr rfl) ⟨by rw [hk197]; exact (Gx_tr (Gx_tr (Gx_tr (Gx_tr (Gx_tr (Gx_tr (Gx_rf _ _) (Gx_mono hx8 (by decide))) (Gx_mono hx35 (by decide))) (Gx_mono hx67 (by decide))) (Gx_mono hx99 (by decide))) (Gx_mono hx154 (by decide))) (Gx_mono hx186 (by decide))), hF203, h6200, rfl, ht196, hk198, fun q hq => hn201 q (by have hq2 : q < (su (su (su (su δ (72 + (δ 2)) ((8 * x2) + x1)) (78 + (δ 2)) (tVl T L p2)) (84 + (δ 2)) x3) 2 ((δ 2) + 1)) 2 := hq; rw [su_eq rfl] at hq2; exact hq2), by rw [hk197]; exact hf187, hi199, by rw [hk197]; exact hf188⟩
                    · show Wn _ 71 _ (220, [(5, .int (nI (δ 2))), (4, .int (nI (tVl T L p2 + dlN δ (8 * x2 + x1) (δ 2)))), (3, .int (nI ((8 * x2) + x1))), (2, .int (nI x1)), (1, .int (nI (δ 2))), (0, .ref 114)], [], M96)
                      have h3 := mt (n_le rfl (rd1 hk103 (n_add rfl rfl) (by omega) (by omega)) (by omega) (by omega)).mpr h3
                      refine Wn.run (tab := tb_m_readPerson) rfl 2 (c' := (222, [(5, .int (nI (δ 2))), (4, .int (nI (tVl T L p2 + dlN δ (8 * x2 + x1) (δ 2)))), (3, .int (nI ((8 * x2) + x1))), (2, .int (nI x1)), (1, .int (nI (δ 2))), (0, .ref 114)], [.int (nI 3), .ref 114], M96)) (o := []) rfl trivial ?_
                      refine Wn.callV (p := 114) (n := 2) (ix := 188) (ci := (10)) (PBd M96 g97 (nI 3) (nI (tAt T L mo p2))) [.int (nI 3)] [] rfl rfl rfl rfl (Nat.le_of_ble_eq_true rfl) (Nat.le_of_ble_eq_true rfl) (c_m_bad _ M96 g97 T L mo p2 hg98 ht91 (nI 3)) ?_
                      rintro _ M204 ⟨rfl, hg205, hs206, hF207⟩
                      show Wn _ 71 _ (225, [(5, .int (nI (δ 2))), (4, .int (nI (tVl T L p2 + dlN δ (8 * x2 + x1) (δ 2)))), (3, .int (nI ((8 * x2) + x1))), (2, .int (nI x1)), (1, .int (nI (δ 2))), (0, .ref 114)], [.int (nI 0)], M204)
                      have hk208 := fr_row hF207 (by decide) hk103
                      have h6209 := n6_fr hF207 (by decide) h6105
                      have hn210 := nf_fr hF207 (by decide) hn106
                      have hv211 := rv_fr hF207 (by decide) hv107
                      have hF212 := fr_tr hF108 hF207 (by decide)
                      have e9 : rdPe T L mo p δ ν o ic = .inl (3, tAt T L mo p2) := by unfold rdPe; rw [if_neg h1, if_neg (fun q9 => q9 hk3)]; simp only [hb1, hc1, hc2, hcZ]; rw [if_pos (by omega)]
                      rw [e9]
                      exact Wn.zret rfl (Or.inl rfl) ⟨by rw [hg205]; exact (Gx_up (Gx_up (Gx_tr (Gx_tr (Gx_tr (Gx_tr (Gx_rf _ _) (Gx_mono hx8 (by decide))) (Gx_mono hx35 (by decide))) (Gx_mono hx67 (by decide))) (Gx_mono hx99 (by decide))) (by decide)) (by decide)), hF212, h6209, rfl, by rw [hg205]; exact ((pk_un (by decide)).trans pk_us), by rw [hg205]; exact pk_us⟩
                  · show Wn _ 71 _ (167, [(5, .int (nI i)), (4, .int (nI (tVl T L p2 + dlN δ (8 * x2 + x1) i))), (3, .int (nI ((8 * x2) + x1))), (2, .int (nI x1)), (1, .int (nI (δ 2))), (0, .ref 114)], [], M96)
                    have h2 := mt (n_le rfl rfl (by omega) (by omega)).mpr h2
                    refine Wn.run (tab := tb_m_readPerson) rfl 9 (c' := (if ¬ (M96.1 117 (((nI 72) + (nI i))).toNatClampNeg) = (nI ((8 * x2) + x1)) then 196 else 183, [(5, .int (nI i)), (4, .int (nI (tVl T L p2 + dlN δ (8 * x2 + x1) i))), (3, .int (nI ((8 * x2) + x1))), (2, .int (nI x1)), (1, .int (nI (δ 2))), (0, .ref 114)], [.int (nI (tVl T L p2 + dlN δ (8 * x2 + x1) i))], M96)) (o := [shp 114 = (0, 10), aok shp 117 0 ((nI 72) + (nI i))]) rfl ⟨rfl, (ak1 (n := 90) rfl rfl (n_add rfl rfl) (by omega))⟩ ?_
                    refine Wn.br (fun h4 => ?_) (fun h4 => ?_)
                    · show Wn _ 71 _ (196, [(5, .int (nI i)), (4, .int (nI (tVl T L p2 + dlN δ (8 * x2 + x1) i))), (3, .int (nI ((8 * x2) + x1))), (2, .int (nI x1)), (1, .int (nI (δ 2))), (0, .ref 114)], [.int (nI (tVl T L p2 + dlN δ (8 * x2 + x1) i))], M96)
                      have h4 := mt (n_eq (rd1 hk103 (n_add rfl rfl) (by omega) (by omega)) rfl (by omega) (by omega)).mpr h4
                      refine Wn.run (tab := tb_m_readPerson) rfl 5 (c' := (161, [(5, .int ((nI i) + (nI 1))), (4, .int ((nI (tVl T L p2 + dlN δ (8 * x2 + x1) i)) + (nI 0))), (3, .int (nI ((8 * x2) + x1))), (2, .int (nI x1)), (1, .int (nI (δ 2))), (0, .ref 114)], [], M96)) (o := []) rfl trivial ?_
                      rw [show ((nI (tVl T L p2 + dlN δ (8 * x2 + x1) i)) + (nI 0)) = (nI ((tVl T L p2 + dlN δ (8 * x2 + x1) i) + 0)) from (n_add rfl rfl)]
                      rw [show ((nI i) + (nI 1)) = (nI (i + 1)) from (n_add rfl rfl)]
                      rw [show (nI ((tVl T L p2 + dlN δ (8 * x2 + x1) i) + 0)) = (nI (tVl T L p2 + dlN δ (8 * x2 + x1) (i + 1))) from (by rw [show dlN δ (8 * x2 + x1) (i + 1) = dlN δ (8 * x2 + x1) i + 0 from by show dlN δ (8 * x2 + x1) i + (if δ (72 + i) = (8 * x2 + x1) then δ (78 + i) else 0) = _; rw [if_neg h4]]; rfl)]
                      exact ih (δ 2 - (i + 1)) (by omega) (i + 1) rfl (by omega)
                    · show Wn _ 71 _ (183, [(5, .int (nI i)), (4, .int (nI (tVl T L p2 + dlN δ (8 * x2 + x1) i))), (3, .int (nI ((8 * x2) + x1))), (2, .int (nI x1)), (1, .int (nI (δ 2))), (0, .ref 114)], [.int (nI (tVl T L p2 + dlN δ (8 * x2 + x1) i))], M96)
                      have h4 := (n_eq (rd1 hk103 (n_add rfl rfl) (by omega) (by omega)) rfl (by omega) (by omega)).mp (Classical.not_not.mp h4)
                      refine Wn.run (tab := tb_m_readPerson) rfl 11 (c' := (161, [(5, .int ((nI i) + (nI 1))), (4, .int ((nI (tVl T L p2 + dlN δ (8 * x2 + x1) i)) + (M96.1 117 (((nI 78) + (nI i))).toNatClampNeg))), (3, .int (nI ((8 * x2) + x1))), (2, .int (nI x1)), (1, .int (nI (δ 2))), (0, .ref 114)], [], M96)) (o := [shp 114 = (0, 10), aok shp 117 0 ((nI 78) + (nI i))]) rfl ⟨rfl, (ak1 (n := 90) rfl rfl (n_add rfl rfl) (by omega))⟩ ?_
                      rw [show (M96.1 117 (((nI 78) + (nI i))).toNatClampNeg) = (nI (δ (78 + i))) from (rd1 hk103 (n_add rfl rfl) (by omega) (by omega))]
                      rw [show ((nI (tVl T L p2 + dlN δ (8 * x2 + x1) i)) + (nI (δ (78 + i)))) = (nI ((tVl T L p2 + dlN δ (8 * x2 + x1) i) + (δ (78 + i)))) from (n_add rfl rfl)]
                      rw [show ((nI i) + (nI 1)) = (nI (i + 1)) from (n_add rfl rfl)]
                      rw [show (nI ((tVl T L p2 + dlN δ (8 * x2 + x1) i) + (δ (78 + i)))) = (nI (tVl T L p2 + dlN δ (8 * x2 + x1) (i + 1))) from (by rw [show dlN δ (8 * x2 + x1) (i + 1) = dlN δ (8 * x2 + x1) i + δ (78 + i) from by show dlN δ (8 * x2 + x1) i + (if δ (72 + i) = (8 * x2 + x1) then δ (78 + i) else 0) = _; rw [if_pos h4]]; rw [Nat.add_assoc])]
                      exact ih (δ 2 - (i + 1)) (by omega) (i + 1) rfl (by omega)
              exact loop (δ 2 - 0) 0 rfl (by omega)
      | some k1 =>
        have hk1 : k1 < 6 := by have q9 := til_lt _ _ _ hb1; omega
        show Wn _ 71 _ (43, [(1, .int (nI (δ 2))), (0, .ref 114)], [.int (nI k1)], M1)
        refine Wn.run (tab := tb_m_readPerson) rfl 1 (c' := (if (nI k1) < 0 then 52 else 46, [(1, .int (nI (δ 2))), (0, .ref 114)], [], M1)) (o := []) rfl trivial ?_
        rw [if_neg (nI_nn (by omega))]
        show Wn _ 71 _ (46, [(1, .int (nI (δ 2))), (0, .ref 114)], [], M1)
        refine Wn.run (tab := tb_m_readPerson) rfl 2 (c' := (48, [(1, .int (nI (δ 2))), (0, .ref 114)], [.int (nI 3), .ref 114], M1)) (o := []) rfl trivial ?_
        refine Wn.callV (p := 114) (n := 2) (ix := 188) (ci := (10)) (PBd M1 g6 (nI 3) (nI (tAt T L mo (tNx T L p)))) [.int (nI 3)] [] rfl rfl rfl rfl (Nat.le_of_ble_eq_true rfl) (Nat.le_of_ble_eq_true rfl) (c_m_bad _ M1 g6 T L mo (tNx T L p) hg7 ht2 (nI 3)) ?_
        rintro _ M213 ⟨rfl, hg214, hs215, hF216⟩
        show Wn _ 71 _ (51, [(1, .int (nI (δ 2))), (0, .ref 114)], [.int (nI 0)], M213)
        have hk217 := fr_row hF216 (by decide) hk12
        have h6218 := n6_fr hF216 (by decide) h614
        have hn219 := nf_fr hF216 (by decide) hn15
        have hv220 := rv_fr hF216 (by decide) hv16
        have hF221 := fr_tr hF17 hF216 (by decide)
        have e9 : rdPe T L mo p δ ν o ic = .inl (3, tAt T L mo (tNx T L p)) := by unfold rdPe; rw [if_neg h1, if_neg (fun q9 => q9 hk3)]; simp only [hb1]
        rw [e9]
        exact Wn.zret rfl (Or.inl rfl) ⟨by rw [hg214]; exact (Gx_up (Gx_up (Gx_tr (Gx_rf _ _) (Gx_mono hx8 (by decide))) (by decide)) (by decide)), hF221, h6218, rfl, by rw [hg214]; exact ((pk_un (by decide)).trans pk_us), by rw [hg214]; exact pk_us⟩
    · have kl0 := tKd_le T L mo (tNx T L p)
      refine Wn.callV (p := 114) (n := 1) (ix := 205) (ci := (10)) (fun r0 M0 => r0 = some (.int (b2 (tKd T L mo (tNx T L p) = 3))) ∧ M1 = M0) [] [] rfl rfl rfl rfl (Nat.le_of_ble_eq_true rfl) (Nat.le_of_ble_eq_true rfl) (w_m_isName _ M1 T L mo (tNx T L p) ht2 hv16 _ ⟨rfl, rfl⟩) ?_
      rintro _ _ ⟨rfl, rfl⟩
      show Wn _ 71 _ (27, [(1, .int (nI (δ 2))), (0, .ref 114)], [.int (b2 (tKd T L mo (tNx T L p) = 3))], M1)
      refine Wn.run (tab := tb_m_readPerson) rfl 1 (c' := (if ¬ (b2 (tKd T L mo (tNx T L p) = 3)) = 0 then 36 else 30, [(1, .int (nI (δ 2))), (0, .ref 114)], [], M1)) (o := []) rfl trivial ?_
      rw [if_neg (fun h9 => h9 (b2_e0.mpr (by omega)))]
      show Wn _ 71 _ (30, [(1, .int (nI (δ 2))), (0, .ref 114)], [], M1)
      refine Wn.run (tab := tb_m_readPerson) rfl 2 (c' := (32, [(1, .int (nI (δ 2))), (0, .ref 114)], [.int (nI 1), .ref 114], M1)) (o := []) rfl trivial ?_
      refine Wn.callV (p := 114) (n := 2) (ix := 188) (ci := (10)) (PBd M1 g6 (nI 1) (nI (tAt T L mo (tNx T L p)))) [.int (nI 1)] [] rfl rfl rfl rfl (Nat.le_of_ble_eq_true rfl) (Nat.le_of_ble_eq_true rfl) (c_m_bad _ M1 g6 T L mo (tNx T L p) hg7 ht2 (nI 1)) ?_
      rintro _ M222 ⟨rfl, hg223, hs224, hF225⟩
      show Wn _ 71 _ (35, [(1, .int (nI (δ 2))), (0, .ref 114)], [.int (nI 0)], M222)
      have hk226 := fr_row hF225 (by decide) hk12
      have h6227 := n6_fr hF225 (by decide) h614
      have hn228 := nf_fr hF225 (by decide) hn15
      have hv229 := rv_fr hF225 (by decide) hv16
      have hF230 := fr_tr hF17 hF225 (by decide)
      have e9 : rdPe T L mo p δ ν o ic = .inl (1, tAt T L mo (tNx T L p)) := by unfold rdPe; rw [if_neg h1, if_pos hk3]
      rw [e9]
      exact Wn.zret rfl (Or.inl rfl) ⟨by rw [hg223]; exact (Gx_up (Gx_up (Gx_tr (Gx_rf _ _) (Gx_mono hx8 (by decide))) (by decide)) (by decide)), hF230, h6227, rfl, by rw [hg223]; exact ((pk_un (by decide)).trans pk_us), by rw [hg223]; exact pk_us⟩
  · show Wn _ 71 _ (13, [(1, .int (M.1 117 2)), (0, .ref 114)], [], M)
    have h1 := (n_eq (rd0 hh (by omega)) rfl (by omega) (by omega)).mp (Classical.not_not.mp h1)
    rw [show (M.1 117 2) = (nI (δ 2)) from (rd0 hh (by omega))]
    refine Wn.run (tab := tb_m_readPerson) rfl 2 (c' := (15, [(1, .int (nI (δ 2))), (0, .ref 114)], [.int (nI 4), .ref 114], M)) (o := []) rfl trivial ?_
    refine Wn.callV (p := 114) (n := 2) (ix := 188) (ci := (10)) (PBd M g (nI 4) (nI (tAt T L mo p))) [.int (nI 4)] [] rfl rfl rfl rfl (Nat.le_of_ble_eq_true rfl) (Nat.le_of_ble_eq_true rfl) (c_m_bad _ M g T L mo p hg hK (nI 4)) ?_
    rintro _ M231 ⟨rfl, hg232, hs233, hF234⟩
    show Wn _ 71 _ (18, [(1, .int (nI (δ 2))), (0, .ref 114)], [.int (nI 0)], M231)
    have hk235 := fr_row hF234 (by decide) hh
    have h6236 := n6_fr hF234 (by decide) h6
    have hn237 := nf_fr hF234 (by decide) hN
    have hv238 := rv_fr hF234 (by decide) hv
    have hF239 := fr_tr hF hF234 (by decide)
    have e9 : rdPe T L mo p δ ν o ic = .inl (4, tAt T L mo p) := by unfold rdPe; rw [if_pos h1]
    rw [e9]
    exact Wn.zret rfl (Or.inl rfl) ⟨by rw [hg232]; exact (Gx_up (Gx_up (Gx_rf _ _) (by decide)) (by decide)), hF239, h6236, rfl, by rw [hg232]; exact ((pk_un (by decide)).trans pk_us), by rw [hg232]; exact pk_us⟩
