/-- the loads told on a cell -/
def dlN (δ : Nat → Nat) (c : Nat) : Nat → Nat
  | 0 => 0
  | i + 1 => dlN δ c i + (if δ (72 + i) = c then δ (78 + i) else 0)
theorem dlN_le {δ : Nat → Nat} (h : ∀ q, q < δ 2 → δ (72 + q) < 64 ∧ 1 ≤ δ (78 + q) ∧ δ (78 + q) ≤ 5 ∧ δ (84 + q) ≤ 8) (c : Nat) : ∀ n, n ≤ δ 2 → dlN δ c n ≤ 5 * n
  | 0, _ => Nat.le_refl 0
  | n + 1, hn => by
    have ih := dlN_le h c n (by omega)
    have h1 := h n (by omega)
    unfold dlN
    split <;> omega
def rdPe (T : Nat → Nat) (L mo p : Nat) (δ : Nat → Nat) (ν : Nat → Int64) (o : Nat) (ic : Int64) : Flt ⊕ Dst :=
  if δ 2 = 6 then .inl (4, tAt T L mo p) else
  if ¬ tKd T L mo (tNx T L p) = 3 then .inl (1, tAt T L mo (tNx T L p)) else
  match pcl ν (tNm T L (tNx T L p)) (δ 2) with
  | some _ => .inl (3, tAt T L mo (tNx T L p))
  | none => match tkN T L mo (tNx T L (tNx T L p)) 0 (δ 0 - 1) with
    | .inl f => .inl f
    | .inr (x, p1) => match tkN T L mo p1 0 (δ 1 - 1) with
      | .inl f => .inl f
      | .inr (y, p2) => match tkN T L mo p2 1 5 with
        | .inl f => .inl f
        | .inr (ld, p3) => if δ (8 + (8 * y + x)) < ld + dlN δ (8 * y + x) (δ 2) then .inl (3, tAt T L mo p2) else
          match tkN T L mo p3 0 8 with
          | .inl f => .inl f
          | .inr (t, p4) => .inr (p4, su (su (su (su δ (72 + δ 2) (8 * y + x)) (78 + δ 2) ld) (84 + δ 2) t) 2 (δ 2 + 1), vp_updL ν (δ 2) (tNm T L (tNx T L p)), o, ic)
theorem nf_up {M M' : Mm} {ν : Nat → Int64} {n ix : Nat} {v : Int64} (hM : mJ M 119 (vp_updL (M.2.1 119) ix v) = M') (hi : ix = 6 + n) (h : ∀ q, q < n → M.2.1 119 (6 + q) = ν q) : ∀ q, q < n + 1 → M'.2.1 119 (6 + q) = vp_updL ν n v q := fun q hq => by
  rw [mJ_eq hM, hi]
  by_cases e : q = n
  · subst e; rw [pk_uLs, pk_uLs]
  · rw [pk_uLn (show 6 + q ≠ 6 + n by omega), pk_uLn (show q ≠ n by omega)]; exact h q (by omega)
set_option maxRecDepth 20000 in
theorem c_m_readPerson (d : Nat) (M : Mm) (g : Nat → Int32) (T : Nat → Nat) (L mo p : Nat) (hg : M.1 114 = g) (hK : TkM M T L mo p) (δ : Nat → Nat) (hh : ∀ k, k < 90 → M.1 117 k = nI (δ k)) (hδ : DB δ) (ν : Nat → Int64) (hN : ∀ q, q < δ 2 → M.2.1 119 (6 + q) = ν q) (o : Nat) (ho : g 20 = nI o) (ho5 : o < 32) (ic : Int64) (hic : M.2.1 114 21 = ic) (hv : Rsv M) (hk : tKd T L mo p = 12) : Wn (d + 4) 71 (PRm M g T L mo (rdPe T L mo p δ ν o ic)) (0, lv_args 0 [.ref 114], [], M) := by
  have hF := fr_rf [114, 117, 119] M
  have h6 : ∀ q, q < 6 → M.2.1 119 q = M.2.1 119 q := fun _ _ => rfl
  have kl := tKd_le T L mo p
  obtain ⟨b0, b1, b2_9, bq, bc⟩ := hδ
  refine Wn.run (tab := tb_m_readPerson) rfl 8 (c' := (if ¬ (M.1 117 2) = (nI 6) then 19 else 13, [(1, .int (M.1 117 2)), (0, .ref 114)], [], M)) (o := [shp 114 = (0, 10), aok shp 117 0 (nI 2)]) rfl ⟨rfl, ⟨rfl, vp_in_nI (by decide) (by decide)⟩⟩ ?_
  refine Wn.br (fun h1 => ?_) (fun h1 => ?_)
  · show Wn _ 71 _ (19, [(1, .int (M.1 117 2)), (0, .ref 114)], [], M)
    have h1 := mt (n_eq (rd0 hh (by omega)) rfl (by omega) (by omega)).mpr h1
    rw [show (M.1 117 2) = (nI (δ 2)) from (rd0 hh (by omega))]
    refine Wn.run (tab := tb_m_readPerson) rfl 1 (c' := (20, [(1, .int (nI (δ 2))), (0, .ref 114)], [.ref 114], M)) (o := []) rfl trivial ?_
    refine Wn.callV (p := 114) (n := 1) (ix := 191) (ci := (10)) (PNx M g T L mo (tNx T L p)) [] [] rfl rfl rfl rfl (Nat.le_of_ble_eq_true rfl) (Nat.le_of_ble_eq_true rfl) (c_m_nx _ M g T L mo p hg hK (by omega) (by omega)) ?_
    rintro _ M1 ⟨rfl, ht2, hx3, hj4, hF5⟩
    show Wn _ 71 _ (23, [(1, .int (nI (δ 2))), (0, .ref 114)], [], M1)
    obtain ⟨g6, hg7⟩ : ∃ g9, M1.1 114 = g9 := ⟨_, rfl⟩
    have hx8 := hx3
    rw [hg7] at hx8
    have hf9 : g6 20 = (nI o) := (hx8 20 (by decide)).trans (show g 20 = (nI o) from ho)
    have hf10 : g6 18 = (g 18) := (hx8 18 (by decide)).trans (show g 18 = (g 18) from rfl)
    have hk11 := fr_row hF5 (by decide) hh
    have hi12 := (hj4 21 (by decide)).trans hic
    have h613 := n6_fr hF5 (by decide) h6
    have hn14 := nf_fr hF5 (by decide) hN
    have hv15 := rv_fr hF5 (by decide) hv
    have hF16 := fr_tr hF hF5 (by decide)
    refine Wn.run (tab := tb_m_readPerson) rfl 1 (c' := (24, [(1, .int (nI (δ 2))), (0, .ref 114)], [.ref 114], M1)) (o := []) rfl trivial ?_
    by_cases hk3 : tKd T L mo (tNx T L p) = 3
    · refine Wn.callV (p := 114) (n := 1) (ix := 205) (ci := (10)) (fun r0 M0 => r0 = some (.int (b2 (tKd T L mo (tNx T L p) = 3))) ∧ M1 = M0) [] [] rfl rfl rfl rfl (Nat.le_of_ble_eq_true rfl) (Nat.le_of_ble_eq_true rfl) (w_m_isName _ M1 T L mo (tNx T L p) ht2 hv15 _ ⟨rfl, rfl⟩) ?_
      rintro _ _ ⟨rfl, rfl⟩
      show Wn _ 71 _ (27, [(1, .int (nI (δ 2))), (0, .ref 114)], [.int (b2 (tKd T L mo (tNx T L p) = 3))], M1)
      refine Wn.run (tab := tb_m_readPerson) rfl 1 (c' := (if ¬ (b2 (tKd T L mo (tNx T L p) = 3)) = 0 then 36 else 30, [(1, .int (nI (δ 2))), (0, .ref 114)], [], M1)) (o := []) rfl trivial ?_
      rw [if_pos (b2_n0.mpr (by omega))]
      show Wn _ 71 _ (36, [(1, .int (nI (δ 2))), (0, .ref 114)], [], M1)
      refine Wn.run (tab := tb_m_readPerson) rfl 3 (c' := (40, [(1, .int (nI (δ 2))), (0, .ref 114)], [.int (nI (δ 2)), .int (nI 6), .ref 114], M1)) (o := []) rfl trivial ?_
      refine Wn.callV (p := 114) (n := 3) (ix := 209) (ci := (10)) (fun r0 M0 => r0 = some (.int (oI (pcl ν (tNm T L (tNx T L p)) (δ 2)))) ∧ M1 = M0) [.int (nI 6), .int (nI (δ 2))] [] rfl rfl rfl rfl (Nat.le_of_ble_eq_true rfl) (Nat.le_of_ble_eq_true rfl) (w_m_seek _ M1 T L mo (tNx T L p) ht2 (by omega) 6 (δ 2) (by omega) ν hn14 _ ⟨rfl, rfl⟩) ?_
      rintro _ _ ⟨rfl, rfl⟩
      show Wn _ 71 _ (43, [(1, .int (nI (δ 2))), (0, .ref 114)], [.int (oI (pcl ν (tNm T L (tNx T L p)) (δ 2)))], M1)
      cases hb1 : pcl ν (tNm T L (tNx T L p)) (δ 2) with
      | none =>
        show Wn _ 71 _ (43, [(1, .int (nI (δ 2))), (0, .ref 114)], [.int (-1 : Int32)], M1)
        refine Wn.run (tab := tb_m_readPerson) rfl 1 (c' := (if (-1 : Int32) < 0 then 52 else 46, [(1, .int (nI (δ 2))), (0, .ref 114)], [], M1)) (o := []) rfl trivial ?_
        rw [if_pos (show (-1 : Int32) < 0 by decide)]
        show Wn _ 71 _ (52, [(1, .int (nI (δ 2))), (0, .ref 114)], [], M1)
        refine Wn.run (tab := tb_m_readPerson) rfl 8 (c' := (65, [(1, .int (nI (δ 2))), (0, .ref 114)], [], (mJ M1 119 (vp_updL (M1.2.1 119) (((nI 6) + (nI (δ 2)))).toNatClampNeg (M1.2.1 114 17))))) (o := [shp 114 = (0, 10), shp 114 = (0, 10), aok shp 119 3 ((nI 6) + (nI (δ 2)))]) rfl ⟨rfl, rfl, (ak1 (n := 12) rfl rfl (n_add rfl rfl) (by omega))⟩ ?_
        rw [show (M1.2.1 114 17) = (tNm T L (tNx T L p)) from (ht2.2.2.2.2.2.2.2.1 (by omega))]
        generalize hM18 : (mJ M1 119 (vp_updL (M1.2.1 119) (((nI 6) + (nI (δ 2)))).toNatClampNeg (tNm T L (tNx T L p)))) = M17
        have ht19 := TkM_fr (fr_1J hM18) (by decide) ht2
        have hk20 := fI_oJ hM18 hg7
        have hk21 := row_oJ hM18 hk11
        have hi22 := ic_fr (fr_1J hM18) (by decide) hi12
        have h623 := n6_up hM18 (cl1 (n_add rfl rfl) (by omega)) (by omega) h613
        have hn24 := nf_up hM18 (cl1 (n_add rfl rfl) (by omega)) hn14
        have hv25 := rv_fr (fr_1J hM18) (by decide) hv15
        have hF26 := fr_sJ hF16 hM18 (by decide)
        show Wn _ 71 _ (65, [(1, .int (nI (δ 2))), (0, .ref 114)], [], M17)
        refine Wn.run (tab := tb_m_readPerson) rfl 1 (c' := (66, [(1, .int (nI (δ 2))), (0, .ref 114)], [.ref 114], M17)) (o := []) rfl trivial ?_
        refine Wn.callV (p := 114) (n := 1) (ix := 191) (ci := (10)) (PNx M17 g6 T L mo (tNx T L (tNx T L p))) [] [] rfl rfl rfl rfl (Nat.le_of_ble_eq_true rfl) (Nat.le_of_ble_eq_true rfl) (c_m_nx _ M17 g6 T L mo (tNx T L p) hk20 ht19 (by omega) (by omega)) ?_
        rintro _ M27 ⟨rfl, ht28, hx29, hj30, hF31⟩
        show Wn _ 71 _ (69, [(1, .int (nI (δ 2))), (0, .ref 114)], [], M27)
        obtain ⟨g32, hg33⟩ : ∃ g9, M27.1 114 = g9 := ⟨_, rfl⟩
        have hx34 := hx29
        rw [hg33] at hx34
        have hf35 : g32 20 = (nI o) := (hx34 20 (by decide)).trans (show g6 20 = (nI o) from hf9)
        have hf36 : g32 18 = (g 18) := (hx34 18 (by decide)).trans (show g6 18 = (g 18) from hf10)
        have hk37 := fr_row hF31 (by decide) hk21
        have hi38 := (hj30 21 (by decide)).trans hi22
        have h639 := n6_fr hF31 (by decide) h623
        have hn40 := nf_fr hF31 (by decide) hn24
        have hv41 := rv_fr hF31 (by decide) hv25
        have hF42 := fr_tr hF26 hF31 (by decide)
        refine Wn.run (tab := tb_m_readPerson) rfl 8 (c' := (79, [(1, .int (nI (δ 2))), (0, .ref 114)], [.int ((M27.1 117 0) - (nI 1)), .int (nI 0), .ref 114], M27)) (o := [shp 114 = (0, 10), aok shp 117 0 (nI 0)]) rfl ⟨rfl, ⟨rfl, vp_in_nI (by decide) (by decide)⟩⟩ ?_
        rw [show (M27.1 117 0) = (nI (δ 0)) from (rd0 hk37 (by omega))]
        rw [show ((nI (δ 0)) - (nI 1)) = (nI ((δ 0) - 1)) from (n_sub rfl rfl (by omega))]
        cases hc1 : tkN T L mo (tNx T L (tNx T L p)) 0 ((δ 0) - 1) with
        | inl f1 =>
          refine Wn.callV (p := 114) (n := 3) (ix := 201) (ci := (10)) (PFm M27 g32 f1.1 f1.2 (some (.int (nI 0)))) [.int (nI 0), .int (nI ((δ 0) - 1))] [] rfl rfl rfl rfl (Nat.le_of_ble_eq_true rfl) (Nat.le_of_ble_eq_true rfl) (c_m_takesE _ M27 g32 T L mo (tNx T L (tNx T L p)) hg33 ht28 0 ((δ 0) - 1) (by omega) (by omega) f1 hc1) ?_
          rintro _ M47 ⟨rfl, h1543, h1644, hx45, hF46⟩
          show Wn _ 71 _ (82, [(1, .int (nI (δ 2))), (0, .ref 114)], [.int (nI 0)], M47)
          obtain ⟨g48, hg49⟩ : ∃ g9, M47.1 114 = g9 := ⟨_, rfl⟩
          have hx50 := hx45
          rw [hg49] at hx50
          have hf51 : g48 15 = nI f1.1 := by rw [← hg49]; exact h1543
          have hf52 : g48 16 = nI f1.2 := by rw [← hg49]; exact h1644
          have hk53 := fr_row hF46 (by decide) hk37
          have h654 := n6_fr hF46 (by decide) h639
          have hn55 := nf_fr hF46 (by decide) hn40
          have hF56 := fr_tr hF42 hF46 (by decide)
          refine Wn.run (tab := tb_m_readPerson) rfl 1 (c' := (if ¬ (nI 0) = 0 then 87 else 85, [(1, .int (nI (δ 2))), (0, .ref 114)], [], M47)) (o := []) rfl trivial ?_
          rw [if_neg (show ¬ (¬ (nI 0) = 0) by decide)]
          show Wn _ 71 _ (85, [(1, .int (nI (δ 2))), (0, .ref 114)], [], M47)
          refine Wn.run (tab := tb_m_readPerson) rfl 1 (c' := (86, [(1, .int (nI (δ 2))), (0, .ref 114)], [.int (nI 0)], M47)) (o := []) rfl trivial ?_
          have e9 : rdPe T L mo p δ ν o ic = .inl f1 := by unfold rdPe; rw [if_neg h1, if_neg (fun q9 => q9 hk3)]; simp only [hb1, hc1]
          rw [e9]
          exact Wn.zret rfl (Or.inl rfl) ⟨by rw [hg49]; exact (Gx_tr (Gx_tr (Gx_tr (Gx_rf _ _) (Gx_mono hx8 (by decide))) (Gx_mono hx34 (by decide))) (Gx_mono hx50 (by decide))), hF56, h654, rfl, by rw [hg49]; exact hf51, by rw [hg49]; exact hf52⟩
        | inr v1 =>
          obtain ⟨x1, p1⟩ := v1
          refine Wn.callV (p := 114) (n := 3) (ix := 201) (ci := (10)) (PTm M27 g32 T L mo p1 [4, 11, 12, 13, 14, 18] (nI x1) (some (.int (nI 1)))) [.int (nI 0), .int (nI ((δ 0) - 1))] [] rfl rfl rfl rfl (Nat.le_of_ble_eq_true rfl) (Nat.le_of_ble_eq_true rfl) (c_m_takesV _ M27 g32 T L mo (tNx T L (tNx T L p)) hg33 ht28 0 ((δ 0) - 1) (by omega) (by omega) (x1, p1) hc1) ?_
          rintro _ M62 ⟨rfl, ht57, h1858, hx59, hj60, hF61⟩
          show Wn _ 71 _ (82, [(1, .int (nI (δ 2))), (0, .ref 114)], [.int (nI 1)], M62)
          obtain ⟨g63, hg64⟩ : ∃ g9, M62.1 114 = g9 := ⟨_, rfl⟩
          have hx65 := hx59
          rw [hg64] at hx65
          have hf66 : g63 20 = (nI o) := (hx65 20 (by decide)).trans (show g32 20 = (nI o) from hf35)
          have hf67 : g63 18 = nI x1 := by rw [← hg64]; exact h1858
          have hk68 := fr_row hF61 (by decide) hk37
          have hi69 := (hj60 21 (by decide)).trans hi38
          have h670 := n6_fr hF61 (by decide) h639
          have hn71 := nf_fr hF61 (by decide) hn40
          have hv72 := rv_fr hF61 (by decide) hv41
          have hF73 := fr_tr hF42 hF61 (by decide)
          have bd1 : 0 ≤ x1 ∧ x1 ≤ ((δ 0) - 1) := by obtain ⟨q1, q2, q3⟩ := tkN_inr hc1; cases q3; exact q2
          have kl1 := tKd_le T L mo p1
          refine Wn.run (tab := tb_m_readPerson) rfl 1 (c' := (if ¬ (nI 1) = 0 then 87 else 85, [(1, .int (nI (δ 2))), (0, .ref 114)], [], M62)) (o := []) rfl trivial ?_
          rw [if_pos (show ¬ (nI 1) = 0 by decide)]
          show Wn _ 71 _ (87, [(1, .int (nI (δ 2))), (0, .ref 114)], [], M62)
          refine Wn.run (tab := tb_m_readPerson) rfl 11 (c' := (102, [(2, .int (M62.1 114 18)), (1, .int (nI (δ 2))), (0, .ref 114)], [.int ((M62.1 117 1) - (nI 1)), .int (nI 0), .ref 114], M62)) (o := [shp 114 = (0, 10), shp 114 = (0, 10), aok shp 117 0 (nI 1)]) rfl ⟨rfl, rfl, ⟨rfl, vp_in_nI (by decide) (by decide)⟩⟩ ?_
          rw [show (M62.1 117 1) = (nI (δ 1)) from (rd0 hk68 (by omega))]
          rw [show (M62.1 114 18) = (nI x1) from (fr_eq hg64 (show g63 18 = (nI x1) from hf67))]
          rw [show ((nI (δ 1)) - (nI 1)) = (nI ((δ 1) - 1)) from (n_sub rfl rfl (by omega))]
          cases hc2 : tkN T L mo p1 0 ((δ 1) - 1) with
          | inl f2 =>
            refine Wn.callV (p := 114) (n := 3) (ix := 201) (ci := (10)) (PFm M62 g63 f2.1 f2.2 (some (.int (nI 0)))) [.int (nI 0), .int (nI ((δ 1) - 1))] [] rfl rfl rfl rfl (Nat.le_of_ble_eq_true rfl) (Nat.le_of_ble_eq_true rfl) (c_m_takesE _ M62 g63 T L mo p1 hg64 ht57 0 ((δ 1) - 1) (by omega) (by omega) f2 hc2) ?_
            rintro _ M78 ⟨rfl, h1574, h1675, hx76, hF77⟩
            show Wn _ 71 _ (105, [(2, .int (nI x1)), (1, .int (nI (δ 2))), (0, .ref 114)], [.int (nI 0)], M78)
            obtain ⟨g79, hg80⟩ : ∃ g9, M78.1 114 = g9 := ⟨_, rfl⟩
            have hx81 := hx76
            rw [hg80] at hx81
            have hf82 : g79 15 = nI f2.1 := by rw [← hg80]; exact h1574
            have hf83 : g79 16 = nI f2.2 := by rw [← hg80]; exact h1675
            have hk84 := fr_row hF77 (by decide) hk68
            have h685 := n6_fr hF77 (by decide) h670
            have hn86 := nf_fr hF77 (by decide) hn71
            have hF87 := fr_tr hF73 hF77 (by decide)
            refine Wn.run (tab := tb_m_readPerson) rfl 1 (c' := (if ¬ (nI 0) = 0 then 110 else 108, [(2, .int (nI x1)), (1, .int (nI (δ 2))), (0, .ref 114)], [], M78)) (o := []) rfl trivial ?_
            rw [if_neg (show ¬ (¬ (nI 0) = 0) by decide)]
            show Wn _ 71 _ (108, [(2, .int (nI x1)), (1, .int (nI (δ 2))), (0, .ref 114)], [], M78)
            refine Wn.run (tab := tb_m_readPerson) rfl 1 (c' := (109, [(2, .int (nI x1)), (1, .int (nI (δ 2))), (0, .ref 114)], [.int (nI 0)], M78)) (o := []) rfl trivial ?_
            have e9 : rdPe T L mo p δ ν o ic = .inl f2 := by unfold rdPe; rw [if_neg h1, if_neg (fun q9 => q9 hk3)]; simp only [hb1, hc1, hc2]
            rw [e9]
            exact Wn.zret rfl (Or.inl rfl) ⟨by rw [hg80]; exact (Gx_tr (Gx_tr (Gx_tr (Gx_tr (Gx_rf _ _) (Gx_mono hx8 (by decide))) (Gx_mono hx34 (by decide))) (Gx_mono hx65 (by decide))) (Gx_mono hx81 (by decide))), hF87, h685, rfl, by rw [hg80]; exact hf82, by rw [hg80]; exact hf83⟩
          | inr v2 =>
            obtain ⟨x2, p2⟩ := v2
            refine Wn.callV (p := 114) (n := 3) (ix := 201) (ci := (10)) (PTm M62 g63 T L mo p2 [4, 11, 12, 13, 14, 18] (nI x2) (some (.int (nI 1)))) [.int (nI 0), .int (nI ((δ 1) - 1))] [] rfl rfl rfl rfl (Nat.le_of_ble_eq_true rfl) (Nat.le_of_ble_eq_true rfl) (c_m_takesV _ M62 g63 T L mo p1 hg64 ht57 0 ((δ 1) - 1) (by omega) (by omega) (x2, p2) hc2) ?_
            rintro _ M93 ⟨rfl, ht88, h1889, hx90, hj91, hF92⟩
            show Wn _ 71 _ (105, [(2, .int (nI x1)), (1, .int (nI (δ 2))), (0, .ref 114)], [.int (nI 1)], M93)
            obtain ⟨g94, hg95⟩ : ∃ g9, M93.1 114 = g9 := ⟨_, rfl⟩
            have hx96 := hx90
            rw [hg95] at hx96
            have hf97 : g94 20 = (nI o) := (hx96 20 (by decide)).trans (show g63 20 = (nI o) from hf66)
            have hf98 : g94 18 = nI x2 := by rw [← hg95]; exact h1889
            have hk99 := fr_row hF92 (by decide) hk68
            have hi100 := (hj91 21 (by decide)).trans hi69
            have h6101 := n6_fr hF92 (by decide) h670
            have hn102 := nf_fr hF92 (by decide) hn71
            have hv103 := rv_fr hF92 (by decide) hv72
            have hF104 := fr_tr hF73 hF92 (by decide)
            have bd2 : 0 ≤ x2 ∧ x2 ≤ ((δ 1) - 1) := by obtain ⟨q1, q2, q3⟩ := tkN_inr hc2; cases q3; exact q2
            have kl2 := tKd_le T L mo p2
            refine Wn.run (tab := tb_m_readPerson) rfl 1 (c' := (if ¬ (nI 1) = 0 then 110 else 108, [(2, .int (nI x1)), (1, .int (nI (δ 2))), (0, .ref 114)], [], M93)) (o := []) rfl trivial ?_
            rw [if_pos (show ¬ (nI 1) = 0 by decide)]
            show Wn _ 71 _ (110, [(2, .int (nI x1)), (1, .int (nI (δ 2))), (0, .ref 114)], [], M93)
            refine Wn.run (tab := tb_m_readPerson) rfl 7 (c' := (120, [(3, .int (((nI 8) * (M93.1 114 18)) + (nI x1))), (2, .int (nI x1)), (1, .int (nI (δ 2))), (0, .ref 114)], [], M93)) (o := [shp 114 = (0, 10)]) rfl rfl ?_
            rw [show (M93.1 114 18) = (nI x2) from (fr_eq hg95 (show g94 18 = (nI x2) from hf98))]
            rw [show (((nI 8) * (nI x2)) + (nI x1)) = (nI ((8 * x2) + x1)) from (n_add (n_mul rfl rfl) rfl)]
            cases hcZ : tkN T L mo p2 1 5 with
            | inl fZ =>
              rcases tkN_inl hcZ with ⟨hk1, rfl⟩ | ⟨hk1, hk2, rfl⟩
              · have tv9 : tKd T L mo p2 = 2 → tVl T L p2 < 1000 := fun h => tVl_lt (TkM_T hK) h
                refine Wn.run (tab := tb_m_readPerson) rfl 4 (c' := (if (M93.1 114 11) = (nI 2) then 134 else 128, [(3, .int (nI ((8 * x2) + x1))), (2, .int (nI x1)), (1, .int (nI (δ 2))), (0, .ref 114)], [], M93)) (o := [shp 114 = (0, 10)]) rfl rfl ?_
                rw [if_neg (by rw [ht88.2.2.2.1]; intro q9; have q8 := (nI_eq (by have := tCd_le (tKd T L mo p2); omega) (by omega)).mp q9; have q7 := (tCd_2 (tKd_le _ _ _ _)).mp q8; omega)]
                show Wn _ 71 _ (128, [(3, .int (nI ((8 * x2) + x1))), (2, .int (nI x1)), (1, .int (nI (δ 2))), (0, .ref 114)], [], M93)
                refine Wn.run (tab := tb_m_readPerson) rfl 2 (c' := (130, [(3, .int (nI ((8 * x2) + x1))), (2, .int (nI x1)), (1, .int (nI (δ 2))), (0, .ref 114)], [.int (nI 1), .ref 114], M93)) (o := []) rfl trivial ?_
                refine Wn.callV (p := 114) (n := 2) (ix := 188) (ci := (10)) (PBd M93 g94 (nI 1) (nI (tAt T L mo p2))) [.int (nI 1)] [] rfl rfl rfl rfl (Nat.le_of_ble_eq_true rfl) (Nat.le_of_ble_eq_true rfl) (c_m_bad _ M93 g94 T L mo p2 hg95 ht88 (nI 1)) ?_
                rintro _ M105 ⟨rfl, hg106, hs107, hF108⟩
                show Wn _ 71 _ (133, [(3, .int (nI ((8 * x2) + x1))), (2, .int (nI x1)), (1, .int (nI (δ 2))), (0, .ref 114)], [.int (nI 0)], M105)
                have hk109 := fr_row hF108 (by decide) hk99
                have h6110 := n6_fr hF108 (by decide) h6101
                have hn111 := nf_fr hF108 (by decide) hn102
                have hv112 := rv_fr hF108 (by decide) hv103
                have hF113 := fr_tr hF104 hF108 (by decide)
                have e9 : rdPe T L mo p δ ν o ic = .inl (1, tAt T L mo p2) := by unfold rdPe; rw [if_neg h1, if_neg (fun q9 => q9 hk3)]; simp only [hb1, hc1, hc2, hcZ]
                rw [e9]
                exact Wn.zret rfl (Or.inl rfl) ⟨by rw [hg106]; exact (Gx_up (Gx_up (Gx_tr (Gx_tr (Gx_tr (Gx_tr (Gx_rf _ _) (Gx_mono hx8 (by decide))) (Gx_mono hx34 (by decide))) (Gx_mono hx65 (by decide))) (Gx_mono hx96 (by decide))) (by decide)) (by decide)), hF113, h6110, rfl, by rw [hg106]; exact ((pk_un (by decide)).trans pk_us), by rw [hg106]; exact pk_us⟩
              · have tv9 : tKd T L mo p2 = 2 → tVl T L p2 < 1000 := fun h => tVl_lt (TkM_T hK) h
                refine Wn.run (tab := tb_m_readPerson) rfl 4 (c' := (if (M93.1 114 11) = (nI 2) then 134 else 128, [(3, .int (nI ((8 * x2) + x1))), (2, .int (nI x1)), (1, .int (nI (δ 2))), (0, .ref 114)], [], M93)) (o := [shp 114 = (0, 10)]) rfl rfl ?_
                rw [if_pos (by rw [ht88.2.2.2.1]; exact congrArg nI ((tCd_2 (tKd_le _ _ _ _)).mpr (by omega)))]
                show Wn _ 71 _ (134, [(3, .int (nI ((8 * x2) + x1))), (2, .int (nI x1)), (1, .int (nI (δ 2))), (0, .ref 114)], [], M93)
                refine Wn.run (tab := tb_m_readPerson) rfl 4 (c' := (140, [(3, .int (nI ((8 * x2) + x1))), (2, .int (nI x1)), (1, .int (nI (δ 2))), (0, .ref 114)], [.int (nI 5), .int (nI 1), .int (M93.1 114 14)], M93)) (o := [shp 114 = (0, 10)]) rfl rfl ?_
                rw [show (M93.1 114 14) = (nI (tVl T L p2)) from (ht88.2.2.2.2.2.1 (by omega))]
                refine Wn.callS (n := 3) (ix := 194) (fun r0 M0 => r0 = some (.int (b2 (1 ≤ (tVl T L p2) ∧ (tVl T L p2) ≤ 5))) ∧ M93 = M0) [.int (nI (tVl T L p2)), .int (nI 1), .int (nI 5)] [] rfl rfl rfl (Nat.le_of_ble_eq_true rfl) (Nat.le_of_ble_eq_true rfl) (w_m_isInN _ (tVl T L p2) 1 5 (by omega) (by omega) (by omega) M93 _ ⟨rfl, rfl⟩) ?_
                rintro _ _ ⟨rfl, rfl⟩
                show Wn _ 71 _ (143, [(3, .int (nI ((8 * x2) + x1))), (2, .int (nI x1)), (1, .int (nI (δ 2))), (0, .ref 114)], [.int (b2 (1 ≤ (tVl T L p2) ∧ (tVl T L p2) ≤ 5))], M93)
                refine Wn.run (tab := tb_m_readPerson) rfl 1 (c' := (if ¬ (b2 (1 ≤ (tVl T L p2) ∧ (tVl T L p2) ≤ 5)) = 0 then 152 else 146, [(3, .int (nI ((8 * x2) + x1))), (2, .int (nI x1)), (1, .int (nI (δ 2))), (0, .ref 114)], [], M93)) (o := []) rfl trivial ?_
                rw [if_neg (fun h9 => h9 (b2_e0.mpr (by omega)))]
                show Wn _ 71 _ (146, [(3, .int (nI ((8 * x2) + x1))), (2, .int (nI x1)), (1, .int (nI (δ 2))), (0, .ref 114)], [], M93)
                refine Wn.run (tab := tb_m_readPerson) rfl 2 (c' := (148, [(3, .int (nI ((8 * x2) + x1))), (2, .int (nI x1)), (1, .int (nI (δ 2))), (0, .ref 114)], [.int (nI 2), .ref 114], M93)) (o := []) rfl trivial ?_
                refine Wn.callV (p := 114) (n := 2) (ix := 188) (ci := (10)) (PBd M93 g94 (nI 2) (nI (tAt T L mo p2))) [.int (nI 2)] [] rfl rfl rfl rfl (Nat.le_of_ble_eq_true rfl) (Nat.le_of_ble_eq_true rfl) (c_m_bad _ M93 g94 T L mo p2 hg95 ht88 (nI 2)) ?_
                rintro _ M114 ⟨rfl, hg115, hs116, hF117⟩
                show Wn _ 71 _ (151, [(3, .int (nI ((8 * x2) + x1))), (2, .int (nI x1)), (1, .int (nI (δ 2))), (0, .ref 114)], [.int (nI 0)], M114)
                have hk118 := fr_row hF117 (by decide) hk99
                have h6119 := n6_fr hF117 (by decide) h6101
                have hn120 := nf_fr hF117 (by decide) hn102
                have hv121 := rv_fr hF117 (by decide) hv103
                have hF122 := fr_tr hF104 hF117 (by decide)
                have e9 : rdPe T L mo p δ ν o ic = .inl (2, tAt T L mo p2) := by unfold rdPe; rw [if_neg h1, if_neg (fun q9 => q9 hk3)]; simp only [hb1, hc1, hc2, hcZ]
                rw [e9]
                exact Wn.zret rfl (Or.inl rfl) ⟨by rw [hg115]; exact (Gx_up (Gx_up (Gx_tr (Gx_tr (Gx_tr (Gx_tr (Gx_rf _ _) (Gx_mono hx8 (by decide))) (Gx_mono hx34 (by decide))) (Gx_mono hx65 (by decide))) (Gx_mono hx96 (by decide))) (by decide)) (by decide)), hF122, h6119, rfl, by rw [hg115]; exact ((pk_un (by decide)).trans pk_us), by rw [hg115]; exact pk_us⟩
            | inr vZ =>
              obtain ⟨hk1, hk2, rfl⟩ := tkN_inr hcZ
              refine Wn.run (tab := tb_m_readPerson) rfl 4 (c' := (if (M93.1 114 11) = (nI 2) then 134 else 128, [(3, .int (nI ((8 * x2) + x1))), (2, .int (nI x1)), (1, .int (nI (δ 2))), (0, .ref 114)], [], M93)) (o := [shp 114 = (0, 10)]) rfl rfl ?_
              rw [if_pos (by rw [ht88.2.2.2.1]; exact congrArg nI ((tCd_2 (tKd_le _ _ _ _)).mpr (by omega)))]
              show Wn _ 71 _ (134, [(3, .int (nI ((8 * x2) + x1))), (2, .int (nI x1)), (1, .int (nI (δ 2))), (0, .ref 114)], [], M93)
              refine Wn.run (tab := tb_m_readPerson) rfl 4 (c' := (140, [(3, .int (nI ((8 * x2) + x1))), (2, .int (nI x1)), (1, .int (nI (δ 2))), (0, .ref 114)], [.int (nI 5), .int (nI 1), .int (M93.1 114 14)], M93)) (o := [shp 114 = (0, 10)]) rfl rfl ?_
              rw [show (M93.1 114 14) = (nI (tVl T L p2)) from (ht88.2.2.2.2.2.1 (by omega))]
              refine Wn.callS (n := 3) (ix := 194) (fun r0 M0 => r0 = some (.int (b2 (1 ≤ (tVl T L p2) ∧ (tVl T L p2) ≤ 5))) ∧ M93 = M0) [.int (nI (tVl T L p2)), .int (nI 1), .int (nI 5)] [] rfl rfl rfl (Nat.le_of_ble_eq_true rfl) (Nat.le_of_ble_eq_true rfl) (w_m_isInN _ (tVl T L p2) 1 5 (by omega) (by omega) (by omega) M93 _ ⟨rfl, rfl⟩) ?_
              rintro _ _ ⟨rfl, rfl⟩
              show Wn _ 71 _ (143, [(3, .int (nI ((8 * x2) + x1))), (2, .int (nI x1)), (1, .int (nI (δ 2))), (0, .ref 114)], [.int (b2 (1 ≤ (tVl T L p2) ∧ (tVl T L p2) ≤ 5))], M93)
              refine Wn.run (tab := tb_m_readPerson) rfl 1 (c' := (if ¬ (b2 (1 ≤ (tVl T L p2) ∧ (tVl T L p2) ≤ 5)) = 0 then 152 else 146, [(3, .int (nI ((8 * x2) + x1))), (2, .int (nI x1)), (1, .int (nI (δ 2))), (0, .ref 114)], [], M93)) (o := []) rfl trivial ?_
              rw [if_pos (b2_n0.mpr (by omega))]
              show Wn _ 71 _ (152, [(3, .int (nI ((8 * x2) + x1))), (2, .int (nI x1)), (1, .int (nI (δ 2))), (0, .ref 114)], [], M93)
              refine Wn.run (tab := tb_m_readPerson) rfl 5 (c' := (161, [(5, .int (nI 0)), (4, .int (M93.1 114 14)), (3, .int (nI ((8 * x2) + x1))), (2, .int (nI x1)), (1, .int (nI (δ 2))), (0, .ref 114)], [], M93)) (o := [shp 114 = (0, 10)]) rfl rfl ?_
              rw [show (M93.1 114 14) = (nI (tVl T L p2)) from (ht88.2.2.2.2.2.1 (by omega))]
              have cb : (8 * x2 + x1) < 64 := by omega
              have bc9 := bc (8 * x2 + x1) cb
              rw [show (nI (tVl T L p2)) = (nI (tVl T L p2 + dlN δ (8 * x2 + x1) 0)) from rfl]
              show Wn _ 71 _ (161, [(5, .int (nI 0)), (4, .int (nI (tVl T L p2 + dlN δ (8 * x2 + x1) 0))), (3, .int (nI ((8 * x2) + x1))), (2, .int (nI x1)), (1, .int (nI (δ 2))), (0, .ref 114)], [], M93)
              have loop : ∀ (m i : Nat), δ 2 - i = m → i ≤ δ 2 → Wn (d + 4) 71 (PRm M g T L mo (rdPe T L mo p δ ν o ic)) (161, [(5, .int (nI i)), (4, .int (nI (tVl T L p2 + dlN δ (8 * x2 + x1) i))), (3, .int (nI ((8 * x2) + x1))), (2, .int (nI x1)), (1, .int (nI (δ 2))), (0, .ref 114)], [], M93) := by
                intro m
                induction m using Nat.strongRecOn with
                | _ m ih =>
                  intro i hm hq
                  have dl8 := dlN_le bq (8 * x2 + x1) i (by omega)
                  have bq9 : i < δ 2 → δ (72 + i) < 64 ∧ δ (78 + i) ≤ 5 := fun h => ⟨(bq i h).1, (bq i h).2.2.1⟩
                  refine Wn.run (tab := tb_m_readPerson) rfl 3 (c' := (if (nI (δ 2)) ≤ (nI i) then 206 else 167, [(5, .int (nI i)), (4, .int (nI (tVl T L p2 + dlN δ (8 * x2 + x1) i))), (3, .int (nI ((8 * x2) + x1))), (2, .int (nI x1)), (1, .int (nI (δ 2))), (0, .ref 114)], [], M93)) (o := []) rfl trivial ?_
                  refine Wn.br (fun h2 => ?_) (fun h2 => ?_)
                  · show Wn _ 71 _ (206, [(5, .int (nI i)), (4, .int (nI (tVl T L p2 + dlN δ (8 * x2 + x1) i))), (3, .int (nI ((8 * x2) + x1))), (2, .int (nI x1)), (1, .int (nI (δ 2))), (0, .ref 114)], [], M93)
                    have h2 := (n_le rfl rfl (by omega) (by omega)).mp h2
                    have e8 : i = δ 2 := by omega
                    rw [e8]
                    have dl9 := dlN_le bq (8 * x2 + x1) (δ 2) (Nat.le_refl _)
                    refine Wn.run (tab := tb_m_readPerson) rfl 8 (c' := (if (nI (tVl T L p2 + dlN δ (8 * x2 + x1) (δ 2))) ≤ (M93.1 117 (((nI 8) + (nI ((8 * x2) + x1)))).toNatClampNeg) then 226 else 220, [(5, .int (nI (δ 2))), (4, .int (nI (tVl T L p2 + dlN δ (8 * x2 + x1) (δ 2)))), (3, .int (nI ((8 * x2) + x1))), (2, .int (nI x1)), (1, .int (nI (δ 2))), (0, .ref 114)], [], M93)) (o := [shp 114 = (0, 10), aok shp 117 0 ((nI 8) + (nI ((8 * x2) + x1)))]) rfl ⟨rfl, (ak1 (n := 90) rfl rfl (n_add rfl rfl) (by omega))⟩ ?_
                    refine Wn.br (fun h3 => ?_) (fun h3 => ?_)
                    · show Wn _ 71 _ (226, [(5, .int (nI (δ 2))), (4, .int (nI (tVl T L p2 + dlN δ (8 * x2 + x1) (δ 2)))), (3, .int (nI ((8 * x2) + x1))), (2, .int (nI x1)), (1, .int (nI (δ 2))), (0, .ref 114)], [], M93)
                      have h3 := (n_le rfl (rd1 hk99 (n_add rfl rfl) (by omega) (by omega)) (by omega) (by omega)).mp h3
                      refine Wn.run (tab := tb_m_readPerson) rfl 7 (c' := (236, [(5, .int (nI (δ 2))), (4, .int (nI (tVl T L p2 + dlN δ (8 * x2 + x1) (δ 2)))), (3, .int (nI ((8 * x2) + x1))), (2, .int (nI x1)), (1, .int (nI (δ 2))), (0, .ref 114)], [], (mI M93 117 (upd (M93.1 117) (((nI 72) + (nI (δ 2)))).toNatClampNeg (nI ((8 * x2) + x1)))))) (o := [shp 114 = (0, 10), aok shp 117 0 ((nI 72) + (nI (δ 2)))]) rfl ⟨rfl, (ak1 (n := 90) rfl rfl (n_add rfl rfl) (by omega))⟩ ?_
                      generalize hM124 : (mI M93 117 (upd (M93.1 117) (((nI 72) + (nI (δ 2)))).toNatClampNeg (nI ((8 * x2) + x1)))) = M123
                      have ht125 := TkM_fr (fr_1I hM124) (by decide) ht88
                      have hk126 := fI_ne hM124 (by decide) hg95
                      have hk127 : ∀ k, k < 90 → M123.1 117 k = nI ((su δ (72 + (δ 2)) ((8 * x2) + x1)) k) := row_up hM124 hk99 (cl1 (n_add rfl rfl) (by omega)) rfl
                      have hi128 := jc_oI hM124 hi100
                      have h6129 := n6_fr (fr_1I hM124) (by decide) h6101
                      have hn130 := nf_fr (fr_1I hM124) (by decide) hn102
                      have hv131 := rv_fr (fr_1I hM124) (by decide) hv103
                      have hF132 := fr_sI hF104 hM124 (by decide)
                      show Wn _ 71 _ (236, [(5, .int (nI (δ 2))), (4, .int (nI (tVl T L p2 + dlN δ (8 * x2 + x1) (δ 2)))), (3, .int (nI ((8 * x2) + x1))), (2, .int (nI x1)), (1, .int (nI (δ 2))), (0, .ref 114)], [], M123)
                      refine Wn.run (tab := tb_m_readPerson) rfl 8 (c' := (249, [(5, .int (nI (δ 2))), (4, .int (nI (tVl T L p2 + dlN δ (8 * x2 + x1) (δ 2)))), (3, .int (nI ((8 * x2) + x1))), (2, .int (nI x1)), (1, .int (nI (δ 2))), (0, .ref 114)], [], (mI M123 117 (upd (M123.1 117) (((nI 78) + (nI (δ 2)))).toNatClampNeg (M123.1 114 14))))) (o := [shp 114 = (0, 10), shp 114 = (0, 10), aok shp 117 0 ((nI 78) + (nI (δ 2)))]) rfl ⟨rfl, rfl, (ak1 (n := 90) rfl rfl (n_add rfl rfl) (by omega))⟩ ?_
                      rw [show (M123.1 114 14) = (nI (tVl T L p2)) from (ht125.2.2.2.2.2.1 (by omega))]
                      generalize hM134 : (mI M123 117 (upd (M123.1 117) (((nI 78) + (nI (δ 2)))).toNatClampNeg (nI (tVl T L p2)))) = M133
                      have ht135 := TkM_fr (fr_1I hM134) (by decide) ht125
                      have hk136 := fI_ne hM134 (by decide) hk126
                      have hk137 : ∀ k, k < 90 → M133.1 117 k = nI ((su (su δ (72 + (δ 2)) ((8 * x2) + x1)) (78 + (δ 2)) (tVl T L p2)) k) := row_up hM134 hk127 (cl1 (n_add rfl rfl) (by omega)) rfl
                      have hi138 := jc_oI hM134 hi128
                      have h6139 := n6_fr (fr_1I hM134) (by decide) h6129
                      have hn140 := nf_fr (fr_1I hM134) (by decide) hn130
                      have hv141 := rv_fr (fr_1I hM134) (by decide) hv131
                      have hF142 := fr_sI hF132 hM134 (by decide)
                      show Wn _ 71 _ (249, [(5, .int (nI (δ 2))), (4, .int (nI (tVl T L p2 + dlN δ (8 * x2 + x1) (δ 2)))), (3, .int (nI ((8 * x2) + x1))), (2, .int (nI x1)), (1, .int (nI (δ 2))), (0, .ref 114)], [], M133)
                      refine Wn.run (tab := tb_m_readPerson) rfl 1 (c' := (250, [(5, .int (nI (δ 2))), (4, .int (nI (tVl T L p2 + dlN δ (8 * x2 + x1) (δ 2)))), (3, .int (nI ((8 * x2) + x1))), (2, .int (nI x1)), (1, .int (nI (δ 2))), (0, .ref 114)], [.ref 114], M133)) (o := []) rfl trivial ?_
                      refine Wn.callV (p := 114) (n := 1) (ix := 191) (ci := (10)) (PNx M133 g94 T L mo (tNx T L p2)) [] [] rfl rfl rfl rfl (Nat.le_of_ble_eq_true rfl) (Nat.le_of_ble_eq_true rfl) (c_m_nx _ M133 g94 T L mo p2 hk136 ht135 (by omega) (by omega)) ?_
                      rintro _ M143 ⟨rfl, ht144, hx145, hj146, hF147⟩
                      show Wn _ 71 _ (253, [(5, .int (nI (δ 2))), (4, .int (nI (tVl T L p2 + dlN δ (8 * x2 + x1) (δ 2)))), (3, .int (nI ((8 * x2) + x1))), (2, .int (nI x1)), (1, .int (nI (δ 2))), (0, .ref 114)], [], M143)
                      obtain ⟨g148, hg149⟩ : ∃ g9, M143.1 114 = g9 := ⟨_, rfl⟩
                      have hx150 := hx145
                      rw [hg149] at hx150
                      have hf151 : g148 20 = (nI o) := (hx150 20 (by decide)).trans (show g94 20 = (nI o) from hf97)
                      have hf152 : g148 18 = (nI x2) := (hx150 18 (by decide)).trans (show g94 18 = (nI x2) from hf98)
                      have hk153 := fr_row hF147 (by decide) hk137
                      have hi154 := (hj146 21 (by decide)).trans hi138
                      have h6155 := n6_fr hF147 (by decide) h6139
                      have hn156 := nf_fr hF147 (by decide) hn140
                      have hv157 := rv_fr hF147 (by decide) hv141
                      have hF158 := fr_tr hF142 hF147 (by decide)
                      refine Wn.run (tab := tb_m_readPerson) rfl 6 (c' := (261, [(5, .int (nI (δ 2))), (4, .int (nI (tVl T L p2 + dlN δ (8 * x2 + x1) (δ 2)))), (3, .int (nI ((8 * x2) + x1))), (2, .int (nI x1)), (1, .int (nI (δ 2))), (0, .ref 114)], [.int (nI 8), .int (nI 0), .int ((nI 84) + (nI (δ 2))), .ref 114], M143)) (o := []) rfl trivial ?_
                      rw [show ((nI 84) + (nI (δ 2))) = (nI (84 + (δ 2))) from (n_add rfl rfl)]
                      cases hc3 : tkN T L mo (tNx T L p2) 0 8 with
                      | inl f3 =>
                        refine Wn.callV (p := 114) (n := 4) (ix := 235) (ci := (10)) (PFm M143 g148 f3.1 f3.2 (some (.int (nI 0)))) [.int (nI (84 + (δ 2))), .int (nI 0), .int (nI 8)] [] rfl rfl rfl rfl (Nat.le_of_ble_eq_true rfl) (Nat.le_of_ble_eq_true rfl) (c_m_putsE _ M143 g148 T L mo (tNx T L p2) hg149 ht144 (su (su δ (72 + (δ 2)) ((8 * x2) + x1)) (78 + (δ 2)) (tVl T L p2)) hk153 (84 + (δ 2)) 0 8 (by omega) (by omega) (by omega) f3 hc3) ?_
                        rintro _ M163 ⟨rfl, h15159, h16160, hx161, hF162⟩
                        show Wn _ 71 _ (264, [(5, .int (nI (δ 2))), (4, .int (nI (tVl T L p2 + dlN δ (8 * x2 + x1) (δ 2)))), (3, .int (nI ((8 * x2) + x1))), (2, .int (nI x1)), (1, .int (nI (δ 2))), (0, .ref 114)], [.int (nI 0)], M163)
                        obtain ⟨g164, hg165⟩ : ∃ g9, M163.1 114 = g9 := ⟨_, rfl⟩
                        have hx166 := hx161
                        rw [hg165] at hx166
                        have hf167 : g164 15 = nI f3.1 := by rw [← hg165]; exact h15159
                        have hf168 : g164 16 = nI f3.2 := by rw [← hg165]; exact h16160
                        have hk169 := fr_row hF162 (by decide) hk153
                        have h6170 := n6_fr hF162 (by decide) h6155
                        have hn171 := nf_fr hF162 (by decide) hn156
                        have hF172 := fr_tr hF158 hF162 (by decide)
                        refine Wn.run (tab := tb_m_readPerson) rfl 1 (c' := (if ¬ (nI 0) = 0 then 269 else 267, [(5, .int (nI (δ 2))), (4, .int (nI (tVl T L p2 + dlN δ (8 * x2 + x1) (δ 2)))), (3, .int (nI ((8 * x2) + x1))), (2, .int (nI x1)), (1, .int (nI (δ 2))), (0, .ref 114)], [], M163)) (o := []) rfl trivial ?_
                        rw [if_neg (show ¬ (¬ (nI 0) = 0) by decide)]
                        show Wn _ 71 _ (267, [(5, .int (nI (δ 2))), (4, .int (nI (tVl T L p2 + dlN δ (8 * x2 + x1) (δ 2)))), (3, .int (nI ((8 * x2) + x1))), (2, .int (nI x1)), (1, .int (nI (δ 2))), (0, .ref 114)], [], M163)
                        refine Wn.run (tab := tb_m_readPerson) rfl 1 (c' := (268, [(5, .int (nI (δ 2))), (4, .int (nI (tVl T L p2 + dlN δ (8 * x2 + x1) (δ 2)))), (3, .int (nI ((8 * x2) + x1))), (2, .int (nI x1)), (1, .int (nI (δ 2))), (0, .ref 114)], [.int (nI 0)], M163)) (o := []) rfl trivial ?_
                        have e9 : rdPe T L mo p δ ν o ic = .inl f3 := by unfold rdPe; rw [if_neg h1, if_neg (fun q9 => q9 hk3)]; simp only [hb1, hc1, hc2, hcZ]; rw [if_neg (by omega)]; simp only [hc3]
                        rw [e9]
                        exact Wn.zret rfl (Or.inl rfl) ⟨by rw [hg165]; exact (Gx_tr (Gx_tr (Gx_tr (Gx_tr (Gx_tr (Gx_tr (Gx_rf _ _) (Gx_mono hx8 (by decide))) (Gx_mono hx34 (by decide))) (Gx_mono hx65 (by decide))) (Gx_mono hx96 (by decide))) (Gx_mono hx150 (by decide))) (Gx_mono hx166 (by decide))), hF172, h6170, rfl, by rw [hg165]; exact hf167, by rw [hg165]; exact hf168⟩
                      | inr v3 =>
                        obtain ⟨x3, p3⟩ := v3
                        refine Wn.callV (p := 114) (n := 4) (ix := 235) (ci := (10)) (PPt M143 g148 T L mo p3 (su (su (su δ (72 + (δ 2)) ((8 * x2) + x1)) (78 + (δ 2)) (tVl T L p2)) (84 + (δ 2)) x3)) [.int (nI (84 + (δ 2))), .int (nI 0), .int (nI 8)] [] rfl rfl rfl rfl (Nat.le_of_ble_eq_true rfl) (Nat.le_of_ble_eq_true rfl) (c_m_putsV _ M143 g148 T L mo (tNx T L p2) hg149 ht144 (su (su δ (72 + (δ 2)) ((8 * x2) + x1)) (78 + (δ 2)) (tVl T L p2)) hk153 (84 + (δ 2)) 0 8 (by omega) (by omega) (by omega) x3 p3 hc3) ?_
                        rintro _ M178 ⟨rfl, ht173, hr174, hx175, hj176, hF177⟩
                        show Wn _ 71 _ (264, [(5, .int (nI (δ 2))), (4, .int (nI (tVl T L p2 + dlN δ (8 * x2 + x1) (δ 2)))), (3, .int (nI ((8 * x2) + x1))), (2, .int (nI x1)), (1, .int (nI (δ 2))), (0, .ref 114)], [.int (nI 1)], M178)
                        obtain ⟨g179, hg180⟩ : ∃ g9, M178.1 114 = g9 := ⟨_, rfl⟩
                        have hx181 := hx175
                        rw [hg180] at hx181
                        have hf182 : g179 20 = (nI o) := (hx181 20 (by decide)).trans (show g148 20 = (nI o) from hf151)
                        have hi183 := (hj176 21 (by decide)).trans hi154
                        have h6184 := n6_fr hF177 (by decide) h6155
                        have hn185 := nf_fr hF177 (by decide) hn156
                        have hv186 := rv_fr hF177 (by decide) hv157
                        have hF187 := fr_tr hF158 hF177 (by decide)
                        have bd3 : 0 ≤ x3 ∧ x3 ≤ 8 := by obtain ⟨q1, q2, q3⟩ := tkN_inr hc3; cases q3; exact q2
                        have kl3 := tKd_le T L mo p3
                        refine Wn.run (tab := tb_m_readPerson) rfl 1 (c' := (if ¬ (nI 1) = 0 then 269 else 267, [(5, .int (nI (δ 2))), (4, .int (nI (tVl T L p2 + dlN δ (8 * x2 + x1) (δ 2)))), (3, .int (nI ((8 * x2) + x1))), (2, .int (nI x1)), (1, .int (nI (δ 2))), (0, .ref 114)], [], M178)) (o := []) rfl trivial ?_
                        rw [if_pos (show ¬ (nI 1) = 0 by decide)]
                        show Wn _ 71 _ (269, [(5, .int (nI (δ 2))), (4, .int (nI (tVl T L p2 + dlN δ (8 * x2 + x1) (δ 2)))), (3, .int (nI ((8 * x2) + x1))), (2, .int (nI x1)), (1, .int (nI (δ 2))), (0, .ref 114)], [], M178)
                        refine Wn.run (tab := tb_m_readPerson) rfl 8 (c' := (279, [(5, .int (nI (δ 2))), (4, .int (nI (tVl T L p2 + dlN δ (8 * x2 + x1) (δ 2)))), (3, .int (nI ((8 * x2) + x1))), (2, .int (nI x1)), (1, .int (nI (δ 2))), (0, .ref 114)], [], (mI M178 117 (upd (M178.1 117) 2 ((M178.1 117 2) + (nI 1)))))) (o := [shp 114 = (0, 10), aok shp 117 0 (nI 2), aok shp 117 0 (nI 2)]) rfl ⟨rfl, ⟨rfl, vp_in_nI (by decide) (by decide)⟩, ⟨rfl, vp_in_nI (by decide) (by decide)⟩⟩ ?_
                        rw [show (M178.1 117 2) = (nI (δ 2)) from (r_ne (r_ne (r_ne (rd0 hr174 (by omega)) (by omega)) (by omega)) (by omega))]
                        rw [show ((nI (δ 2)) + (nI 1)) = (nI ((δ 2) + 1)) from (n_add rfl rfl)]
                        generalize hM189 : (mI M178 117 (upd (M178.1 117) 2 (nI ((δ 2) + 1)))) = M188
                        have ht190 := TkM_fr (fr_1I hM189) (by decide) ht173
                        have hk191 := fI_ne hM189 (by decide) hg180
                        have hk192 : ∀ k, k < 90 → M188.1 117 k = nI ((su (su (su (su δ (72 + (δ 2)) ((8 * x2) + x1)) (78 + (δ 2)) (tVl T L p2)) (84 + (δ 2)) x3) 2 ((δ 2) + 1)) k) := row_up hM189 hr174 rfl rfl
                        have hi193 := jc_oI hM189 hi183
                        have h6194 := n6_fr (fr_1I hM189) (by decide) h6184
                        have hn195 := nf_fr (fr_1I hM189) (by decide) hn185
                        have hv196 := rv_fr (fr_1I hM189) (by decide) hv186
                        have hF197 := fr_sI hF187 hM189 (by decide)
                        show Wn _ 71 _ (279, [(5, .int (nI (δ 2))), (4, .int (nI (tVl T L p2 + dlN δ (8 * x2 + x1) (δ 2)))), (3, .int (nI ((8 * x2) + x1))), (2, .int (nI x1)), (1, .int (nI (δ 2))), (0, .ref 114)], [], M188)
                        refine Wn.run (tab := tb_m_readPerson) rfl 1 (c' := (280, [(5, .int (nI (δ 2))), (4, .int (nI (tVl T L p2 + dlN δ (8 * x2 + x1) (δ 2)))), (3, .int (nI ((8 * x2) + x1))), (2, .int (nI x1)), (1, .int (nI (δ 2))), (0, .ref 114)], [.int (nI 1)], M188)) (o := []) rfl trivial ?_
                        have e9 : rdPe T L mo p δ ν o ic = .inr (p3, (su (su (su (su δ (72 + (δ 2)) ((8 * x2) + x1)) (78 + (δ 2)) (tVl T L p2)) (84 + (δ 2)) x3) 2 ((δ 2) + 1)), (vp_updL ν (δ 2) (tNm T L (tNx T L p))), o, ic) := by unfold rdPe; rw [if_neg h1, if_neg (fun q9 => q9 hk3)]; simp only [hb1, hc1, hc2, hcZ]; rw [if_neg (by omega)]; simp only [hc3]
                        rw [e9]
                        exact Wn.zret rfl (Or.inr rfl) ⟨by rw [hk191]; exact (Gx_tr (Gx_tr (Gx_tr (Gx_tr (Gx_tr (Gx_tr (Gx_rf _ _) (Gx_mono hx8 (by decide))) (Gx_mono hx34 (by decide))) (Gx_mono hx65 (by decide))) (Gx_mono hx96 (by decide))) (Gx_mono hx150 (by decide))) (Gx_mono hx181 (by decide))), hF197, h6194, rfl, ht190, hk192, fun q hq => hn195 q (by have hq2 : q < (su (su (su (su δ (72 + (δ 2)) ((8 * x2) + x1)) (78 + (δ 2)) (tVl T L p2)) (84 + (δ 2)) x3) 2 ((δ 2) + 1)) 2 := hq; rw [su_eq rfl] at hq2; exact hq2), by rw [hk191]; exact hf182, hi193⟩
                    · show Wn _ 71 _ (220, [(5, .int (nI (δ 2))), (4, .int (nI (tVl T L p2 + dlN δ (8 * x2 + x1) (δ 2)))), (3, .int (nI ((8 * x2) + x1))), (2, .int (nI x1)), (1, .int (nI (δ 2))), (0, .ref 114)], [], M93)
                      have h3 := mt (n_le rfl (rd1 hk99 (n_add rfl rfl) (by omega) (by omega)) (by omega) (by omega)).mpr h3
                      refine Wn.run (tab := tb_m_readPerson) rfl 2 (c' := (222, [(5, .int (nI (δ 2))), (4, .int (nI (tVl T L p2 + dlN δ (8 * x2 + x1) (δ 2)))), (3, .int (nI ((8 * x2) + x1))), (2, .int (nI x1)), (1, .int (nI (δ 2))), (0, .ref 114)], [.int (nI 3), .ref 114], M93)) (o := []) rfl trivial ?_
                      refine Wn.callV (p := 114) (n := 2) (ix := 188) (ci := (10)) (PBd M93 g94 (nI 3) (nI (tAt T L mo p2))) [.int (nI 3)] [] rfl rfl rfl rfl (Nat.le_of_ble_eq_true rfl) (Nat.le_of_ble_eq_true rfl) (c_m_bad _ M93 g94 T L mo p2 hg95 ht88 (nI 3)) ?_
                      rintro _ M198 ⟨rfl, hg199, hs200, hF201⟩
                      show Wn _ 71 _ (225, [(5, .int (nI (δ 2))), (4, .int (nI (tVl T L p2 + dlN δ (8 * x2 + x1) (δ 2)))), (3, .int (nI ((8 * x2) + x1))), (2, .int (nI x1)), (1, .int (nI (δ 2))), (0, .ref 114)], [.int (nI 0)], M198)
                      have hk202 := fr_row hF201 (by decide) hk99
                      have h6203 := n6_fr hF201 (by decide) h6101
                      have hn204 := nf_fr hF201 (by decide) hn102
                      have hv205 := rv_fr hF201 (by decide) hv103
                      have hF206 := fr_tr hF104 hF201 (by decide)
                      have e9 : rdPe T L mo p δ ν o ic = .inl (3, tAt T L mo p2) := by unfold rdPe; rw [if_neg h1, if_neg (fun q9 => q9 hk3)]; simp only [hb1, hc1, hc2, hcZ]; rw [if_pos (by omega)]
                      rw [e9]
                      exact Wn.zret rfl (Or.inl rfl) ⟨by rw [hg199]; exact (Gx_up (Gx_up (Gx_tr (Gx_tr (Gx_tr (Gx_tr (Gx_rf _ _) (Gx_mono hx8 (by decide))) (Gx_mono hx34 (by decide))) (Gx_mono hx65 (by decide))) (Gx_mono hx96 (by decide))) (by decide)) (by decide)), hF206, h6203, rfl, by rw [hg199]; exact ((pk_un (by decide)).trans pk_us), by rw [hg199]; exact pk_us⟩
                  · show Wn _ 71 _ (167, [(5, .int (nI i)), (4, .int (nI (tVl T L p2 + dlN δ (8 * x2 + x1) i))), (3, .int (nI ((8 * x2) + x1))), (2, .int (nI x1)), (1, .int (nI (δ 2))), (0, .ref 114)], [], M93)
                    have h2 := mt (n_le rfl rfl (by omega) (by omega)).mpr h2
                    refine Wn.run (tab := tb_m_readPerson) rfl 9 (c' := (if ¬ (M93.1 117 (((nI 72) + (nI i))).toNatClampNeg) = (nI ((8 * x2) + x1)) then 196 else 183, [(5, .int (nI i)), (4, .int (nI (tVl T L p2 + dlN δ (8 * x2 + x1) i))), (3, .int (nI ((8 * x2) + x1))), (2, .int (nI x1)), (1, .int (nI (δ 2))), (0, .ref 114)], [.int (nI (tVl T L p2 + dlN δ (8 * x2 + x1) i))], M93)) (o := [shp 114 = (0, 10), aok shp 117 0 ((nI 72) + (nI i))]) rfl ⟨rfl, (ak1 (n := 90) rfl rfl (n_add rfl rfl) (by omega))⟩ ?_
                    refine Wn.br (fun h4 => ?_) (fun h4 => ?_)
                    · show Wn _ 71 _ (196, [(5, .int (nI i)), (4, .int (nI (tVl T L p2 + dlN δ (8 * x2 + x1) i))), (3, .int (nI ((8 * x2) + x1))), (2, .int (nI x1)), (1, .int (nI (δ 2))), (0, .ref 114)], [.int (nI (tVl T L p2 + dlN δ (8 * x2 + x1) i))], M93)
                      have h4 := mt (n_eq (rd1 hk99 (n_add rfl rfl) (by omega) (by omega)) rfl (by omega) (by omega)).mpr h4
                      refine Wn.run (tab := tb_m_readPerson) rfl 5 (c' := (161, [(5, .int ((nI i) + (nI 1))), (4, .int ((nI (tVl T L p2 + dlN δ (8 * x2 + x1) i)) + (nI 0))), (3, .int (nI ((8 * x2) + x1))), (2, .int (nI x1)), (1, .int (nI (δ 2))), (0, .ref 114)], [], M93)) (o := []) rfl trivial ?_
                      rw [show ((nI (tVl T L p2 + dlN δ (8 * x2 + x1) i)) + (nI 0)) = (nI ((tVl T L p2 + dlN δ (8 * x2 + x1) i) + 0)) from (n_add rfl rfl)]
                      rw [show ((nI i) + (nI 1)) = (nI (i + 1)) from (n_add rfl rfl)]
                      rw [show (nI ((tVl T L p2 + dlN δ (8 * x2 + x1) i) + 0)) = (nI (tVl T L p2 + dlN δ (8 * x2 + x1) (i + 1))) from (by rw [show dlN δ (8 * x2 + x1) (i + 1) = dlN δ (8 * x2 + x1) i + 0 from by show dlN δ (8 * x2 + x1) i + (if δ (72 + i) = (8 * x2 + x1) then δ (78 + i) else 0) = _; rw [if_neg h4]]; rfl)]
                      exact ih (δ 2 - (i + 1)) (by omega) (i + 1) rfl (by omega)
                    · show Wn _ 71 _ (183, [(5, .int (nI i)), (4, .int (nI (tVl T L p2 + dlN δ (8 * x2 + x1) i))), (3, .int (nI ((8 * x2) + x1))), (2, .int (nI x1)), (1, .int (nI (δ 2))), (0, .ref 114)], [.int (nI (tVl T L p2 + dlN δ (8 * x2 + x1) i))], M93)
                      have h4 := (n_eq (rd1 hk99 (n_add rfl rfl) (by omega) (by omega)) rfl (by omega) (by omega)).mp (Classical.not_not.mp h4)
                      refine Wn.run (tab := tb_m_readPerson) rfl 11 (c' := (161, [(5, .int ((nI i) + (nI 1))), (4, .int ((nI (tVl T L p2 + dlN δ (8 * x2 + x1) i)) + (M93.1 117 (((nI 78) + (nI i))).toNatClampNeg))), (3, .int (nI ((8 * x2) + x1))), (2, .int (nI x1)), (1, .int (nI (δ 2))), (0, .ref 114)], [], M93)) (o := [shp 114 = (0, 10), aok shp 117 0 ((nI 78) + (nI i))]) rfl ⟨rfl, (ak1 (n := 90) rfl rfl (n_add rfl rfl) (by omega))⟩ ?_
                      rw [show (M93.1 117 (((nI 78) + (nI i))).toNatClampNeg) = (nI (δ (78 + i))) from (rd1 hk99 (n_add rfl rfl) (by omega) (by omega))]
                      rw [show ((nI (tVl T L p2 + dlN δ (8 * x2 + x1) i)) + (nI (δ (78 + i)))) = (nI ((tVl T L p2 + dlN δ (8 * x2 + x1) i) + (δ (78 + i)))) from (n_add rfl rfl)]
                      rw [show ((nI i) + (nI 1)) = (nI (i + 1)) from (n_add rfl rfl)]
                      rw [show (nI ((tVl T L p2 + dlN δ (8 * x2 + x1) i) + (δ (78 + i)))) = (nI (tVl T L p2 + dlN δ (8 * x2 + x1) (i + 1))) from (by rw [show dlN δ (8 * x2 + x1) (i + 1) = dlN δ (8 * x2 + x1) i + δ (78 + i) from by show dlN δ (8 * x2 + x1) i + (if δ (72 + i) = (8 * x2 + x1) then δ (78 + i) else 0) = _; rw [if_pos h4]]; rw [Nat.add_assoc])]
                      exact ih (δ 2 - (i + 1)) (by omega) (i + 1) rfl (by omega)
              exact loop (δ 2 - 0) 0 rfl (by omega)
      | some k1 =>
        have hk1 : k1 < 6 := by have q9 := til_lt _ _ _ hb1; omega
        show Wn _ 71 _ (43, [(1, .int (nI (δ 2))), (0, .ref 114)], [.int (nI k1)], M1)
        refine Wn.run (tab := tb_m_readPerson) rfl 1 (c' := (if (nI k1) < 0 then 52 else 46, [(1, .int (nI (δ 2))), (0, .ref 114)], [], M1)) (o := []) rfl trivial ?_
        rw [if_neg (nI_nn (by omega))]
        show Wn _ 71 _ (46, [(1, .int (nI (δ 2))), (0, .ref 114)], [], M1)
        refine Wn.run (tab := tb_m_readPerson) rfl 2 (c' := (48, [(1, .int (nI (δ 2))), (0, .ref 114)], [.int (nI 3), .ref 114], M1)) (o := []) rfl trivial ?_
        refine Wn.callV (p := 114) (n := 2) (ix := 188) (ci := (10)) (PBd M1 g6 (nI 3) (nI (tAt T L mo (tNx T L p)))) [.int (nI 3)] [] rfl rfl rfl rfl (Nat.le_of_ble_eq_true rfl) (Nat.le_of_ble_eq_true rfl) (c_m_bad _ M1 g6 T L mo (tNx T L p) hg7 ht2 (nI 3)) ?_
        rintro _ M207 ⟨rfl, hg208, hs209, hF210⟩
        show Wn _ 71 _ (51, [(1, .int (nI (δ 2))), (0, .ref 114)], [.int (nI 0)], M207)
        have hk211 := fr_row hF210 (by decide) hk11
        have h6212 := n6_fr hF210 (by decide) h613
        have hn213 := nf_fr hF210 (by decide) hn14
        have hv214 := rv_fr hF210 (by decide) hv15
        have hF215 := fr_tr hF16 hF210 (by decide)
        have e9 : rdPe T L mo p δ ν o ic = .inl (3, tAt T L mo (tNx T L p)) := by unfold rdPe; rw [if_neg h1, if_neg (fun q9 => q9 hk3)]; simp only [hb1]
        rw [e9]
        exact Wn.zret rfl (Or.inl rfl) ⟨by rw [hg208]; exact (Gx_up (Gx_up (Gx_tr (Gx_rf _ _) (Gx_mono hx8 (by decide))) (by decide)) (by decide)), hF215, h6212, rfl, by rw [hg208]; exact ((pk_un (by decide)).trans pk_us), by rw [hg208]; exact pk_us⟩
    · have kl0 := tKd_le T L mo (tNx T L p)
      refine Wn.callV (p := 114) (n := 1) (ix := 205) (ci := (10)) (fun r0 M0 => r0 = some (.int (b2 (tKd T L mo (tNx T L p) = 3))) ∧ M1 = M0) [] [] rfl rfl rfl rfl (Nat.le_of_ble_eq_true rfl) (Nat.le_of_ble_eq_true rfl) (w_m_isName _ M1 T L mo (tNx T L p) ht2 hv15 _ ⟨rfl, rfl⟩) ?_
      rintro _ _ ⟨rfl, rfl⟩
      show Wn _ 71 _ (27, [(1, .int (nI (δ 2))), (0, .ref 114)], [.int (b2 (tKd T L mo (tNx T L p) = 3))], M1)
      refine Wn.run (tab := tb_m_readPerson) rfl 1 (c' := (if ¬ (b2 (tKd T L mo (tNx T L p) = 3)) = 0 then 36 else 30, [(1, .int (nI (δ 2))), (0, .ref 114)], [], M1)) (o := []) rfl trivial ?_
      rw [if_neg (fun h9 => h9 (b2_e0.mpr (by omega)))]
      show Wn _ 71 _ (30, [(1, .int (nI (δ 2))), (0, .ref 114)], [], M1)
      refine Wn.run (tab := tb_m_readPerson) rfl 2 (c' := (32, [(1, .int (nI (δ 2))), (0, .ref 114)], [.int (nI 1), .ref 114], M1)) (o := []) rfl trivial ?_
      refine Wn.callV (p := 114) (n := 2) (ix := 188) (ci := (10)) (PBd M1 g6 (nI 1) (nI (tAt T L mo (tNx T L p)))) [.int (nI 1)] [] rfl rfl rfl rfl (Nat.le_of_ble_eq_true rfl) (Nat.le_of_ble_eq_true rfl) (c_m_bad _ M1 g6 T L mo (tNx T L p) hg7 ht2 (nI 1)) ?_
      rintro _ M216 ⟨rfl, hg217, hs218, hF219⟩
      show Wn _ 71 _ (35, [(1, .int (nI (δ 2))), (0, .ref 114)], [.int (nI 0)], M216)
      have hk220 := fr_row hF219 (by decide) hk11
      have h6221 := n6_fr hF219 (by decide) h613
      have hn222 := nf_fr hF219 (by decide) hn14
      have hv223 := rv_fr hF219 (by decide) hv15
      have hF224 := fr_tr hF16 hF219 (by decide)
      have e9 : rdPe T L mo p δ ν o ic = .inl (1, tAt T L mo (tNx T L p)) := by unfold rdPe; rw [if_neg h1, if_pos hk3]
      rw [e9]
      exact Wn.zret rfl (Or.inl rfl) ⟨by rw [hg217]; exact (Gx_up (Gx_up (Gx_tr (Gx_rf _ _) (Gx_mono hx8 (by decide))) (by decide)) (by decide)), hF224, h6221, rfl, by rw [hg217]; exact ((pk_un (by decide)).trans pk_us), by rw [hg217]; exact pk_us⟩
  · show Wn _ 71 _ (13, [(1, .int (M.1 117 2)), (0, .ref 114)], [], M)
    have h1 := (n_eq (rd0 hh (by omega)) rfl (by omega) (by omega)).mp (Classical.not_not.mp h1)
    rw [show (M.1 117 2) = (nI (δ 2)) from (rd0 hh (by omega))]
    refine Wn.run (tab := tb_m_readPerson) rfl 2 (c' := (15, [(1, .int (nI (δ 2))), (0, .ref 114)], [.int (nI 4), .ref 114], M)) (o := []) rfl trivial ?_
    refine Wn.callV (p := 114) (n := 2) (ix := 188) (ci := (10)) (PBd M g (nI 4) (nI (tAt T L mo p))) [.int (nI 4)] [] rfl rfl rfl rfl (Nat.le_of_ble_eq_true rfl) (Nat.le_of_ble_eq_true rfl) (c_m_bad _ M g T L mo p hg hK (nI 4)) ?_
    rintro _ M225 ⟨rfl, hg226, hs227, hF228⟩
    show Wn _ 71 _ (18, [(1, .int (nI (δ 2))), (0, .ref 114)], [.int (nI 0)], M225)
    have hk229 := fr_row hF228 (by decide) hh
    have h6230 := n6_fr hF228 (by decide) h6
    have hn231 := nf_fr hF228 (by decide) hN
    have hv232 := rv_fr hF228 (by decide) hv
    have hF233 := fr_tr hF hF228 (by decide)
    have e9 : rdPe T L mo p δ ν o ic = .inl (4, tAt T L mo p) := by unfold rdPe; rw [if_pos h1]
    rw [e9]
    exact Wn.zret rfl (Or.inl rfl) ⟨by rw [hg226]; exact (Gx_up (Gx_up (Gx_rf _ _) (by decide)) (by decide)), hF233, h6230, rfl, by rw [hg226]; exact ((pk_un (by decide)).trans pk_us), by rw [hg226]; exact pk_us⟩
