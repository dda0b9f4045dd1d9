/-! Books of the reference. -/
def BkM (M : Mm) (n : Nat) (E : Nat → Bke) : Prop := ∀ i, i < n → M.1 118 (3 * i) = nI (E i).1 ∧ M.1 118 (3 * i + 1) = nI (E i).2.1 ∧ ((E i).1 = 0 ∨ (E i).1 = 2 → M.1 118 (3 * i + 2) = nI (E i).2.2)
/-- the reference's book behind a line -/
def PBm (M0 : Mm) (g : Nat → Int32) (T : Nat → Nat) (L mo k : Nat) (res : Flt ⊕ (Nat × Bke)) : Po := fun r0 M' => Gx KR g (M'.1 114) ∧ Fr [114, 118] M0 M' ∧ match res with
  | .inl f => r0 = some (.int (nI 0)) ∧ M'.1 114 15 = nI f.1 ∧ M'.1 114 16 = nI f.2
  | .inr (p2, e) => r0 = some (.int (nI 1)) ∧ TkM M' T L mo p2 ∧ (M'.1 118 (3 * k) = nI e.1 ∧ M'.1 118 (3 * k + 1) = nI e.2.1 ∧ (e.1 = 0 ∨ e.1 = 2 → M'.1 118 (3 * k + 2) = nI e.2.2)) ∧ (∀ i, i < 3 * k → M'.1 118 i = M0.1 118 i) ∧ M'.1 114 15 = g 15
set_option maxRecDepth 20000 in
theorem c_m_bookLine_h (d : Nat) (M : Mm) (g : Nat → Int32) (T : Nat → Nat) (L mo p : Nat) (hg : M.1 114 = g) (hK : TkM M T L mo p) (hv : Rsv M) (np : Nat) (hnp : np ≤ 6) (h2 : M.1 116 2 = nI np) (ν : Nat → Int64) (hN : ∀ q, q < np → M.2.1 119 (0 + q) = ν q) (k : Nat) (hk40 : k ≤ 40) (h36 : g 36 = nI k) (hk : tKd T L mo p = 24) : Wn (d + 3) 134 (PBm M g T L mo k (rdB T L mo p ν np k)) (0, lv_args 0 [.ref 114], [], M) := by
  have hF := fr_rf [114, 118] M
  have kl := tKd_le T L mo p
  obtain ⟨R, h118⟩ : ∃ r, M.1 118 = r := ⟨_, rfl⟩
  refine Wn.run (tab := tb_m_bookLine) rfl 7 (c' := (11, [(1, .int ((nI 3) * (M.1 114 36))), (0, .ref 114)], [.long (1752135026 : Int64), .ref 114], M)) (o := [shp 114 = (0, 10)]) rfl rfl ?_
  rw [show (M.1 114 36) = (nI k) from (fr_eq hg (show g 36 = (nI k) from h36))]
  rw [show ((nI 3) * (nI k)) = (nI (3 * k)) from (n_mul rfl rfl)]
  refine Wn.callV (p := 114) (n := 2) (ix := 219) (ci := (10)) (fun r0 M0 => r0 = some (.int (b2 (tKd T L mo p = 24))) ∧ M = M0) [.long (1752135026 : Int64)] [] rfl rfl rfl rfl (Nat.le_of_ble_eq_true rfl) (Nat.le_of_ble_eq_true rfl) (w_m_isWord _ M T L mo p 24 hK (by decide) (by decide) (1752135026 : Int64) (by decide) _ ⟨rfl, rfl⟩) ?_
  rintro _ _ ⟨rfl, rfl⟩
  show Wn _ 134 _ (14, [(1, .int (nI (3 * k))), (0, .ref 114)], [.int (b2 (tKd T L mo p = 24))], M)
  refine Wn.run (tab := tb_m_bookLine) rfl 3 (c' := (if ¬ (b2 (tKd T L mo p = 24)) = 0 then 35 else 19, [(2, .int (b2 (tKd T L mo p = 24))), (1, .int (nI (3 * k))), (0, .ref 114)], [], M)) (o := []) rfl trivial ?_
  rw [if_pos (b2_n0.mpr (by omega))]
  show Wn _ 134 _ (35, [(2, .int (b2 (tKd T L mo p = 24))), (1, .int (nI (3 * k))), (0, .ref 114)], [], M)
  refine Wn.run (tab := tb_m_bookLine) rfl 4 (c' := (if ¬ (M.1 114 36) = (nI 40) then 50 else 44, [(2, .int (b2 (tKd T L mo p = 24))), (1, .int (nI (3 * k))), (0, .ref 114)], [], M)) (o := [shp 114 = (0, 10)]) rfl rfl ?_
  refine Wn.br (fun h1 => ?_) (fun h1 => ?_)
  · show Wn _ 134 _ (50, [(2, .int (b2 (tKd T L mo p = 24))), (1, .int (nI (3 * k))), (0, .ref 114)], [], M)
    have h1 := mt (n_eq (fr_eq hg (show g 36 = (nI k) from h36)) rfl (by omega) (by omega)).mpr h1
    refine Wn.run (tab := tb_m_bookLine) rfl 4 (c' := (56, [(3, .int (M.1 114 18)), (2, .int (b2 (tKd T L mo p = 24))), (1, .int (nI (3 * k))), (0, .ref 114)], [.ref 114], M)) (o := [shp 114 = (0, 10)]) rfl rfl ?_
    rw [show (M.1 114 18) = (g 18) from (fr_eq hg (show g 18 = (g 18) from rfl))]
    refine Wn.callV (p := 114) (n := 1) (ix := 191) (ci := (10)) (PNx M g T L mo (tNx T L p)) [] [] rfl rfl rfl rfl (Nat.le_of_ble_eq_true rfl) (Nat.le_of_ble_eq_true rfl) (c_m_nx _ M g T L mo p hg hK (by omega) (by omega)) ?_
    rintro _ M1 ⟨rfl, ht2, hx3, hj4, hF5⟩
    show Wn _ 134 _ (59, [(3, .int (g 18)), (2, .int (b2 (tKd T L mo p = 24))), (1, .int (nI (3 * k))), (0, .ref 114)], [], M1)
    obtain ⟨g6, hg7⟩ : ∃ g9, M1.1 114 = g9 := ⟨_, rfl⟩
    have hx8 := hx3
    rw [hg7] at hx8
    have hf9 : g6 18 = (g 18) := (hx8 18 (by decide)).trans (show g 18 = (g 18) from rfl)
    have hf10 : g6 15 = (g 15) := (hx8 15 (by decide)).trans (show g 15 = (g 15) from rfl)
    have hf11 : g6 36 = (nI k) := (hx8 36 (by decide)).trans (show g 36 = (nI k) from h36)
    have hk12 := frI_fun hF5 (by decide) h118
    have hc13 := cl_fr hF5 (by decide) h2
    have hn14 := nf_fr hF5 (by decide) hN
    have hv15 := rv_fr hF5 (by decide) hv
    have hF16 := fr_tr hF hF5 (by decide)
    refine Wn.run (tab := tb_m_bookLine) rfl 2 (c' := (if (b2 (tKd T L mo p = 24)) = 0 then 96 else 63, [(3, .int (g 18)), (2, .int (b2 (tKd T L mo p = 24))), (1, .int (nI (3 * k))), (0, .ref 114)], [], M1)) (o := []) rfl trivial ?_
    rw [if_neg (b2_n0.mpr (by omega))]
    show Wn _ 134 _ (63, [(3, .int (g 18)), (2, .int (b2 (tKd T L mo p = 24))), (1, .int (nI (3 * k))), (0, .ref 114)], [], M1)
    refine Wn.run (tab := tb_m_bookLine) rfl 5 (c' := (70, [(3, .int (g 18)), (2, .int (b2 (tKd T L mo p = 24))), (1, .int (nI (3 * k))), (0, .ref 114)], [], (mI M1 118 (upd (M1.1 118) ((nI (3 * k))).toNatClampNeg (nI 4))))) (o := [shp 114 = (0, 10), aok shp 118 0 (nI (3 * k))]) rfl ⟨rfl, (ak1 (n := 135) rfl rfl rfl (by omega))⟩ ?_
    generalize hM18 : (mI M1 118 (upd (M1.1 118) ((nI (3 * k))).toNatClampNeg (nI 4))) = M17
    have ht19 := TkM_fr (fr_1I hM18) (by decide) ht2
    have hk20 := fI_ne hM18 (by decide) hg7
    have hk21 := fI_upx hM18 hk12 (cl1 rfl (by omega))
    have hc22 := cl_ne hM18 (by decide) hc13
    have hn23 := nf_fr (fr_1I hM18) (by decide) hn14
    have hv24 := rv_fr (fr_1I hM18) (by decide) hv15
    have hF25 := fr_sI hF16 hM18 (by decide)
    show Wn _ 134 _ (70, [(3, .int (g 18)), (2, .int (b2 (tKd T L mo p = 24))), (1, .int (nI (3 * k))), (0, .ref 114)], [], M17)
    refine Wn.run (tab := tb_m_bookLine) rfl 3 (c' := (74, [(3, .int (g 18)), (2, .int (b2 (tKd T L mo p = 24))), (1, .int (nI (3 * k))), (0, .ref 114)], [.int (nI 60), .int (nI 1), .ref 114], M17)) (o := []) rfl trivial ?_
    cases hc1 : tkN T L mo (tNx T L p) 1 60 with
    | inl f1 =>
      refine Wn.callV (p := 114) (n := 3) (ix := 201) (ci := (10)) (PFm M17 g6 f1.1 f1.2 (some (.int (nI 0)))) [.int (nI 1), .int (nI 60)] [] rfl rfl rfl rfl (Nat.le_of_ble_eq_true rfl) (Nat.le_of_ble_eq_true rfl) (c_m_takesE _ M17 g6 T L mo (tNx T L p) hk20 ht19 1 60 (by omega) (by omega) f1 hc1) ?_
      rintro _ M30 ⟨rfl, h1526, h1627, hx28, hF29⟩
      show Wn _ 134 _ (77, [(3, .int (g 18)), (2, .int (b2 (tKd T L mo p = 24))), (1, .int (nI (3 * k))), (0, .ref 114)], [.int (nI 0)], M30)
      obtain ⟨g31, hg32⟩ : ∃ g9, M30.1 114 = g9 := ⟨_, rfl⟩
      have hx33 := hx28
      rw [hg32] at hx33
      have hf34 : g31 15 = nI f1.1 := by rw [← hg32]; exact h1526
      have hf35 : g31 16 = nI f1.2 := by rw [← hg32]; exact h1627
      have hk36 := frI_fun hF29 (by decide) hk21
      have hc37 := cl_fr hF29 (by decide) hc22
      have hF38 := fr_tr hF25 hF29 (by decide)
      refine Wn.run (tab := tb_m_bookLine) rfl 1 (c' := (if ¬ (nI 0) = 0 then 82 else 80, [(3, .int (g 18)), (2, .int (b2 (tKd T L mo p = 24))), (1, .int (nI (3 * k))), (0, .ref 114)], [], M30)) (o := []) rfl trivial ?_
      rw [if_neg (show ¬ (¬ (nI 0) = 0) by decide)]
      show Wn _ 134 _ (80, [(3, .int (g 18)), (2, .int (b2 (tKd T L mo p = 24))), (1, .int (nI (3 * k))), (0, .ref 114)], [], M30)
      refine Wn.run (tab := tb_m_bookLine) rfl 1 (c' := (81, [(3, .int (g 18)), (2, .int (b2 (tKd T L mo p = 24))), (1, .int (nI (3 * k))), (0, .ref 114)], [.int (nI 0)], M30)) (o := []) rfl trivial ?_
      have e9 : rdB T L mo p ν np k = .inl f1 := by unfold rdB; rw [if_pos hk, if_neg h1]; simp only [hc1]
      rw [e9]
      exact Wn.zret rfl (Or.inl rfl) ⟨by rw [hg32]; exact (Gx_tr (Gx_tr (Gx_rf _ _) (Gx_mono hx8 (by decide))) (Gx_mono hx33 (by decide))), hF38, rfl, by rw [hg32]; exact hf34, by rw [hg32]; exact hf35⟩
    | inr v1 =>
      obtain ⟨x1, p1⟩ := v1
      refine Wn.callV (p := 114) (n := 3) (ix := 201) (ci := (10)) (PTm M17 g6 T L mo p1 [4, 11, 12, 13, 14, 18] (nI x1) (some (.int (nI 1)))) [.int (nI 1), .int (nI 60)] [] rfl rfl rfl rfl (Nat.le_of_ble_eq_true rfl) (Nat.le_of_ble_eq_true rfl) (c_m_takesV _ M17 g6 T L mo (tNx T L p) hk20 ht19 1 60 (by omega) (by omega) (x1, p1) hc1) ?_
      rintro _ M44 ⟨rfl, ht39, h1840, hx41, hj42, hF43⟩
      show Wn _ 134 _ (77, [(3, .int (g 18)), (2, .int (b2 (tKd T L mo p = 24))), (1, .int (nI (3 * k))), (0, .ref 114)], [.int (nI 1)], M44)
      obtain ⟨g45, hg46⟩ : ∃ g9, M44.1 114 = g9 := ⟨_, rfl⟩
      have hx47 := hx41
      rw [hg46] at hx47
      have hf48 : g45 15 = (g 15) := (hx47 15 (by decide)).trans (show g6 15 = (g 15) from hf10)
      have hf49 : g45 36 = (nI k) := (hx47 36 (by decide)).trans (show g6 36 = (nI k) from hf11)
      have hf50 : g45 18 = nI x1 := by rw [← hg46]; exact h1840
      have hk51 := frI_fun hF43 (by decide) hk21
      have hc52 := cl_fr hF43 (by decide) hc22
      have hn53 := nf_fr hF43 (by decide) hn23
      have hv54 := rv_fr hF43 (by decide) hv24
      have hF55 := fr_tr hF25 hF43 (by decide)
      have bd1 : 1 ≤ x1 ∧ x1 ≤ 60 := by obtain ⟨q1, q2, q3⟩ := tkN_inr hc1; cases q3; exact q2
      have kl1 := tKd_le T L mo p1
      refine Wn.run (tab := tb_m_bookLine) rfl 1 (c' := (if ¬ (nI 1) = 0 then 82 else 80, [(3, .int (g 18)), (2, .int (b2 (tKd T L mo p = 24))), (1, .int (nI (3 * k))), (0, .ref 114)], [], M44)) (o := []) rfl trivial ?_
      rw [if_pos (show ¬ (nI 1) = 0 by decide)]
      show Wn _ 134 _ (82, [(3, .int (g 18)), (2, .int (b2 (tKd T L mo p = 24))), (1, .int (nI (3 * k))), (0, .ref 114)], [], M44)
      refine Wn.run (tab := tb_m_bookLine) rfl 8 (c' := (94, [(3, .int (g 18)), (2, .int (b2 (tKd T L mo p = 24))), (1, .int (nI (3 * k))), (0, .ref 114)], [], (mI M44 118 (upd (M44.1 118) (((nI (3 * k)) + (nI 1))).toNatClampNeg (M44.1 114 18))))) (o := [shp 114 = (0, 10), shp 114 = (0, 10), aok shp 118 0 ((nI (3 * k)) + (nI 1))]) rfl ⟨rfl, rfl, (ak1 (n := 135) rfl rfl (n_add rfl rfl) (by omega))⟩ ?_
      rw [show (M44.1 114 18) = (nI x1) from (fr_eq hg46 (show g45 18 = (nI x1) from hf50))]
      generalize hM57 : (mI M44 118 (upd (M44.1 118) (((nI (3 * k)) + (nI 1))).toNatClampNeg (nI x1))) = M56
      have ht58 := TkM_fr (fr_1I hM57) (by decide) ht39
      have hk59 := fI_ne hM57 (by decide) hg46
      have hk60 := fI_upx hM57 hk51 (cl1 (n_add rfl rfl) (by omega))
      have hc61 := cl_ne hM57 (by decide) hc52
      have hn62 := nf_fr (fr_1I hM57) (by decide) hn53
      have hv63 := rv_fr (fr_1I hM57) (by decide) hv54
      have hF64 := fr_sI hF55 hM57 (by decide)
      show Wn _ 134 _ (94, [(3, .int (g 18)), (2, .int (b2 (tKd T L mo p = 24))), (1, .int (nI (3 * k))), (0, .ref 114)], [], M56)
      refine Wn.run (tab := tb_m_bookLine) rfl 1 (c' := (95, [(3, .int (g 18)), (2, .int (b2 (tKd T L mo p = 24))), (1, .int (nI (3 * k))), (0, .ref 114)], [.int (nI 1)], M56)) (o := []) rfl trivial ?_
      have e9 : rdB T L mo p ν np k = .inr (p1, 4, x1, 0) := by unfold rdB; rw [if_pos hk, if_neg h1]; simp only [hc1]
      rw [e9]
      refine Wn.zret rfl (Or.inr rfl) ⟨by rw [hk59]; exact (Gx_tr (Gx_tr (Gx_rf _ _) (Gx_mono hx8 (by decide))) (Gx_mono hx47 (by decide))), hF64, rfl, ht58, ⟨?_, ?_, ?_⟩, fun i hi => ?_, by rw [hk59]; exact hf48⟩
      · rw [hk60, pk_un (by omega), pk_us]
      · rw [hk60, pk_us]
      · intro q9; exact absurd q9 (by simp)
      · rw [hk60, pk_un (by omega), pk_un (by omega), h118]
  · show Wn _ 134 _ (44, [(2, .int (b2 (tKd T L mo p = 24))), (1, .int (nI (3 * k))), (0, .ref 114)], [], M)
    have h1 := (n_eq (fr_eq hg (show g 36 = (nI k) from h36)) rfl (by omega) (by omega)).mp (Classical.not_not.mp h1)
    refine Wn.run (tab := tb_m_bookLine) rfl 2 (c' := (46, [(2, .int (b2 (tKd T L mo p = 24))), (1, .int (nI (3 * k))), (0, .ref 114)], [.int (nI 4), .ref 114], M)) (o := []) rfl trivial ?_
    refine Wn.callV (p := 114) (n := 2) (ix := 188) (ci := (10)) (PBd M g (nI 4) (nI (tAt T L mo p))) [.int (nI 4)] [] rfl rfl rfl rfl (Nat.le_of_ble_eq_true rfl) (Nat.le_of_ble_eq_true rfl) (c_m_bad _ M g T L mo p hg hK (nI 4)) ?_
    rintro _ M65 ⟨rfl, hg66, hs67, hF68⟩
    show Wn _ 134 _ (49, [(2, .int (b2 (tKd T L mo p = 24))), (1, .int (nI (3 * k))), (0, .ref 114)], [.int (nI 0)], M65)
    have hk69 := frI_fun hF68 (by decide) h118
    have hc70 := cl_fr hF68 (by decide) h2
    have hn71 := nf_fr hF68 (by decide) hN
    have hv72 := rv_fr hF68 (by decide) hv
    have hF73 := fr_tr hF hF68 (by decide)
    have e9 : rdB T L mo p ν np k = .inl (4, tAt T L mo p) := by unfold rdB; rw [if_pos hk, if_pos h1]
    rw [e9]
    exact Wn.zret rfl (Or.inl rfl) ⟨by rw [hg66]; exact (Gx_up (Gx_up (Gx_rf _ _) (by decide)) (by decide)), hF73, rfl, by rw [hg66]; exact ((pk_un (by decide)).trans pk_us), by rw [hg66]; exact pk_us⟩
set_option maxRecDepth 20000 in
theorem c_m_bookLine_n (d : Nat) (M : Mm) (g : Nat → Int32) (T : Nat → Nat) (L mo p : Nat) (hg : M.1 114 = g) (hK : TkM M T L mo p) (hv : Rsv M) (np : Nat) (hnp : np ≤ 6) (h2 : M.1 116 2 = nI np) (ν : Nat → Int64) (hN : ∀ q, q < np → M.2.1 119 (0 + q) = ν q) (k : Nat) (hk40 : k ≤ 40) (h36 : g 36 = nI k) (hk : ¬ tKd T L mo p = 24) : Wn (d + 2) 134 (PBm M g T L mo k (rdB T L mo p ν np k)) (0, lv_args 0 [.ref 114], [], M) := by
  have hF := fr_rf [114, 118] M
  have kl := tKd_le T L mo p
  obtain ⟨R, h118⟩ : ∃ r, M.1 118 = r := ⟨_, rfl⟩
  refine Wn.run (tab := tb_m_bookLine) rfl 7 (c' := (11, [(1, .int ((nI 3) * (M.1 114 36))), (0, .ref 114)], [.long (1752135026 : Int64), .ref 114], M)) (o := [shp 114 = (0, 10)]) rfl rfl ?_
  rw [show (M.1 114 36) = (nI k) from (fr_eq hg (show g 36 = (nI k) from h36))]
  rw [show ((nI 3) * (nI k)) = (nI (3 * k)) from (n_mul rfl rfl)]
  refine Wn.callV (p := 114) (n := 2) (ix := 219) (ci := (10)) (fun r0 M0 => r0 = some (.int (b2 (tKd T L mo p = 24))) ∧ M = M0) [.long (1752135026 : Int64)] [] rfl rfl rfl rfl (Nat.le_of_ble_eq_true rfl) (Nat.le_of_ble_eq_true rfl) (w_m_isWord _ M T L mo p 24 hK (by decide) (by decide) (1752135026 : Int64) (by decide) _ ⟨rfl, rfl⟩) ?_
  rintro _ _ ⟨rfl, rfl⟩
  show Wn _ 134 _ (14, [(1, .int (nI (3 * k))), (0, .ref 114)], [.int (b2 (tKd T L mo p = 24))], M)
  refine Wn.run (tab := tb_m_bookLine) rfl 3 (c' := (if ¬ (b2 (tKd T L mo p = 24)) = 0 then 35 else 19, [(2, .int (b2 (tKd T L mo p = 24))), (1, .int (nI (3 * k))), (0, .ref 114)], [], M)) (o := []) rfl trivial ?_
  rw [if_neg (fun h9 => h9 (b2_e0.mpr (by omega)))]
  show Wn _ 134 _ (19, [(2, .int (b2 (tKd T L mo p = 24))), (1, .int (nI (3 * k))), (0, .ref 114)], [], M)
  refine Wn.run (tab := tb_m_bookLine) rfl 6 (c' := (27, [(2, .int (b2 (tKd T L mo p = 24))), (1, .int (nI (3 * k))), (0, .ref 114)], [.int (M.1 116 2), .int (nI 0), .ref 114], M)) (o := [shp 114 = (0, 10), aok shp 116 0 (nI 2)]) rfl ⟨rfl, ⟨rfl, vp_in_nI (by decide) (by decide)⟩⟩ ?_
  rw [show (M.1 116 2) = (nI np) from h2]
  by_cases hk1_3 : tKd T L mo p = 3
  · cases hpc1 : pcl ν (tNm T L p) np with
    | some q1 =>
      have q1_n := pcl_lt hpc1
      refine Wn.callV (p := 114) (n := 3) (ix := 413) (ci := (10)) (PTm M g T L mo p [18] (nI q1) (some (.int (nI 1)))) [.int (nI 0), .int (nI np)] [] rfl rfl rfl rfl (Nat.le_of_ble_eq_true rfl) (Nat.le_of_ble_eq_true rfl) (c_m_looksAt_ok _ M g T L mo p hg hK hv 0 np (by omega) ν hN hk1_3 q1 (by omega) hpc1) ?_
      rintro _ M6 ⟨rfl, ht1, h182, hx3, hj4, hF5⟩
      show Wn _ 134 _ (30, [(2, .int (b2 (tKd T L mo p = 24))), (1, .int (nI (3 * k))), (0, .ref 114)], [.int (nI 1)], M6)
      obtain ⟨g7, hg8⟩ : ∃ g9, M6.1 114 = g9 := ⟨_, rfl⟩
      have hx9 := hx3
      rw [hg8] at hx9
      have hf10 : g7 15 = (g 15) := (hx9 15 (by decide)).trans (show g 15 = (g 15) from rfl)
      have hf11 : g7 36 = (nI k) := (hx9 36 (by decide)).trans (show g 36 = (nI k) from h36)
      have hf12 : g7 18 = nI q1 := by rw [← hg8]; exact h182
      have hk13 := frI_fun hF5 (by decide) h118
      have hc14 := cl_fr hF5 (by decide) h2
      have hn15 := nf_fr hF5 (by decide) hN
      have hv16 := rv_fr hF5 (by decide) hv
      have hF17 := fr_tr hF hF5 (by decide)
      refine Wn.run (tab := tb_m_bookLine) rfl 1 (c' := (if ¬ (nI 1) = 0 then 35 else 33, [(2, .int (b2 (tKd T L mo p = 24))), (1, .int (nI (3 * k))), (0, .ref 114)], [], M6)) (o := []) rfl trivial ?_
      rw [if_pos (show ¬ (nI 1) = 0 by decide)]
      show Wn _ 134 _ (35, [(2, .int (b2 (tKd T L mo p = 24))), (1, .int (nI (3 * k))), (0, .ref 114)], [], M6)
      refine Wn.run (tab := tb_m_bookLine) rfl 4 (c' := (if ¬ (M6.1 114 36) = (nI 40) then 50 else 44, [(2, .int (b2 (tKd T L mo p = 24))), (1, .int (nI (3 * k))), (0, .ref 114)], [], M6)) (o := [shp 114 = (0, 10)]) rfl rfl ?_
      refine Wn.br (fun h1 => ?_) (fun h1 => ?_)
      · show Wn _ 134 _ (50, [(2, .int (b2 (tKd T L mo p = 24))), (1, .int (nI (3 * k))), (0, .ref 114)], [], M6)
        have h1 := mt (n_eq (fr_eq hg8 (show g7 36 = (nI k) from hf11)) rfl (by omega) (by omega)).mpr h1
        refine Wn.run (tab := tb_m_bookLine) rfl 4 (c' := (56, [(3, .int (M6.1 114 18)), (2, .int (b2 (tKd T L mo p = 24))), (1, .int (nI (3 * k))), (0, .ref 114)], [.ref 114], M6)) (o := [shp 114 = (0, 10)]) rfl rfl ?_
        rw [show (M6.1 114 18) = (nI q1) from (fr_eq hg8 (show g7 18 = (nI q1) from hf12))]
        refine Wn.callV (p := 114) (n := 1) (ix := 191) (ci := (10)) (PNx M6 g7 T L mo (tNx T L p)) [] [] rfl rfl rfl rfl (Nat.le_of_ble_eq_true rfl) (Nat.le_of_ble_eq_true rfl) (c_m_nx _ M6 g7 T L mo p hg8 ht1 (by omega) (by omega)) ?_
        rintro _ M18 ⟨rfl, ht19, hx20, hj21, hF22⟩
        show Wn _ 134 _ (59, [(3, .int (nI q1)), (2, .int (b2 (tKd T L mo p = 24))), (1, .int (nI (3 * k))), (0, .ref 114)], [], M18)
        obtain ⟨g23, hg24⟩ : ∃ g9, M18.1 114 = g9 := ⟨_, rfl⟩
        have hx25 := hx20
        rw [hg24] at hx25
        have hf26 : g23 18 = (nI q1) := (hx25 18 (by decide)).trans (show g7 18 = (nI q1) from hf12)
        have hf27 : g23 15 = (g 15) := (hx25 15 (by decide)).trans (show g7 15 = (g 15) from hf10)
        have hf28 : g23 36 = (nI k) := (hx25 36 (by decide)).trans (show g7 36 = (nI k) from hf11)
        have hk29 := frI_fun hF22 (by decide) hk13
        have hc30 := cl_fr hF22 (by decide) hc14
        have hn31 := nf_fr hF22 (by decide) hn15
        have hv32 := rv_fr hF22 (by decide) hv16
        have hF33 := fr_tr hF17 hF22 (by decide)
        refine Wn.run (tab := tb_m_bookLine) rfl 2 (c' := (if (b2 (tKd T L mo p = 24)) = 0 then 96 else 63, [(3, .int (nI q1)), (2, .int (b2 (tKd T L mo p = 24))), (1, .int (nI (3 * k))), (0, .ref 114)], [], M18)) (o := []) rfl trivial ?_
        rw [if_pos (b2_e0.mpr (by omega))]
        show Wn _ 134 _ (96, [(3, .int (nI q1)), (2, .int (b2 (tKd T L mo p = 24))), (1, .int (nI (3 * k))), (0, .ref 114)], [], M18)
        refine Wn.run (tab := tb_m_bookLine) rfl 7 (c' := (105, [(3, .int (nI q1)), (2, .int (b2 (tKd T L mo p = 24))), (1, .int (nI (3 * k))), (0, .ref 114)], [], (mI M18 118 (upd (M18.1 118) (((nI (3 * k)) + (nI 1))).toNatClampNeg (nI q1))))) (o := [shp 114 = (0, 10), aok shp 118 0 ((nI (3 * k)) + (nI 1))]) rfl ⟨rfl, (ak1 (n := 135) rfl rfl (n_add rfl rfl) (by omega))⟩ ?_
        generalize hM35 : (mI M18 118 (upd (M18.1 118) (((nI (3 * k)) + (nI 1))).toNatClampNeg (nI q1))) = M34
        have ht36 := TkM_fr (fr_1I hM35) (by decide) ht19
        have hk37 := fI_ne hM35 (by decide) hg24
        have hk38 := fI_upx hM35 hk29 (cl1 (n_add rfl rfl) (by omega))
        have hc39 := cl_ne hM35 (by decide) hc30
        have hn40 := nf_fr (fr_1I hM35) (by decide) hn31
        have hv41 := rv_fr (fr_1I hM35) (by decide) hv32
        have hF42 := fr_sI hF33 hM35 (by decide)
        show Wn _ 134 _ (105, [(3, .int (nI q1)), (2, .int (b2 (tKd T L mo p = 24))), (1, .int (nI (3 * k))), (0, .ref 114)], [], M34)
        refine Wn.run (tab := tb_m_bookLine) rfl 1 (c' := (106, [(3, .int (nI q1)), (2, .int (b2 (tKd T L mo p = 24))), (1, .int (nI (3 * k))), (0, .ref 114)], [.ref 114], M34)) (o := []) rfl trivial ?_
        have kl9 := tKd_le T L mo (tNx T L p)
        by_cases hs : tKd T L mo (tNx T L p) = 17
        · refine Wn.run (tab := tb_m_bookLine) rfl 1 (c' := (109, [(3, .int (nI q1)), (2, .int (b2 (tKd T L mo p = 24))), (1, .int (nI (3 * k))), (0, .ref 114)], [.long (1700885364 : Int64), .ref 114], M34)) (o := []) rfl trivial ?_
          refine Wn.callV (p := 114) (n := 2) (ix := 219) (ci := (10)) (fun r0 M0 => r0 = some (.int (b2 (tKd T L mo (tNx T L p) = 17))) ∧ M34 = M0) [.long (1700885364 : Int64)] [] rfl rfl rfl rfl (Nat.le_of_ble_eq_true rfl) (Nat.le_of_ble_eq_true rfl) (w_m_isWord _ M34 T L mo (tNx T L p) 17 ht36 (by decide) (by decide) (1700885364 : Int64) (by decide) _ ⟨rfl, rfl⟩) ?_
          rintro _ _ ⟨rfl, rfl⟩
          show Wn _ 134 _ (112, [(3, .int (nI q1)), (2, .int (b2 (tKd T L mo p = 24))), (1, .int (nI (3 * k))), (0, .ref 114)], [.int (b2 (tKd T L mo (tNx T L p) = 17))], M34)
          refine Wn.run (tab := tb_m_bookLine) rfl 1 (c' := (if (b2 (tKd T L mo (tNx T L p) = 17)) = 0 then 119 else 115, [(3, .int (nI q1)), (2, .int (b2 (tKd T L mo p = 24))), (1, .int (nI (3 * k))), (0, .ref 114)], [], M34)) (o := []) rfl trivial ?_
          rw [if_neg (b2_n0.mpr (by omega))]
          show Wn _ 134 _ (115, [(3, .int (nI q1)), (2, .int (b2 (tKd T L mo p = 24))), (1, .int (nI (3 * k))), (0, .ref 114)], [], M34)
          refine Wn.run (tab := tb_m_bookLine) rfl 5 (c' := (if (nI 0) < 0 then 173 else 169, [(4, .int (nI 0)), (3, .int (nI q1)), (2, .int (b2 (tKd T L mo p = 24))), (1, .int (nI (3 * k))), (0, .ref 114)], [], M34)) (o := []) rfl trivial ?_
          rw [if_neg (show ¬ ((nI 0) < 0) by decide)]
          show Wn _ 134 _ (169, [(4, .int (nI 0)), (3, .int (nI q1)), (2, .int (b2 (tKd T L mo p = 24))), (1, .int (nI (3 * k))), (0, .ref 114)], [], M34)
          refine Wn.run (tab := tb_m_bookLine) rfl 5 (c' := (if 0 ≤ (nI 0) then 229 else 223, [(5, .int (nI 0)), (4, .int (nI 0)), (3, .int (nI q1)), (2, .int (b2 (tKd T L mo p = 24))), (1, .int (nI (3 * k))), (0, .ref 114)], [], M34)) (o := []) rfl trivial ?_
          rw [if_pos (show 0 ≤ (nI 0) by decide)]
          show Wn _ 134 _ (229, [(5, .int (nI 0)), (4, .int (nI 0)), (3, .int (nI q1)), (2, .int (b2 (tKd T L mo p = 24))), (1, .int (nI (3 * k))), (0, .ref 114)], [], M34)
          refine Wn.run (tab := tb_m_bookLine) rfl 1 (c' := (230, [(5, .int (nI 0)), (4, .int (nI 0)), (3, .int (nI q1)), (2, .int (b2 (tKd T L mo p = 24))), (1, .int (nI (3 * k))), (0, .ref 114)], [.ref 114], M34)) (o := []) rfl trivial ?_
          refine Wn.callV (p := 114) (n := 1) (ix := 191) (ci := (10)) (PNx M34 g23 T L mo (tNx T L (tNx T L p))) [] [] rfl rfl rfl rfl (Nat.le_of_ble_eq_true rfl) (Nat.le_of_ble_eq_true rfl) (c_m_nx _ M34 g23 T L mo (tNx T L p) hk37 ht36 (by omega) (by omega)) ?_
          rintro _ M43 ⟨rfl, ht44, hx45, hj46, hF47⟩
          show Wn _ 134 _ (233, [(5, .int (nI 0)), (4, .int (nI 0)), (3, .int (nI q1)), (2, .int (b2 (tKd T L mo p = 24))), (1, .int (nI (3 * k))), (0, .ref 114)], [], M43)
          obtain ⟨g48, hg49⟩ : ∃ g9, M43.1 114 = g9 := ⟨_, rfl⟩
          have hx50 := hx45
          rw [hg49] at hx50
          have hf51 : g48 18 = (nI q1) := (hx50 18 (by decide)).trans (show g23 18 = (nI q1) from hf26)
          have hf52 : g48 15 = (g 15) := (hx50 15 (by decide)).trans (show g23 15 = (g 15) from hf27)
          have hf53 : g48 36 = (nI k) := (hx50 36 (by decide)).trans (show g23 36 = (nI k) from hf28)
          have hk54 := frI_fun hF47 (by decide) hk38
          have hc55 := cl_fr hF47 (by decide) hc39
          have hn56 := nf_fr hF47 (by decide) hn40
          have hv57 := rv_fr hF47 (by decide) hv41
          have hF58 := fr_tr hF42 hF47 (by decide)
          refine Wn.run (tab := tb_m_bookLine) rfl 5 (c' := (241, [(5, .int (nI 0)), (4, .int (nI 0)), (3, .int (nI q1)), (2, .int (b2 (tKd T L mo p = 24))), (1, .int (nI (3 * k))), (0, .ref 114)], [], (mI M43 118 (upd (M43.1 118) ((nI (3 * k))).toNatClampNeg (nI 0))))) (o := [shp 114 = (0, 10), aok shp 118 0 (nI (3 * k))]) rfl ⟨rfl, (ak1 (n := 135) rfl rfl rfl (by omega))⟩ ?_
          generalize hM60 : (mI M43 118 (upd (M43.1 118) ((nI (3 * k))).toNatClampNeg (nI 0))) = M59
          have ht61 := TkM_fr (fr_1I hM60) (by decide) ht44
          have hk62 := fI_ne hM60 (by decide) hg49
          have hk63 := fI_upx hM60 hk54 (cl1 rfl (by omega))
          have hc64 := cl_ne hM60 (by decide) hc55
          have hn65 := nf_fr (fr_1I hM60) (by decide) hn56
          have hv66 := rv_fr (fr_1I hM60) (by decide) hv57
          have hF67 := fr_sI hF58 hM60 (by decide)
          show Wn _ 134 _ (241, [(5, .int (nI 0)), (4, .int (nI 0)), (3, .int (nI q1)), (2, .int (b2 (tKd T L mo p = 24))), (1, .int (nI (3 * k))), (0, .ref 114)], [], M59)
          refine Wn.run (tab := tb_m_bookLine) rfl 7 (c' := (251, [(5, .int (nI 0)), (4, .int (nI 0)), (3, .int (nI q1)), (2, .int (b2 (tKd T L mo p = 24))), (1, .int (nI (3 * k))), (0, .ref 114)], [], (mI M59 118 (upd (M59.1 118) (((nI (3 * k)) + (nI 2))).toNatClampNeg (nI 0))))) (o := [shp 114 = (0, 10), aok shp 118 0 ((nI (3 * k)) + (nI 2))]) rfl ⟨rfl, (ak1 (n := 135) rfl rfl (n_add rfl rfl) (by omega))⟩ ?_
          generalize hM69 : (mI M59 118 (upd (M59.1 118) (((nI (3 * k)) + (nI 2))).toNatClampNeg (nI 0))) = M68
          have ht70 := TkM_fr (fr_1I hM69) (by decide) ht61
          have hk71 := fI_ne hM69 (by decide) hk62
          have hk72 := fI_upx hM69 hk63 (cl1 (n_add rfl rfl) (by omega))
          have hc73 := cl_ne hM69 (by decide) hc64
          have hn74 := nf_fr (fr_1I hM69) (by decide) hn65
          have hv75 := rv_fr (fr_1I hM69) (by decide) hv66
          have hF76 := fr_sI hF67 hM69 (by decide)
          show Wn _ 134 _ (251, [(5, .int (nI 0)), (4, .int (nI 0)), (3, .int (nI q1)), (2, .int (b2 (tKd T L mo p = 24))), (1, .int (nI (3 * k))), (0, .ref 114)], [], M68)
          refine Wn.run (tab := tb_m_bookLine) rfl 3 (c' := (if (nI 0) = (nI 2) then 259 else 257, [(5, .int (nI 0)), (4, .int (nI 0)), (3, .int (nI q1)), (2, .int (b2 (tKd T L mo p = 24))), (1, .int (nI (3 * k))), (0, .ref 114)], [], M68)) (o := []) rfl trivial ?_
          rw [if_neg (show ¬ ((nI 0) = (nI 2)) by decide)]
          show Wn _ 134 _ (257, [(5, .int (nI 0)), (4, .int (nI 0)), (3, .int (nI q1)), (2, .int (b2 (tKd T L mo p = 24))), (1, .int (nI (3 * k))), (0, .ref 114)], [], M68)
          refine Wn.run (tab := tb_m_bookLine) rfl 1 (c' := (258, [(5, .int (nI 0)), (4, .int (nI 0)), (3, .int (nI q1)), (2, .int (b2 (tKd T L mo p = 24))), (1, .int (nI (3 * k))), (0, .ref 114)], [.int (nI 1)], M68)) (o := []) rfl trivial ?_
          have e9 : rdB T L mo p ν np k = .inr (tNx T L (tNx T L p), 0, q1, 0) := by unfold rdB; rw [if_neg hk, if_neg (fun q9 => q9 hk1_3)]; simp only [hpc1]; rw [if_neg h1]; unfold rdB1; rw [if_pos (show 17 ≤ tKd T L mo (tNx T L p) ∧ tKd T L mo (tNx T L p) ≤ 20 by omega), hs]
          rw [e9]
          refine Wn.zret rfl (Or.inr rfl) ⟨by rw [hk71]; exact (Gx_tr (Gx_tr (Gx_tr (Gx_rf _ _) (Gx_mono hx9 (by decide))) (Gx_mono hx25 (by decide))) (Gx_mono hx50 (by decide))), hF76, rfl, ht70, ⟨?_, ?_, ?_⟩, fun i hi => ?_, by rw [hk71]; exact hf52⟩
          · rw [hk72, pk_un (by omega), pk_us]
          · rw [hk72, pk_un (by omega), pk_un (by omega), pk_us]
          · intro q9; rw [hk72, pk_us]
          · rw [hk72, pk_un (by omega), pk_un (by omega), pk_un (by omega), h118]
        have hn17 := hs
        clear hs
        by_cases hs : tKd T L mo (tNx T L p) = 18
        · refine Wn.run (tab := tb_m_bookLine) rfl 1 (c' := (109, [(3, .int (nI q1)), (2, .int (b2 (tKd T L mo p = 24))), (1, .int (nI (3 * k))), (0, .ref 114)], [.long (1700885364 : Int64), .ref 114], M34)) (o := []) rfl trivial ?_
          refine Wn.callV (p := 114) (n := 2) (ix := 219) (ci := (10)) (fun r0 M0 => r0 = some (.int (b2 (tKd T L mo (tNx T L p) = 17))) ∧ M34 = M0) [.long (1700885364 : Int64)] [] rfl rfl rfl rfl (Nat.le_of_ble_eq_true rfl) (Nat.le_of_ble_eq_true rfl) (w_m_isWord _ M34 T L mo (tNx T L p) 17 ht36 (by decide) (by decide) (1700885364 : Int64) (by decide) _ ⟨rfl, rfl⟩) ?_
          rintro _ _ ⟨rfl, rfl⟩
          show Wn _ 134 _ (112, [(3, .int (nI q1)), (2, .int (b2 (tKd T L mo p = 24))), (1, .int (nI (3 * k))), (0, .ref 114)], [.int (b2 (tKd T L mo (tNx T L p) = 17))], M34)
          refine Wn.run (tab := tb_m_bookLine) rfl 1 (c' := (if (b2 (tKd T L mo (tNx T L p) = 17)) = 0 then 119 else 115, [(3, .int (nI q1)), (2, .int (b2 (tKd T L mo p = 24))), (1, .int (nI (3 * k))), (0, .ref 114)], [], M34)) (o := []) rfl trivial ?_
          rw [if_pos (b2_e0.mpr (by omega))]
          show Wn _ 134 _ (119, [(3, .int (nI q1)), (2, .int (b2 (tKd T L mo p = 24))), (1, .int (nI (3 * k))), (0, .ref 114)], [], M34)
          refine Wn.run (tab := tb_m_bookLine) rfl 2 (c' := (123, [(3, .int (nI q1)), (2, .int (b2 (tKd T L mo p = 24))), (1, .int (nI (3 * k))), (0, .ref 114)], [.long (495791207528 : Int64), .ref 114], M34)) (o := []) rfl trivial ?_
          refine Wn.callV (p := 114) (n := 2) (ix := 219) (ci := (10)) (fun r0 M0 => r0 = some (.int (b2 (tKd T L mo (tNx T L p) = 18))) ∧ M34 = M0) [.long (495791207528 : Int64)] [] rfl rfl rfl rfl (Nat.le_of_ble_eq_true rfl) (Nat.le_of_ble_eq_true rfl) (w_m_isWord _ M34 T L mo (tNx T L p) 18 ht36 (by decide) (by decide) (495791207528 : Int64) (by decide) _ ⟨rfl, rfl⟩) ?_
          rintro _ _ ⟨rfl, rfl⟩
          show Wn _ 134 _ (126, [(3, .int (nI q1)), (2, .int (b2 (tKd T L mo p = 24))), (1, .int (nI (3 * k))), (0, .ref 114)], [.int (b2 (tKd T L mo (tNx T L p) = 18))], M34)
          refine Wn.run (tab := tb_m_bookLine) rfl 1 (c' := (if (b2 (tKd T L mo (tNx T L p) = 18)) = 0 then 133 else 129, [(3, .int (nI q1)), (2, .int (b2 (tKd T L mo p = 24))), (1, .int (nI (3 * k))), (0, .ref 114)], [], M34)) (o := []) rfl trivial ?_
          rw [if_neg (b2_n0.mpr (by omega))]
          show Wn _ 134 _ (129, [(3, .int (nI q1)), (2, .int (b2 (tKd T L mo p = 24))), (1, .int (nI (3 * k))), (0, .ref 114)], [], M34)
          refine Wn.run (tab := tb_m_bookLine) rfl 5 (c' := (if (nI 1) < 0 then 173 else 169, [(4, .int (nI 1)), (3, .int (nI q1)), (2, .int (b2 (tKd T L mo p = 24))), (1, .int (nI (3 * k))), (0, .ref 114)], [], M34)) (o := []) rfl trivial ?_
          rw [if_neg (show ¬ ((nI 1) < 0) by decide)]
          show Wn _ 134 _ (169, [(4, .int (nI 1)), (3, .int (nI q1)), (2, .int (b2 (tKd T L mo p = 24))), (1, .int (nI (3 * k))), (0, .ref 114)], [], M34)
          refine Wn.run (tab := tb_m_bookLine) rfl 5 (c' := (if 0 ≤ (nI 0) then 229 else 223, [(5, .int (nI 0)), (4, .int (nI 1)), (3, .int (nI q1)), (2, .int (b2 (tKd T L mo p = 24))), (1, .int (nI (3 * k))), (0, .ref 114)], [], M34)) (o := []) rfl trivial ?_
          rw [if_pos (show 0 ≤ (nI 0) by decide)]
          show Wn _ 134 _ (229, [(5, .int (nI 0)), (4, .int (nI 1)), (3, .int (nI q1)), (2, .int (b2 (tKd T L mo p = 24))), (1, .int (nI (3 * k))), (0, .ref 114)], [], M34)
          refine Wn.run (tab := tb_m_bookLine) rfl 1 (c' := (230, [(5, .int (nI 0)), (4, .int (nI 1)), (3, .int (nI q1)), (2, .int (b2 (tKd T L mo p = 24))), (1, .int (nI (3 * k))), (0, .ref 114)], [.ref 114], M34)) (o := []) rfl trivial ?_
          refine Wn.callV (p := 114) (n := 1) (ix := 191) (ci := (10)) (PNx M34 g23 T L mo (tNx T L (tNx T L p))) [] [] rfl rfl rfl rfl (Nat.le_of_ble_eq_true rfl) (Nat.le_of_ble_eq_true rfl) (c_m_nx _ M34 g23 T L mo (tNx T L p) hk37 ht36 (by omega) (by omega)) ?_
          rintro _ M77 ⟨rfl, ht78, hx79, hj80, hF81⟩
          show Wn _ 134 _ (233, [(5, .int (nI 0)), (4, .int (nI 1)), (3, .int (nI q1)), (2, .int (b2 (tKd T L mo p = 24))), (1, .int (nI (3 * k))), (0, .ref 114)], [], M77)
          obtain ⟨g82, hg83⟩ : ∃ g9, M77.1 114 = g9 := ⟨_, rfl⟩
          have hx84 := hx79
          rw [hg83] at hx84
          have hf85 : g82 18 = (nI q1) := (hx84 18 (by decide)).trans (show g23 18 = (nI q1) from hf26)
          have hf86 : g82 15 = (g 15) := (hx84 15 (by decide)).trans (show g23 15 = (g 15) from hf27)
          have hf87 : g82 36 = (nI k) := (hx84 36 (by decide)).trans (show g23 36 = (nI k) from hf28)
          have hk88 := frI_fun hF81 (by decide) hk38
          have hc89 := cl_fr hF81 (by decide) hc39
          have hn90 := nf_fr hF81 (by decide) hn40
          have hv91 := rv_fr hF81 (by decide) hv41
          have hF92 := fr_tr hF42 hF81 (by decide)
          refine Wn.run (tab := tb_m_bookLine) rfl 5 (c' := (241, [(5, .int (nI 0)), (4, .int (nI 1)), (3, .int (nI q1)), (2, .int (b2 (tKd T L mo p = 24))), (1, .int (nI (3 * k))), (0, .ref 114)], [], (mI M77 118 (upd (M77.1 118) ((nI (3 * k))).toNatClampNeg (nI 0))))) (o := [shp 114 = (0, 10), aok shp 118 0 (nI (3 * k))]) rfl ⟨rfl, (ak1 (n := 135) rfl rfl rfl (by omega))⟩ ?_
          generalize hM94 : (mI M77 118 (upd (M77.1 118) ((nI (3 * k))).toNatClampNeg (nI 0))) = M93
          have ht95 := TkM_fr (fr_1I hM94) (by decide) ht78
          have hk96 := fI_ne hM94 (by decide) hg83
          have hk97 := fI_upx hM94 hk88 (cl1 rfl (by omega))
          have hc98 := cl_ne hM94 (by decide) hc89
          have hn99 := nf_fr (fr_1I hM94) (by decide) hn90
          have hv100 := rv_fr (fr_1I hM94) (by decide) hv91
          have hF101 := fr_sI hF92 hM94 (by decide)
          show Wn _ 134 _ (241, [(5, .int (nI 0)), (4, .int (nI 1)), (3, .int (nI q1)), (2, .int (b2 (tKd T L mo p = 24))), (1, .int (nI (3 * k))), (0, .ref 114)], [], M93)
          refine Wn.run (tab := tb_m_bookLine) rfl 7 (c' := (251, [(5, .int (nI 0)), (4, .int (nI 1)), (3, .int (nI q1)), (2, .int (b2 (tKd T L mo p = 24))), (1, .int (nI (3 * k))), (0, .ref 114)], [], (mI M93 118 (upd (M93.1 118) (((nI (3 * k)) + (nI 2))).toNatClampNeg (nI 1))))) (o := [shp 114 = (0, 10), aok shp 118 0 ((nI (3 * k)) + (nI 2))]) rfl ⟨rfl, (ak1 (n := 135) rfl rfl (n_add rfl rfl) (by omega))⟩ ?_
          generalize hM103 : (mI M93 118 (upd (M93.1 118) (((nI (3 * k)) + (nI 2))).toNatClampNeg (nI 1))) = M102
          have ht104 := TkM_fr (fr_1I hM103) (by decide) ht95
          have hk105 := fI_ne hM103 (by decide) hk96
          have hk106 := fI_upx hM103 hk97 (cl1 (n_add rfl rfl) (by omega))
          have hc107 := cl_ne hM103 (by decide) hc98
          have hn108 := nf_fr (fr_1I hM103) (by decide) hn99
          have hv109 := rv_fr (fr_1I hM103) (by decide) hv100
          have hF110 := fr_sI hF101 hM103 (by decide)
          show Wn _ 134 _ (251, [(5, .int (nI 0)), (4, .int (nI 1)), (3, .int (nI q1)), (2, .int (b2 (tKd T L mo p = 24))), (1, .int (nI (3 * k))), (0, .ref 114)], [], M102)
          refine Wn.run (tab := tb_m_bookLine) rfl 3 (c' := (if (nI 0) = (nI 2) then 259 else 257, [(5, .int (nI 0)), (4, .int (nI 1)), (3, .int (nI q1)), (2, .int (b2 (tKd T L mo p = 24))), (1, .int (nI (3 * k))), (0, .ref 114)], [], M102)) (o := []) rfl trivial ?_
          rw [if_neg (show ¬ ((nI 0) = (nI 2)) by decide)]
          show Wn _ 134 _ (257, [(5, .int (nI 0)), (4, .int (nI 1)), (3, .int (nI q1)), (2, .int (b2 (tKd T L mo p = 24))), (1, .int (nI (3 * k))), (0, .ref 114)], [], M102)
          refine Wn.run (tab := tb_m_bookLine) rfl 1 (c' := (258, [(5, .int (nI 0)), (4, .int (nI 1)), (3, .int (nI q1)), (2, .int (b2 (tKd T L mo p = 24))), (1, .int (nI (3 * k))), (0, .ref 114)], [.int (nI 1)], M102)) (o := []) rfl trivial ?_
          have e9 : rdB T L mo p ν np k = .inr (tNx T L (tNx T L p), 0, q1, 1) := by unfold rdB; rw [if_neg hk, if_neg (fun q9 => q9 hk1_3)]; simp only [hpc1]; rw [if_neg h1]; unfold rdB1; rw [if_pos (show 17 ≤ tKd T L mo (tNx T L p) ∧ tKd T L mo (tNx T L p) ≤ 20 by omega), hs]
          rw [e9]
          refine Wn.zret rfl (Or.inr rfl) ⟨by rw [hk105]; exact (Gx_tr (Gx_tr (Gx_tr (Gx_rf _ _) (Gx_mono hx9 (by decide))) (Gx_mono hx25 (by decide))) (Gx_mono hx84 (by decide))), hF110, rfl, ht104, ⟨?_, ?_, ?_⟩, fun i hi => ?_, by rw [hk105]; exact hf86⟩
          · rw [hk106, pk_un (by omega), pk_us]
          · rw [hk106, pk_un (by omega), pk_un (by omega), pk_us]
          · intro q9; rw [hk106, pk_us]
          · rw [hk106, pk_un (by omega), pk_un (by omega), pk_un (by omega), h118]
        have hn18 := hs
        clear hs
        by_cases hs : tKd T L mo (tNx T L p) = 19
        · refine Wn.run (tab := tb_m_bookLine) rfl 1 (c' := (109, [(3, .int (nI q1)), (2, .int (b2 (tKd T L mo p = 24))), (1, .int (nI (3 * k))), (0, .ref 114)], [.long (1700885364 : Int64), .ref 114], M34)) (o := []) rfl trivial ?_
          refine Wn.callV (p := 114) (n := 2) (ix := 219) (ci := (10)) (fun r0 M0 => r0 = some (.int (b2 (tKd T L mo (tNx T L p) = 17))) ∧ M34 = M0) [.long (1700885364 : Int64)] [] rfl rfl rfl rfl (Nat.le_of_ble_eq_true rfl) (Nat.le_of_ble_eq_true rfl) (w_m_isWord _ M34 T L mo (tNx T L p) 17 ht36 (by decide) (by decide) (1700885364 : Int64) (by decide) _ ⟨rfl, rfl⟩) ?_
          rintro _ _ ⟨rfl, rfl⟩
          show Wn _ 134 _ (112, [(3, .int (nI q1)), (2, .int (b2 (tKd T L mo p = 24))), (1, .int (nI (3 * k))), (0, .ref 114)], [.int (b2 (tKd T L mo (tNx T L p) = 17))], M34)
          refine Wn.run (tab := tb_m_bookLine) rfl 1 (c' := (if (b2 (tKd T L mo (tNx T L p) = 17)) = 0 then 119 else 115, [(3, .int (nI q1)), (2, .int (b2 (tKd T L mo p = 24))), (1, .int (nI (3 * k))), (0, .ref 114)], [], M34)) (o := []) rfl trivial ?_
          rw [if_pos (b2_e0.mpr (by omega))]
          show Wn _ 134 _ (119, [(3, .int (nI q1)), (2, .int (b2 (tKd T L mo p = 24))), (1, .int (nI (3 * k))), (0, .ref 114)], [], M34)
          refine Wn.run (tab := tb_m_bookLine) rfl 2 (c' := (123, [(3, .int (nI q1)), (2, .int (b2 (tKd T L mo p = 24))), (1, .int (nI (3 * k))), (0, .ref 114)], [.long (495791207528 : Int64), .ref 114], M34)) (o := []) rfl trivial ?_
          refine Wn.callV (p := 114) (n := 2) (ix := 219) (ci := (10)) (fun r0 M0 => r0 = some (.int (b2 (tKd T L mo (tNx T L p) = 18))) ∧ M34 = M0) [.long (495791207528 : Int64)] [] rfl rfl rfl rfl (Nat.le_of_ble_eq_true rfl) (Nat.le_of_ble_eq_true rfl) (w_m_isWord _ M34 T L mo (tNx T L p) 18 ht36 (by decide) (by decide) (495791207528 : Int64) (by decide) _ ⟨rfl, rfl⟩) ?_
          rintro _ _ ⟨rfl, rfl⟩
          show Wn _ 134 _ (126, [(3, .int (nI q1)), (2, .int (b2 (tKd T L mo p = 24))), (1, .int (nI (3 * k))), (0, .ref 114)], [.int (b2 (tKd T L mo (tNx T L p) = 18))], M34)
          refine Wn.run (tab := tb_m_bookLine) rfl 1 (c' := (if (b2 (tKd T L mo (tNx T L p) = 18)) = 0 then 133 else 129, [(3, .int (nI q1)), (2, .int (b2 (tKd T L mo p = 24))), (1, .int (nI (3 * k))), (0, .ref 114)], [], M34)) (o := []) rfl trivial ?_
          rw [if_pos (b2_e0.mpr (by omega))]
          show Wn _ 134 _ (133, [(3, .int (nI q1)), (2, .int (b2 (tKd T L mo p = 24))), (1, .int (nI (3 * k))), (0, .ref 114)], [], M34)
          refine Wn.run (tab := tb_m_bookLine) rfl 2 (c' := (137, [(3, .int (nI q1)), (2, .int (b2 (tKd T L mo p = 24))), (1, .int (nI (3 * k))), (0, .ref 114)], [.long (2003137396 : Int64), .ref 114], M34)) (o := []) rfl trivial ?_
          refine Wn.callV (p := 114) (n := 2) (ix := 219) (ci := (10)) (fun r0 M0 => r0 = some (.int (b2 (tKd T L mo (tNx T L p) = 19))) ∧ M34 = M0) [.long (2003137396 : Int64)] [] rfl rfl rfl rfl (Nat.le_of_ble_eq_true rfl) (Nat.le_of_ble_eq_true rfl) (w_m_isWord _ M34 T L mo (tNx T L p) 19 ht36 (by decide) (by decide) (2003137396 : Int64) (by decide) _ ⟨rfl, rfl⟩) ?_
          rintro _ _ ⟨rfl, rfl⟩
          show Wn _ 134 _ (140, [(3, .int (nI q1)), (2, .int (b2 (tKd T L mo p = 24))), (1, .int (nI (3 * k))), (0, .ref 114)], [.int (b2 (tKd T L mo (tNx T L p) = 19))], M34)
          refine Wn.run (tab := tb_m_bookLine) rfl 1 (c' := (if (b2 (tKd T L mo (tNx T L p) = 19)) = 0 then 147 else 143, [(3, .int (nI q1)), (2, .int (b2 (tKd T L mo p = 24))), (1, .int (nI (3 * k))), (0, .ref 114)], [], M34)) (o := []) rfl trivial ?_
          rw [if_neg (b2_n0.mpr (by omega))]
          show Wn _ 134 _ (143, [(3, .int (nI q1)), (2, .int (b2 (tKd T L mo p = 24))), (1, .int (nI (3 * k))), (0, .ref 114)], [], M34)
          refine Wn.run (tab := tb_m_bookLine) rfl 5 (c' := (if (nI 2) < 0 then 173 else 169, [(4, .int (nI 2)), (3, .int (nI q1)), (2, .int (b2 (tKd T L mo p = 24))), (1, .int (nI (3 * k))), (0, .ref 114)], [], M34)) (o := []) rfl trivial ?_
          rw [if_neg (show ¬ ((nI 2) < 0) by decide)]
          show Wn _ 134 _ (169, [(4, .int (nI 2)), (3, .int (nI q1)), (2, .int (b2 (tKd T L mo p = 24))), (1, .int (nI (3 * k))), (0, .ref 114)], [], M34)
          refine Wn.run (tab := tb_m_bookLine) rfl 5 (c' := (if 0 ≤ (nI 0) then 229 else 223, [(5, .int (nI 0)), (4, .int (nI 2)), (3, .int (nI q1)), (2, .int (b2 (tKd T L mo p = 24))), (1, .int (nI (3 * k))), (0, .ref 114)], [], M34)) (o := []) rfl trivial ?_
          rw [if_pos (show 0 ≤ (nI 0) by decide)]
          show Wn _ 134 _ (229, [(5, .int (nI 0)), (4, .int (nI 2)), (3, .int (nI q1)), (2, .int (b2 (tKd T L mo p = 24))), (1, .int (nI (3 * k))), (0, .ref 114)], [], M34)
          refine Wn.run (tab := tb_m_bookLine) rfl 1 (c' := (230, [(5, .int (nI 0)), (4, .int (nI 2)), (3, .int (nI q1)), (2, .int (b2 (tKd T L mo p = 24))), (1, .int (nI (3 * k))), (0, .ref 114)], [.ref 114], M34)) (o := []) rfl trivial ?_
          refine Wn.callV (p := 114) (n := 1) (ix := 191) (ci := (10)) (PNx M34 g23 T L mo (tNx T L (tNx T L p))) [] [] rfl rfl rfl rfl (Nat.le_of_ble_eq_true rfl) (Nat.le_of_ble_eq_true rfl) (c_m_nx _ M34 g23 T L mo (tNx T L p) hk37 ht36 (by omega) (by omega)) ?_
          rintro _ M111 ⟨rfl, ht112, hx113, hj114, hF115⟩
          show Wn _ 134 _ (233, [(5, .int (nI 0)), (4, .int (nI 2)), (3, .int (nI q1)), (2, .int (b2 (tKd T L mo p = 24))), (1, .int (nI (3 * k))), (0, .ref 114)], [], M111)
          obtain ⟨g116, hg117⟩ : ∃ g9, M111.1 114 = g9 := ⟨_, rfl⟩
          have hx118 := hx113
          rw [hg117] at hx118
          have hf119 : g116 18 = (nI q1) := (hx118 18 (by decide)).trans (show g23 18 = (nI q1) from hf26)
          have hf120 : g116 15 = (g 15) := (hx118 15 (by decide)).trans (show g23 15 = (g 15) from hf27)
          have hf121 : g116 36 = (nI k) := (hx118 36 (by decide)).trans (show g23 36 = (nI k) from hf28)
          have hk122 := frI_fun hF115 (by decide) hk38
          have hc123 := cl_fr hF115 (by decide) hc39
          have hn124 := nf_fr hF115 (by decide) hn40
          have hv125 := rv_fr hF115 (by decide) hv41
          have hF126 := fr_tr hF42 hF115 (by decide)
          refine Wn.run (tab := tb_m_bookLine) rfl 5 (c' := (241, [(5, .int (nI 0)), (4, .int (nI 2)), (3, .int (nI q1)), (2, .int (b2 (tKd T L mo p = 24))), (1, .int (nI (3 * k))), (0, .ref 114)], [], (mI M111 118 (upd (M111.1 118) ((nI (3 * k))).toNatClampNeg (nI 0))))) (o := [shp 114 = (0, 10), aok shp 118 0 (nI (3 * k))]) rfl ⟨rfl, (ak1 (n := 135) rfl rfl rfl (by omega))⟩ ?_
          generalize hM128 : (mI M111 118 (upd (M111.1 118) ((nI (3 * k))).toNatClampNeg (nI 0))) = M127
          have ht129 := TkM_fr (fr_1I hM128) (by decide) ht112
          have hk130 := fI_ne hM128 (by decide) hg117
          have hk131 := fI_upx hM128 hk122 (cl1 rfl (by omega))
          have hc132 := cl_ne hM128 (by decide) hc123
          have hn133 := nf_fr (fr_1I hM128) (by decide) hn124
          have hv134 := rv_fr (fr_1I hM128) (by decide) hv125
          have hF135 := fr_sI hF126 hM128 (by decide)
          show Wn _ 134 _ (241, [(5, .int (nI 0)), (4, .int (nI 2)), (3, .int (nI q1)), (2, .int (b2 (tKd T L mo p = 24))), (1, .int (nI (3 * k))), (0, .ref 114)], [], M127)
          refine Wn.run (tab := tb_m_bookLine) rfl 7 (c' := (251, [(5, .int (nI 0)), (4, .int (nI 2)), (3, .int (nI q1)), (2, .int (b2 (tKd T L mo p = 24))), (1, .int (nI (3 * k))), (0, .ref 114)], [], (mI M127 118 (upd (M127.1 118) (((nI (3 * k)) + (nI 2))).toNatClampNeg (nI 2))))) (o := [shp 114 = (0, 10), aok shp 118 0 ((nI (3 * k)) + (nI 2))]) rfl ⟨rfl, (ak1 (n := 135) rfl rfl (n_add rfl rfl) (by omega))⟩ ?_
          generalize hM137 : (mI M127 118 (upd (M127.1 118) (((nI (3 * k)) + (nI 2))).toNatClampNeg (nI 2))) = M136
          have ht138 := TkM_fr (fr_1I hM137) (by decide) ht129
          have hk139 := fI_ne hM137 (by decide) hk130
          have hk140 := fI_upx hM137 hk131 (cl1 (n_add rfl rfl) (by omega))
          have hc141 := cl_ne hM137 (by decide) hc132
          have hn142 := nf_fr (fr_1I hM137) (by decide) hn133
          have hv143 := rv_fr (fr_1I hM137) (by decide) hv134
          have hF144 := fr_sI hF135 hM137 (by decide)
          show Wn _ 134 _ (251, [(5, .int (nI 0)), (4, .int (nI 2)), (3, .int (nI q1)), (2, .int (b2 (tKd T L mo p = 24))), (1, .int (nI (3 * k))), (0, .ref 114)], [], M136)
          refine Wn.run (tab := tb_m_bookLine) rfl 3 (c' := (if (nI 0) = (nI 2) then 259 else 257, [(5, .int (nI 0)), (4, .int (nI 2)), (3, .int (nI q1)), (2, .int (b2 (tKd T L mo p = 24))), (1, .int (nI (3 * k))), (0, .ref 114)], [], M136)) (o := []) rfl trivial ?_
          rw [if_neg (show ¬ ((nI 0) = (nI 2)) by decide)]
          show Wn _ 134 _ (257, [(5, .int (nI 0)), (4, .int (nI 2)), (3, .int (nI q1)), (2, .int (b2 (tKd T L mo p = 24))), (1, .int (nI (3 * k))), (0, .ref 114)], [], M136)
          refine Wn.run (tab := tb_m_bookLine) rfl 1 (c' := (258, [(5, .int (nI 0)), (4, .int (nI 2)), (3, .int (nI q1)), (2, .int (b2 (tKd T L mo p = 24))), (1, .int (nI (3 * k))), (0, .ref 114)], [.int (nI 1)], M136)) (o := []) rfl trivial ?_
          have e9 : rdB T L mo p ν np k = .inr (tNx T L (tNx T L p), 0, q1, 2) := by unfold rdB; rw [if_neg hk, if_neg (fun q9 => q9 hk1_3)]; simp only [hpc1]; rw [if_neg h1]; unfold rdB1; rw [if_pos (show 17 ≤ tKd T L mo (tNx T L p) ∧ tKd T L mo (tNx T L p) ≤ 20 by omega), hs]
          rw [e9]
          refine Wn.zret rfl (Or.inr rfl) ⟨by rw [hk139]; exact (Gx_tr (Gx_tr (Gx_tr (Gx_rf _ _) (Gx_mono hx9 (by decide))) (Gx_mono hx25 (by decide))) (Gx_mono hx118 (by decide))), hF144, rfl, ht138, ⟨?_, ?_, ?_⟩, fun i hi => ?_, by rw [hk139]; exact hf120⟩
          · rw [hk140, pk_un (by omega), pk_us]
          · rw [hk140, pk_un (by omega), pk_un (by omega), pk_us]
          · intro q9; rw [hk140, pk_us]
          · rw [hk140, pk_un (by omega), pk_un (by omega), pk_un (by omega), h118]
        have hn19 := hs
        clear hs
        by_cases hs : tKd T L mo (tNx T L p) = 20
        · refine Wn.run (tab := tb_m_bookLine) rfl 1 (c' := (109, [(3, .int (nI q1)), (2, .int (b2 (tKd T L mo p = 24))), (1, .int (nI (3 * k))), (0, .ref 114)], [.long (1700885364 : Int64), .ref 114], M34)) (o := []) rfl trivial ?_
          refine Wn.callV (p := 114) (n := 2) (ix := 219) (ci := (10)) (fun r0 M0 => r0 = some (.int (b2 (tKd T L mo (tNx T L p) = 17))) ∧ M34 = M0) [.long (1700885364 : Int64)] [] rfl rfl rfl rfl (Nat.le_of_ble_eq_true rfl) (Nat.le_of_ble_eq_true rfl) (w_m_isWord _ M34 T L mo (tNx T L p) 17 ht36 (by decide) (by decide) (1700885364 : Int64) (by decide) _ ⟨rfl, rfl⟩) ?_
          rintro _ _ ⟨rfl, rfl⟩
          show Wn _ 134 _ (112, [(3, .int (nI q1)), (2, .int (b2 (tKd T L mo p = 24))), (1, .int (nI (3 * k))), (0, .ref 114)], [.int (b2 (tKd T L mo (tNx T L p) = 17))], M34)
          refine Wn.run (tab := tb_m_bookLine) rfl 1 (c' := (if (b2 (tKd T L mo (tNx T L p) = 17)) = 0 then 119 else 115, [(3, .int (nI q1)), (2, .int (b2 (tKd T L mo p = 24))), (1, .int (nI (3 * k))), (0, .ref 114)], [], M34)) (o := []) rfl trivial ?_
          rw [if_pos (b2_e0.mpr (by omega))]
          show Wn _ 134 _ (119, [(3, .int (nI q1)), (2, .int (b2 (tKd T L mo p = 24))), (1, .int (nI (3 * k))), (0, .ref 114)], [], M34)
          refine Wn.run (tab := tb_m_bookLine) rfl 2 (c' := (123, [(3, .int (nI q1)), (2, .int (b2 (tKd T L mo p = 24))), (1, .int (nI (3 * k))), (0, .ref 114)], [.long (495791207528 : Int64), .ref 114], M34)) (o := []) rfl trivial ?_
          refine Wn.callV (p := 114) (n := 2) (ix := 219) (ci := (10)) (fun r0 M0 => r0 = some (.int (b2 (tKd T L mo (tNx T L p) = 18))) ∧ M34 = M0) [.long (495791207528 : Int64)] [] rfl rfl rfl rfl (Nat.le_of_ble_eq_true rfl) (Nat.le_of_ble_eq_true rfl) (w_m_isWord _ M34 T L mo (tNx T L p) 18 ht36 (by decide) (by decide) (495791207528 : Int64) (by decide) _ ⟨rfl, rfl⟩) ?_
          rintro _ _ ⟨rfl, rfl⟩
          show Wn _ 134 _ (126, [(3, .int (nI q1)), (2, .int (b2 (tKd T L mo p = 24))), (1, .int (nI (3 * k))), (0, .ref 114)], [.int (b2 (tKd T L mo (tNx T L p) = 18))], M34)
          refine Wn.run (tab := tb_m_bookLine) rfl 1 (c' := (if (b2 (tKd T L mo (tNx T L p) = 18)) = 0 then 133 else 129, [(3, .int (nI q1)), (2, .int (b2 (tKd T L mo p = 24))), (1, .int (nI (3 * k))), (0, .ref 114)], [], M34)) (o := []) rfl trivial ?_
          rw [if_pos (b2_e0.mpr (by omega))]
          show Wn _ 134 _ (133, [(3, .int (nI q1)), (2, .int (b2 (tKd T L mo p = 24))), (1, .int (nI (3 * k))), (0, .ref 114)], [], M34)
          refine Wn.run (tab := tb_m_bookLine) rfl 2 (c' := (137, [(3, .int (nI q1)), (2, .int (b2 (tKd T L mo p = 24))), (1, .int (nI (3 * k))), (0, .ref 114)], [.long (2003137396 : Int64), .ref 114], M34)) (o := []) rfl trivial ?_
          refine Wn.callV (p := 114) (n := 2) (ix := 219) (ci := (10)) (fun r0 M0 => r0 = some (.int (b2 (tKd T L mo (tNx T L p) = 19))) ∧ M34 = M0) [.long (2003137396 : Int64)] [] rfl rfl rfl rfl (Nat.le_of_ble_eq_true rfl) (Nat.le_of_ble_eq_true rfl) (w_m_isWord _ M34 T L mo (tNx T L p) 19 ht36 (by decide) (by decide) (2003137396 : Int64) (by decide) _ ⟨rfl, rfl⟩) ?_
          rintro _ _ ⟨rfl, rfl⟩
          show Wn _ 134 _ (140, [(3, .int (nI q1)), (2, .int (b2 (tKd T L mo p = 24))), (1, .int (nI (3 * k))), (0, .ref 114)], [.int (b2 (tKd T L mo (tNx T L p) = 19))], M34)
          refine Wn.run (tab := tb_m_bookLine) rfl 1 (c' := (if (b2 (tKd T L mo (tNx T L p) = 19)) = 0 then 147 else 143, [(3, .int (nI q1)), (2, .int (b2 (tKd T L mo p = 24))), (1, .int (nI (3 * k))), (0, .ref 114)], [], M34)) (o := []) rfl trivial ?_
          rw [if_pos (b2_e0.mpr (by omega))]
          show Wn _ 134 _ (147, [(3, .int (nI q1)), (2, .int (b2 (tKd T L mo p = 24))), (1, .int (nI (3 * k))), (0, .ref 114)], [], M34)
          refine Wn.run (tab := tb_m_bookLine) rfl 2 (c' := (151, [(3, .int (nI q1)), (2, .int (b2 (tKd T L mo p = 24))), (1, .int (nI (3 * k))), (0, .ref 114)], [.long (474316174440 : Int64), .ref 114], M34)) (o := []) rfl trivial ?_
          refine Wn.callV (p := 114) (n := 2) (ix := 219) (ci := (10)) (fun r0 M0 => r0 = some (.int (b2 (tKd T L mo (tNx T L p) = 20))) ∧ M34 = M0) [.long (474316174440 : Int64)] [] rfl rfl rfl rfl (Nat.le_of_ble_eq_true rfl) (Nat.le_of_ble_eq_true rfl) (w_m_isWord _ M34 T L mo (tNx T L p) 20 ht36 (by decide) (by decide) (474316174440 : Int64) (by decide) _ ⟨rfl, rfl⟩) ?_
          rintro _ _ ⟨rfl, rfl⟩
          show Wn _ 134 _ (154, [(3, .int (nI q1)), (2, .int (b2 (tKd T L mo p = 24))), (1, .int (nI (3 * k))), (0, .ref 114)], [.int (b2 (tKd T L mo (tNx T L p) = 20))], M34)
          refine Wn.run (tab := tb_m_bookLine) rfl 1 (c' := (if (b2 (tKd T L mo (tNx T L p) = 20)) = 0 then 161 else 157, [(3, .int (nI q1)), (2, .int (b2 (tKd T L mo p = 24))), (1, .int (nI (3 * k))), (0, .ref 114)], [], M34)) (o := []) rfl trivial ?_
          rw [if_neg (b2_n0.mpr (by omega))]
          show Wn _ 134 _ (157, [(3, .int (nI q1)), (2, .int (b2 (tKd T L mo p = 24))), (1, .int (nI (3 * k))), (0, .ref 114)], [], M34)
          refine Wn.run (tab := tb_m_bookLine) rfl 5 (c' := (if (nI 3) < 0 then 173 else 169, [(4, .int (nI 3)), (3, .int (nI q1)), (2, .int (b2 (tKd T L mo p = 24))), (1, .int (nI (3 * k))), (0, .ref 114)], [], M34)) (o := []) rfl trivial ?_
          rw [if_neg (show ¬ ((nI 3) < 0) by decide)]
          show Wn _ 134 _ (169, [(4, .int (nI 3)), (3, .int (nI q1)), (2, .int (b2 (tKd T L mo p = 24))), (1, .int (nI (3 * k))), (0, .ref 114)], [], M34)
          refine Wn.run (tab := tb_m_bookLine) rfl 5 (c' := (if 0 ≤ (nI 0) then 229 else 223, [(5, .int (nI 0)), (4, .int (nI 3)), (3, .int (nI q1)), (2, .int (b2 (tKd T L mo p = 24))), (1, .int (nI (3 * k))), (0, .ref 114)], [], M34)) (o := []) rfl trivial ?_
          rw [if_pos (show 0 ≤ (nI 0) by decide)]
          show Wn _ 134 _ (229, [(5, .int (nI 0)), (4, .int (nI 3)), (3, .int (nI q1)), (2, .int (b2 (tKd T L mo p = 24))), (1, .int (nI (3 * k))), (0, .ref 114)], [], M34)
          refine Wn.run (tab := tb_m_bookLine) rfl 1 (c' := (230, [(5, .int (nI 0)), (4, .int (nI 3)), (3, .int (nI q1)), (2, .int (b2 (tKd T L mo p = 24))), (1, .int (nI (3 * k))), (0, .ref 114)], [.ref 114], M34)) (o := []) rfl trivial ?_
          refine Wn.callV (p := 114) (n := 1) (ix := 191) (ci := (10)) (PNx M34 g23 T L mo (tNx T L (tNx T L p))) [] [] rfl rfl rfl rfl (Nat.le_of_ble_eq_true rfl) (Nat.le_of_ble_eq_true rfl) (c_m_nx _ M34 g23 T L mo (tNx T L p) hk37 ht36 (by omega) (by omega)) ?_
          rintro _ M145 ⟨rfl, ht146, hx147, hj148, hF149⟩
          show Wn _ 134 _ (233, [(5, .int (nI 0)), (4, .int (nI 3)), (3, .int (nI q1)), (2, .int (b2 (tKd T L mo p = 24))), (1, .int (nI (3 * k))), (0, .ref 114)], [], M145)
          obtain ⟨g150, hg151⟩ : ∃ g9, M145.1 114 = g9 := ⟨_, rfl⟩
          have hx152 := hx147
          rw [hg151] at hx152
          have hf153 : g150 18 = (nI q1) := (hx152 18 (by decide)).trans (show g23 18 = (nI q1) from hf26)
          have hf154 : g150 15 = (g 15) := (hx152 15 (by decide)).trans (show g23 15 = (g 15) from hf27)
          have hf155 : g150 36 = (nI k) := (hx152 36 (by decide)).trans (show g23 36 = (nI k) from hf28)
          have hk156 := frI_fun hF149 (by decide) hk38
          have hc157 := cl_fr hF149 (by decide) hc39
          have hn158 := nf_fr hF149 (by decide) hn40
          have hv159 := rv_fr hF149 (by decide) hv41
          have hF160 := fr_tr hF42 hF149 (by decide)
          refine Wn.run (tab := tb_m_bookLine) rfl 5 (c' := (241, [(5, .int (nI 0)), (4, .int (nI 3)), (3, .int (nI q1)), (2, .int (b2 (tKd T L mo p = 24))), (1, .int (nI (3 * k))), (0, .ref 114)], [], (mI M145 118 (upd (M145.1 118) ((nI (3 * k))).toNatClampNeg (nI 0))))) (o := [shp 114 = (0, 10), aok shp 118 0 (nI (3 * k))]) rfl ⟨rfl, (ak1 (n := 135) rfl rfl rfl (by omega))⟩ ?_
          generalize hM162 : (mI M145 118 (upd (M145.1 118) ((nI (3 * k))).toNatClampNeg (nI 0))) = M161
          have ht163 := TkM_fr (fr_1I hM162) (by decide) ht146
          have hk164 := fI_ne hM162 (by decide) hg151
          have hk165 := fI_upx hM162 hk156 (cl1 rfl (by omega))
          have hc166 := cl_ne hM162 (by decide) hc157
          have hn167 := nf_fr (fr_1I hM162) (by decide) hn158
          have hv168 := rv_fr (fr_1I hM162) (by decide) hv159
          have hF169 := fr_sI hF160 hM162 (by decide)
          show Wn _ 134 _ (241, [(5, .int (nI 0)), (4, .int (nI 3)), (3, .int (nI q1)), (2, .int (b2 (tKd T L mo p = 24))), (1, .int (nI (3 * k))), (0, .ref 114)], [], M161)
          refine Wn.run (tab := tb_m_bookLine) rfl 7 (c' := (251, [(5, .int (nI 0)), (4, .int (nI 3)), (3, .int (nI q1)), (2, .int (b2 (tKd T L mo p = 24))), (1, .int (nI (3 * k))), (0, .ref 114)], [], (mI M161 118 (upd (M161.1 118) (((nI (3 * k)) + (nI 2))).toNatClampNeg (nI 3))))) (o := [shp 114 = (0, 10), aok shp 118 0 ((nI (3 * k)) + (nI 2))]) rfl ⟨rfl, (ak1 (n := 135) rfl rfl (n_add rfl rfl) (by omega))⟩ ?_
          generalize hM171 : (mI M161 118 (upd (M161.1 118) (((nI (3 * k)) + (nI 2))).toNatClampNeg (nI 3))) = M170
          have ht172 := TkM_fr (fr_1I hM171) (by decide) ht163
          have hk173 := fI_ne hM171 (by decide) hk164
          have hk174 := fI_upx hM171 hk165 (cl1 (n_add rfl rfl) (by omega))
          have hc175 := cl_ne hM171 (by decide) hc166
          have hn176 := nf_fr (fr_1I hM171) (by decide) hn167
          have hv177 := rv_fr (fr_1I hM171) (by decide) hv168
          have hF178 := fr_sI hF169 hM171 (by decide)
          show Wn _ 134 _ (251, [(5, .int (nI 0)), (4, .int (nI 3)), (3, .int (nI q1)), (2, .int (b2 (tKd T L mo p = 24))), (1, .int (nI (3 * k))), (0, .ref 114)], [], M170)
          refine Wn.run (tab := tb_m_bookLine) rfl 3 (c' := (if (nI 0) = (nI 2) then 259 else 257, [(5, .int (nI 0)), (4, .int (nI 3)), (3, .int (nI q1)), (2, .int (b2 (tKd T L mo p = 24))), (1, .int (nI (3 * k))), (0, .ref 114)], [], M170)) (o := []) rfl trivial ?_
          rw [if_neg (show ¬ ((nI 0) = (nI 2)) by decide)]
          show Wn _ 134 _ (257, [(5, .int (nI 0)), (4, .int (nI 3)), (3, .int (nI q1)), (2, .int (b2 (tKd T L mo p = 24))), (1, .int (nI (3 * k))), (0, .ref 114)], [], M170)
          refine Wn.run (tab := tb_m_bookLine) rfl 1 (c' := (258, [(5, .int (nI 0)), (4, .int (nI 3)), (3, .int (nI q1)), (2, .int (b2 (tKd T L mo p = 24))), (1, .int (nI (3 * k))), (0, .ref 114)], [.int (nI 1)], M170)) (o := []) rfl trivial ?_
          have e9 : rdB T L mo p ν np k = .inr (tNx T L (tNx T L p), 0, q1, 3) := by unfold rdB; rw [if_neg hk, if_neg (fun q9 => q9 hk1_3)]; simp only [hpc1]; rw [if_neg h1]; unfold rdB1; rw [if_pos (show 17 ≤ tKd T L mo (tNx T L p) ∧ tKd T L mo (tNx T L p) ≤ 20 by omega), hs]
          rw [e9]
          refine Wn.zret rfl (Or.inr rfl) ⟨by rw [hk173]; exact (Gx_tr (Gx_tr (Gx_tr (Gx_rf _ _) (Gx_mono hx9 (by decide))) (Gx_mono hx25 (by decide))) (Gx_mono hx152 (by decide))), hF178, rfl, ht172, ⟨?_, ?_, ?_⟩, fun i hi => ?_, by rw [hk173]; exact hf154⟩
          · rw [hk174, pk_un (by omega), pk_us]
          · rw [hk174, pk_un (by omega), pk_un (by omega), pk_us]
          · intro q9; rw [hk174, pk_us]
          · rw [hk174, pk_un (by omega), pk_un (by omega), pk_un (by omega), h118]
        have hn20 := hs
        clear hs
        by_cases hs : tKd T L mo (tNx T L p) = 21
        · refine Wn.run (tab := tb_m_bookLine) rfl 1 (c' := (109, [(3, .int (nI q1)), (2, .int (b2 (tKd T L mo p = 24))), (1, .int (nI (3 * k))), (0, .ref 114)], [.long (1700885364 : Int64), .ref 114], M34)) (o := []) rfl trivial ?_
          refine Wn.callV (p := 114) (n := 2) (ix := 219) (ci := (10)) (fun r0 M0 => r0 = some (.int (b2 (tKd T L mo (tNx T L p) = 17))) ∧ M34 = M0) [.long (1700885364 : Int64)] [] rfl rfl rfl rfl (Nat.le_of_ble_eq_true rfl) (Nat.le_of_ble_eq_true rfl) (w_m_isWord _ M34 T L mo (tNx T L p) 17 ht36 (by decide) (by decide) (1700885364 : Int64) (by decide) _ ⟨rfl, rfl⟩) ?_
          rintro _ _ ⟨rfl, rfl⟩
          show Wn _ 134 _ (112, [(3, .int (nI q1)), (2, .int (b2 (tKd T L mo p = 24))), (1, .int (nI (3 * k))), (0, .ref 114)], [.int (b2 (tKd T L mo (tNx T L p) = 17))], M34)
          refine Wn.run (tab := tb_m_bookLine) rfl 1 (c' := (if (b2 (tKd T L mo (tNx T L p) = 17)) = 0 then 119 else 115, [(3, .int (nI q1)), (2, .int (b2 (tKd T L mo p = 24))), (1, .int (nI (3 * k))), (0, .ref 114)], [], M34)) (o := []) rfl trivial ?_
          rw [if_pos (b2_e0.mpr (by omega))]
          show Wn _ 134 _ (119, [(3, .int (nI q1)), (2, .int (b2 (tKd T L mo p = 24))), (1, .int (nI (3 * k))), (0, .ref 114)], [], M34)
          refine Wn.run (tab := tb_m_bookLine) rfl 2 (c' := (123, [(3, .int (nI q1)), (2, .int (b2 (tKd T L mo p = 24))), (1, .int (nI (3 * k))), (0, .ref 114)], [.long (495791207528 : Int64), .ref 114], M34)) (o := []) rfl trivial ?_
          refine Wn.callV (p := 114) (n := 2) (ix := 219) (ci := (10)) (fun r0 M0 => r0 = some (.int (b2 (tKd T L mo (tNx T L p) = 18))) ∧ M34 = M0) [.long (495791207528 : Int64)] [] rfl rfl rfl rfl (Nat.le_of_ble_eq_true rfl) (Nat.le_of_ble_eq_true rfl) (w_m_isWord _ M34 T L mo (tNx T L p) 18 ht36 (by decide) (by decide) (495791207528 : Int64) (by decide) _ ⟨rfl, rfl⟩) ?_
          rintro _ _ ⟨rfl, rfl⟩
          show Wn _ 134 _ (126, [(3, .int (nI q1)), (2, .int (b2 (tKd T L mo p = 24))), (1, .int (nI (3 * k))), (0, .ref 114)], [.int (b2 (tKd T L mo (tNx T L p) = 18))], M34)
          refine Wn.run (tab := tb_m_bookLine) rfl 1 (c' := (if (b2 (tKd T L mo (tNx T L p) = 18)) = 0 then 133 else 129, [(3, .int (nI q1)), (2, .int (b2 (tKd T L mo p = 24))), (1, .int (nI (3 * k))), (0, .ref 114)], [], M34)) (o := []) rfl trivial ?_
          rw [if_pos (b2_e0.mpr (by omega))]
          show Wn _ 134 _ (133, [(3, .int (nI q1)), (2, .int (b2 (tKd T L mo p = 24))), (1, .int (nI (3 * k))), (0, .ref 114)], [], M34)
          refine Wn.run (tab := tb_m_bookLine) rfl 2 (c' := (137, [(3, .int (nI q1)), (2, .int (b2 (tKd T L mo p = 24))), (1, .int (nI (3 * k))), (0, .ref 114)], [.long (2003137396 : Int64), .ref 114], M34)) (o := []) rfl trivial ?_
          refine Wn.callV (p := 114) (n := 2) (ix := 219) (ci := (10)) (fun r0 M0 => r0 = some (.int (b2 (tKd T L mo (tNx T L p) = 19))) ∧ M34 = M0) [.long (2003137396 : Int64)] [] rfl rfl rfl rfl (Nat.le_of_ble_eq_true rfl) (Nat.le_of_ble_eq_true rfl) (w_m_isWord _ M34 T L mo (tNx T L p) 19 ht36 (by decide) (by decide) (2003137396 : Int64) (by decide) _ ⟨rfl, rfl⟩) ?_
          rintro _ _ ⟨rfl, rfl⟩
          show Wn _ 134 _ (140, [(3, .int (nI q1)), (2, .int (b2 (tKd T L mo p = 24))), (1, .int (nI (3 * k))), (0, .ref 114)], [.int (b2 (tKd T L mo (tNx T L p) = 19))], M34)
          refine Wn.run (tab := tb_m_bookLine) rfl 1 (c' := (if (b2 (tKd T L mo (tNx T L p) = 19)) = 0 then 147 else 143, [(3, .int (nI q1)), (2, .int (b2 (tKd T L mo p = 24))), (1, .int (nI (3 * k))), (0, .ref 114)], [], M34)) (o := []) rfl trivial ?_
          rw [if_pos (b2_e0.mpr (by omega))]
          show Wn _ 134 _ (147, [(3, .int (nI q1)), (2, .int (b2 (tKd T L mo p = 24))), (1, .int (nI (3 * k))), (0, .ref 114)], [], M34)
          refine Wn.run (tab := tb_m_bookLine) rfl 2 (c' := (151, [(3, .int (nI q1)), (2, .int (b2 (tKd T L mo p = 24))), (1, .int (nI (3 * k))), (0, .ref 114)], [.long (474316174440 : Int64), .ref 114], M34)) (o := []) rfl trivial ?_
          refine Wn.callV (p := 114) (n := 2) (ix := 219) (ci := (10)) (fun r0 M0 => r0 = some (.int (b2 (tKd T L mo (tNx T L p) = 20))) ∧ M34 = M0) [.long (474316174440 : Int64)] [] rfl rfl rfl rfl (Nat.le_of_ble_eq_true rfl) (Nat.le_of_ble_eq_true rfl) (w_m_isWord _ M34 T L mo (tNx T L p) 20 ht36 (by decide) (by decide) (474316174440 : Int64) (by decide) _ ⟨rfl, rfl⟩) ?_
          rintro _ _ ⟨rfl, rfl⟩
          show Wn _ 134 _ (154, [(3, .int (nI q1)), (2, .int (b2 (tKd T L mo p = 24))), (1, .int (nI (3 * k))), (0, .ref 114)], [.int (b2 (tKd T L mo (tNx T L p) = 20))], M34)
          refine Wn.run (tab := tb_m_bookLine) rfl 1 (c' := (if (b2 (tKd T L mo (tNx T L p) = 20)) = 0 then 161 else 157, [(3, .int (nI q1)), (2, .int (b2 (tKd T L mo p = 24))), (1, .int (nI (3 * k))), (0, .ref 114)], [], M34)) (o := []) rfl trivial ?_
          rw [if_pos (b2_e0.mpr (by omega))]
          show Wn _ 134 _ (161, [(3, .int (nI q1)), (2, .int (b2 (tKd T L mo p = 24))), (1, .int (nI (3 * k))), (0, .ref 114)], [], M34)
          refine Wn.run (tab := tb_m_bookLine) rfl 4 (c' := (if (-1 : Int32) < 0 then 173 else 169, [(4, .int (-1 : Int32)), (3, .int (nI q1)), (2, .int (b2 (tKd T L mo p = 24))), (1, .int (nI (3 * k))), (0, .ref 114)], [], M34)) (o := []) rfl trivial ?_
          rw [if_pos (show (-1 : Int32) < 0 by decide)]
          show Wn _ 134 _ (173, [(4, .int (-1 : Int32)), (3, .int (nI q1)), (2, .int (b2 (tKd T L mo p = 24))), (1, .int (nI (3 * k))), (0, .ref 114)], [], M34)
          refine Wn.run (tab := tb_m_bookLine) rfl 2 (c' := (177, [(4, .int (-1 : Int32)), (3, .int (nI q1)), (2, .int (b2 (tKd T L mo p = 24))), (1, .int (nI (3 * k))), (0, .ref 114)], [.long (1651472243 : Int64), .ref 114], M34)) (o := []) rfl trivial ?_
          refine Wn.callV (p := 114) (n := 2) (ix := 219) (ci := (10)) (fun r0 M0 => r0 = some (.int (b2 (tKd T L mo (tNx T L p) = 21))) ∧ M34 = M0) [.long (1651472243 : Int64)] [] rfl rfl rfl rfl (Nat.le_of_ble_eq_true rfl) (Nat.le_of_ble_eq_true rfl) (w_m_isWord _ M34 T L mo (tNx T L p) 21 ht36 (by decide) (by decide) (1651472243 : Int64) (by decide) _ ⟨rfl, rfl⟩) ?_
          rintro _ _ ⟨rfl, rfl⟩
          show Wn _ 134 _ (180, [(4, .int (-1 : Int32)), (3, .int (nI q1)), (2, .int (b2 (tKd T L mo p = 24))), (1, .int (nI (3 * k))), (0, .ref 114)], [.int (b2 (tKd T L mo (tNx T L p) = 21))], M34)
          refine Wn.run (tab := tb_m_bookLine) rfl 1 (c' := (if (b2 (tKd T L mo (tNx T L p) = 21)) = 0 then 187 else 183, [(4, .int (-1 : Int32)), (3, .int (nI q1)), (2, .int (b2 (tKd T L mo p = 24))), (1, .int (nI (3 * k))), (0, .ref 114)], [], M34)) (o := []) rfl trivial ?_
          rw [if_neg (b2_n0.mpr (by omega))]
          show Wn _ 134 _ (183, [(4, .int (-1 : Int32)), (3, .int (nI q1)), (2, .int (b2 (tKd T L mo p = 24))), (1, .int (nI (3 * k))), (0, .ref 114)], [], M34)
          refine Wn.run (tab := tb_m_bookLine) rfl 5 (c' := (if 0 ≤ (nI 1) then 229 else 223, [(5, .int (nI 1)), (4, .int (-1 : Int32)), (3, .int (nI q1)), (2, .int (b2 (tKd T L mo p = 24))), (1, .int (nI (3 * k))), (0, .ref 114)], [], M34)) (o := []) rfl trivial ?_
          rw [if_pos (show 0 ≤ (nI 1) by decide)]
          show Wn _ 134 _ (229, [(5, .int (nI 1)), (4, .int (-1 : Int32)), (3, .int (nI q1)), (2, .int (b2 (tKd T L mo p = 24))), (1, .int (nI (3 * k))), (0, .ref 114)], [], M34)
          refine Wn.run (tab := tb_m_bookLine) rfl 1 (c' := (230, [(5, .int (nI 1)), (4, .int (-1 : Int32)), (3, .int (nI q1)), (2, .int (b2 (tKd T L mo p = 24))), (1, .int (nI (3 * k))), (0, .ref 114)], [.ref 114], M34)) (o := []) rfl trivial ?_
          refine Wn.callV (p := 114) (n := 1) (ix := 191) (ci := (10)) (PNx M34 g23 T L mo (tNx T L (tNx T L p))) [] [] rfl rfl rfl rfl (Nat.le_of_ble_eq_true rfl) (Nat.le_of_ble_eq_true rfl) (c_m_nx _ M34 g23 T L mo (tNx T L p) hk37 ht36 (by omega) (by omega)) ?_
          rintro _ M179 ⟨rfl, ht180, hx181, hj182, hF183⟩
          show Wn _ 134 _ (233, [(5, .int (nI 1)), (4, .int (-1 : Int32)), (3, .int (nI q1)), (2, .int (b2 (tKd T L mo p = 24))), (1, .int (nI (3 * k))), (0, .ref 114)], [], M179)
          obtain ⟨g184, hg185⟩ : ∃ g9, M179.1 114 = g9 := ⟨_, rfl⟩
          have hx186 := hx181
          rw [hg185] at hx186
          have hf187 : g184 18 = (nI q1) := (hx186 18 (by decide)).trans (show g23 18 = (nI q1) from hf26)
          have hf188 : g184 15 = (g 15) := (hx186 15 (by decide)).trans (show g23 15 = (g 15) from hf27)
          have hf189 : g184 36 = (nI k) := (hx186 36 (by decide)).trans (show g23 36 = (nI k) from hf28)
          have hk190 := frI_fun hF183 (by decide) hk38
          have hc191 := cl_fr hF183 (by decide) hc39
          have hn192 := nf_fr hF183 (by decide) hn40
          have hv193 := rv_fr hF183 (by decide) hv41
          have hF194 := fr_tr hF42 hF183 (by decide)
          refine Wn.run (tab := tb_m_bookLine) rfl 5 (c' := (241, [(5, .int (nI 1)), (4, .int (-1 : Int32)), (3, .int (nI q1)), (2, .int (b2 (tKd T L mo p = 24))), (1, .int (nI (3 * k))), (0, .ref 114)], [], (mI M179 118 (upd (M179.1 118) ((nI (3 * k))).toNatClampNeg (nI 1))))) (o := [shp 114 = (0, 10), aok shp 118 0 (nI (3 * k))]) rfl ⟨rfl, (ak1 (n := 135) rfl rfl rfl (by omega))⟩ ?_
          generalize hM196 : (mI M179 118 (upd (M179.1 118) ((nI (3 * k))).toNatClampNeg (nI 1))) = M195
          have ht197 := TkM_fr (fr_1I hM196) (by decide) ht180
          have hk198 := fI_ne hM196 (by decide) hg185
          have hk199 := fI_upx hM196 hk190 (cl1 rfl (by omega))
          have hc200 := cl_ne hM196 (by decide) hc191
          have hn201 := nf_fr (fr_1I hM196) (by decide) hn192
          have hv202 := rv_fr (fr_1I hM196) (by decide) hv193
          have hF203 := fr_sI hF194 hM196 (by decide)
          show Wn _ 134 _ (241, [(5, .int (nI 1)), (4, .int (-1 : Int32)), (3, .int (nI q1)), (2, .int (b2 (tKd T L mo p = 24))), (1, .int (nI (3 * k))), (0, .ref 114)], [], M195)
          refine Wn.run (tab := tb_m_bookLine) rfl 7 (c' := (251, [(5, .int (nI 1)), (4, .int (-1 : Int32)), (3, .int (nI q1)), (2, .int (b2 (tKd T L mo p = 24))), (1, .int (nI (3 * k))), (0, .ref 114)], [], (mI M195 118 (upd (M195.1 118) (((nI (3 * k)) + (nI 2))).toNatClampNeg (-1 : Int32))))) (o := [shp 114 = (0, 10), aok shp 118 0 ((nI (3 * k)) + (nI 2))]) rfl ⟨rfl, (ak1 (n := 135) rfl rfl (n_add rfl rfl) (by omega))⟩ ?_
          generalize hM205 : (mI M195 118 (upd (M195.1 118) (((nI (3 * k)) + (nI 2))).toNatClampNeg (-1 : Int32))) = M204
          have ht206 := TkM_fr (fr_1I hM205) (by decide) ht197
          have hk207 := fI_ne hM205 (by decide) hk198
          have hk208 := fI_upx hM205 hk199 (cl1 (n_add rfl rfl) (by omega))
          have hc209 := cl_ne hM205 (by decide) hc200
          have hn210 := nf_fr (fr_1I hM205) (by decide) hn201
          have hv211 := rv_fr (fr_1I hM205) (by decide) hv202
          have hF212 := fr_sI hF203 hM205 (by decide)
          show Wn _ 134 _ (251, [(5, .int (nI 1)), (4, .int (-1 : Int32)), (3, .int (nI q1)), (2, .int (b2 (tKd T L mo p = 24))), (1, .int (nI (3 * k))), (0, .ref 114)], [], M204)
          refine Wn.run (tab := tb_m_bookLine) rfl 3 (c' := (if (nI 1) = (nI 2) then 259 else 257, [(5, .int (nI 1)), (4, .int (-1 : Int32)), (3, .int (nI q1)), (2, .int (b2 (tKd T L mo p = 24))), (1, .int (nI (3 * k))), (0, .ref 114)], [], M204)) (o := []) rfl trivial ?_
          rw [if_neg (show ¬ ((nI 1) = (nI 2)) by decide)]
          show Wn _ 134 _ (257, [(5, .int (nI 1)), (4, .int (-1 : Int32)), (3, .int (nI q1)), (2, .int (b2 (tKd T L mo p = 24))), (1, .int (nI (3 * k))), (0, .ref 114)], [], M204)
          refine Wn.run (tab := tb_m_bookLine) rfl 1 (c' := (258, [(5, .int (nI 1)), (4, .int (-1 : Int32)), (3, .int (nI q1)), (2, .int (b2 (tKd T L mo p = 24))), (1, .int (nI (3 * k))), (0, .ref 114)], [.int (nI 1)], M204)) (o := []) rfl trivial ?_
          have e9 : rdB T L mo p ν np k = .inr (tNx T L (tNx T L p), 1, q1, 0) := by unfold rdB; rw [if_neg hk, if_neg (fun q9 => q9 hk1_3)]; simp only [hpc1]; rw [if_neg h1]; unfold rdB1; rw [if_neg (show ¬ (17 ≤ tKd T L mo (tNx T L p) ∧ tKd T L mo (tNx T L p) ≤ 20) by omega), if_pos hs]
          rw [e9]
          refine Wn.zret rfl (Or.inr rfl) ⟨by rw [hk207]; exact (Gx_tr (Gx_tr (Gx_tr (Gx_rf _ _) (Gx_mono hx9 (by decide))) (Gx_mono hx25 (by decide))) (Gx_mono hx186 (by decide))), hF212, rfl, ht206, ⟨?_, ?_, ?_⟩, fun i hi => ?_, by rw [hk207]; exact hf188⟩
          · rw [hk208, pk_un (by omega), pk_us]
          · rw [hk208, pk_un (by omega), pk_un (by omega), pk_us]
          · intro q9; exact absurd q9 (by simp)
          · rw [hk208, pk_un (by omega), pk_un (by omega), pk_un (by omega), h118]
        have hn21 := hs
        clear hs
        by_cases hs : tKd T L mo (tNx T L p) = 23
        · refine Wn.run (tab := tb_m_bookLine) rfl 1 (c' := (109, [(3, .int (nI q1)), (2, .int (b2 (tKd T L mo p = 24))), (1, .int (nI (3 * k))), (0, .ref 114)], [.long (1700885364 : Int64), .ref 114], M34)) (o := []) rfl trivial ?_
          refine Wn.callV (p := 114) (n := 2) (ix := 219) (ci := (10)) (fun r0 M0 => r0 = some (.int (b2 (tKd T L mo (tNx T L p) = 17))) ∧ M34 = M0) [.long (1700885364 : Int64)] [] rfl rfl rfl rfl (Nat.le_of_ble_eq_true rfl) (Nat.le_of_ble_eq_true rfl) (w_m_isWord _ M34 T L mo (tNx T L p) 17 ht36 (by decide) (by decide) (1700885364 : Int64) (by decide) _ ⟨rfl, rfl⟩) ?_
          rintro _ _ ⟨rfl, rfl⟩
          show Wn _ 134 _ (112, [(3, .int (nI q1)), (2, .int (b2 (tKd T L mo p = 24))), (1, .int (nI (3 * k))), (0, .ref 114)], [.int (b2 (tKd T L mo (tNx T L p) = 17))], M34)
          refine Wn.run (tab := tb_m_bookLine) rfl 1 (c' := (if (b2 (tKd T L mo (tNx T L p) = 17)) = 0 then 119 else 115, [(3, .int (nI q1)), (2, .int (b2 (tKd T L mo p = 24))), (1, .int (nI (3 * k))), (0, .ref 114)], [], M34)) (o := []) rfl trivial ?_
          rw [if_pos (b2_e0.mpr (by omega))]
          show Wn _ 134 _ (119, [(3, .int (nI q1)), (2, .int (b2 (tKd T L mo p = 24))), (1, .int (nI (3 * k))), (0, .ref 114)], [], M34)
          refine Wn.run (tab := tb_m_bookLine) rfl 2 (c' := (123, [(3, .int (nI q1)), (2, .int (b2 (tKd T L mo p = 24))), (1, .int (nI (3 * k))), (0, .ref 114)], [.long (495791207528 : Int64), .ref 114], M34)) (o := []) rfl trivial ?_
          refine Wn.callV (p := 114) (n := 2) (ix := 219) (ci := (10)) (fun r0 M0 => r0 = some (.int (b2 (tKd T L mo (tNx T L p) = 18))) ∧ M34 = M0) [.long (495791207528 : Int64)] [] rfl rfl rfl rfl (Nat.le_of_ble_eq_true rfl) (Nat.le_of_ble_eq_true rfl) (w_m_isWord _ M34 T L mo (tNx T L p) 18 ht36 (by decide) (by decide) (495791207528 : Int64) (by decide) _ ⟨rfl, rfl⟩) ?_
          rintro _ _ ⟨rfl, rfl⟩
          show Wn _ 134 _ (126, [(3, .int (nI q1)), (2, .int (b2 (tKd T L mo p = 24))), (1, .int (nI (3 * k))), (0, .ref 114)], [.int (b2 (tKd T L mo (tNx T L p) = 18))], M34)
          refine Wn.run (tab := tb_m_bookLine) rfl 1 (c' := (if (b2 (tKd T L mo (tNx T L p) = 18)) = 0 then 133 else 129, [(3, .int (nI q1)), (2, .int (b2 (tKd T L mo p = 24))), (1, .int (nI (3 * k))), (0, .ref 114)], [], M34)) (o := []) rfl trivial ?_
          rw [if_pos (b2_e0.mpr (by omega))]
          show Wn _ 134 _ (133, [(3, .int (nI q1)), (2, .int (b2 (tKd T L mo p = 24))), (1, .int (nI (3 * k))), (0, .ref 114)], [], M34)
          refine Wn.run (tab := tb_m_bookLine) rfl 2 (c' := (137, [(3, .int (nI q1)), (2, .int (b2 (tKd T L mo p = 24))), (1, .int (nI (3 * k))), (0, .ref 114)], [.long (2003137396 : Int64), .ref 114], M34)) (o := []) rfl trivial ?_
          refine Wn.callV (p := 114) (n := 2) (ix := 219) (ci := (10)) (fun r0 M0 => r0 = some (.int (b2 (tKd T L mo (tNx T L p) = 19))) ∧ M34 = M0) [.long (2003137396 : Int64)] [] rfl rfl rfl rfl (Nat.le_of_ble_eq_true rfl) (Nat.le_of_ble_eq_true rfl) (w_m_isWord _ M34 T L mo (tNx T L p) 19 ht36 (by decide) (by decide) (2003137396 : Int64) (by decide) _ ⟨rfl, rfl⟩) ?_
          rintro _ _ ⟨rfl, rfl⟩
          show Wn _ 134 _ (140, [(3, .int (nI q1)), (2, .int (b2 (tKd T L mo p = 24))), (1, .int (nI (3 * k))), (0, .ref 114)], [.int (b2 (tKd T L mo (tNx T L p) = 19))], M34)
          refine Wn.run (tab := tb_m_bookLine) rfl 1 (c' := (if (b2 (tKd T L mo (tNx T L p) = 19)) = 0 then 147 else 143, [(3, .int (nI q1)), (2, .int (b2 (tKd T L mo p = 24))), (1, .int (nI (3 * k))), (0, .ref 114)], [], M34)) (o := []) rfl trivial ?_
          rw [if_pos (b2_e0.mpr (by omega))]
          show Wn _ 134 _ (147, [(3, .int (nI q1)), (2, .int (b2 (tKd T L mo p = 24))), (1, .int (nI (3 * k))), (0, .ref 114)], [], M34)
          refine Wn.run (tab := tb_m_bookLine) rfl 2 (c' := (151, [(3, .int (nI q1)), (2, .int (b2 (tKd T L mo p = 24))), (1, .int (nI (3 * k))), (0, .ref 114)], [.long (474316174440 : Int64), .ref 114], M34)) (o := []) rfl trivial ?_
          refine Wn.callV (p := 114) (n := 2) (ix := 219) (ci := (10)) (fun r0 M0 => r0 = some (.int (b2 (tKd T L mo (tNx T L p) = 20))) ∧ M34 = M0) [.long (474316174440 : Int64)] [] rfl rfl rfl rfl (Nat.le_of_ble_eq_true rfl) (Nat.le_of_ble_eq_true rfl) (w_m_isWord _ M34 T L mo (tNx T L p) 20 ht36 (by decide) (by decide) (474316174440 : Int64) (by decide) _ ⟨rfl, rfl⟩) ?_
          rintro _ _ ⟨rfl, rfl⟩
          show Wn _ 134 _ (154, [(3, .int (nI q1)), (2, .int (b2 (tKd T L mo p = 24))), (1, .int (nI (3 * k))), (0, .ref 114)], [.int (b2 (tKd T L mo (tNx T L p) = 20))], M34)
          refine Wn.run (tab := tb_m_bookLine) rfl 1 (c' := (if (b2 (tKd T L mo (tNx T L p) = 20)) = 0 then 161 else 157, [(3, .int (nI q1)), (2, .int (b2 (tKd T L mo p = 24))), (1, .int (nI (3 * k))), (0, .ref 114)], [], M34)) (o := []) rfl trivial ?_
          rw [if_pos (b2_e0.mpr (by omega))]
          show Wn _ 134 _ (161, [(3, .int (nI q1)), (2, .int (b2 (tKd T L mo p = 24))), (1, .int (nI (3 * k))), (0, .ref 114)], [], M34)
          refine Wn.run (tab := tb_m_bookLine) rfl 4 (c' := (if (-1 : Int32) < 0 then 173 else 169, [(4, .int (-1 : Int32)), (3, .int (nI q1)), (2, .int (b2 (tKd T L mo p = 24))), (1, .int (nI (3 * k))), (0, .ref 114)], [], M34)) (o := []) rfl trivial ?_
          rw [if_pos (show (-1 : Int32) < 0 by decide)]
          show Wn _ 134 _ (173, [(4, .int (-1 : Int32)), (3, .int (nI q1)), (2, .int (b2 (tKd T L mo p = 24))), (1, .int (nI (3 * k))), (0, .ref 114)], [], M34)
          refine Wn.run (tab := tb_m_bookLine) rfl 2 (c' := (177, [(4, .int (-1 : Int32)), (3, .int (nI q1)), (2, .int (b2 (tKd T L mo p = 24))), (1, .int (nI (3 * k))), (0, .ref 114)], [.long (1651472243 : Int64), .ref 114], M34)) (o := []) rfl trivial ?_
          refine Wn.callV (p := 114) (n := 2) (ix := 219) (ci := (10)) (fun r0 M0 => r0 = some (.int (b2 (tKd T L mo (tNx T L p) = 21))) ∧ M34 = M0) [.long (1651472243 : Int64)] [] rfl rfl rfl rfl (Nat.le_of_ble_eq_true rfl) (Nat.le_of_ble_eq_true rfl) (w_m_isWord _ M34 T L mo (tNx T L p) 21 ht36 (by decide) (by decide) (1651472243 : Int64) (by decide) _ ⟨rfl, rfl⟩) ?_
          rintro _ _ ⟨rfl, rfl⟩
          show Wn _ 134 _ (180, [(4, .int (-1 : Int32)), (3, .int (nI q1)), (2, .int (b2 (tKd T L mo p = 24))), (1, .int (nI (3 * k))), (0, .ref 114)], [.int (b2 (tKd T L mo (tNx T L p) = 21))], M34)
          refine Wn.run (tab := tb_m_bookLine) rfl 1 (c' := (if (b2 (tKd T L mo (tNx T L p) = 21)) = 0 then 187 else 183, [(4, .int (-1 : Int32)), (3, .int (nI q1)), (2, .int (b2 (tKd T L mo p = 24))), (1, .int (nI (3 * k))), (0, .ref 114)], [], M34)) (o := []) rfl trivial ?_
          rw [if_pos (b2_e0.mpr (by omega))]
          show Wn _ 134 _ (187, [(4, .int (-1 : Int32)), (3, .int (nI q1)), (2, .int (b2 (tKd T L mo p = 24))), (1, .int (nI (3 * k))), (0, .ref 114)], [], M34)
          refine Wn.run (tab := tb_m_bookLine) rfl 2 (c' := (191, [(4, .int (-1 : Int32)), (3, .int (nI q1)), (2, .int (b2 (tKd T L mo p = 24))), (1, .int (nI (3 * k))), (0, .ref 114)], [.long (31650960098157939 : Int64), .ref 114], M34)) (o := []) rfl trivial ?_
          refine Wn.callV (p := 114) (n := 2) (ix := 219) (ci := (10)) (fun r0 M0 => r0 = some (.int (b2 (tKd T L mo (tNx T L p) = 22))) ∧ M34 = M0) [.long (31650960098157939 : Int64)] [] rfl rfl rfl rfl (Nat.le_of_ble_eq_true rfl) (Nat.le_of_ble_eq_true rfl) (w_m_isWord _ M34 T L mo (tNx T L p) 22 ht36 (by decide) (by decide) (31650960098157939 : Int64) (by decide) _ ⟨rfl, rfl⟩) ?_
          rintro _ _ ⟨rfl, rfl⟩
          show Wn _ 134 _ (194, [(4, .int (-1 : Int32)), (3, .int (nI q1)), (2, .int (b2 (tKd T L mo p = 24))), (1, .int (nI (3 * k))), (0, .ref 114)], [.int (b2 (tKd T L mo (tNx T L p) = 22))], M34)
          refine Wn.run (tab := tb_m_bookLine) rfl 1 (c' := (if (b2 (tKd T L mo (tNx T L p) = 22)) = 0 then 201 else 197, [(4, .int (-1 : Int32)), (3, .int (nI q1)), (2, .int (b2 (tKd T L mo p = 24))), (1, .int (nI (3 * k))), (0, .ref 114)], [], M34)) (o := []) rfl trivial ?_
          rw [if_pos (b2_e0.mpr (by omega))]
          show Wn _ 134 _ (201, [(4, .int (-1 : Int32)), (3, .int (nI q1)), (2, .int (b2 (tKd T L mo p = 24))), (1, .int (nI (3 * k))), (0, .ref 114)], [], M34)
          refine Wn.run (tab := tb_m_bookLine) rfl 2 (c' := (205, [(4, .int (-1 : Int32)), (3, .int (nI q1)), (2, .int (b2 (tKd T L mo p = 24))), (1, .int (nI (3 * k))), (0, .ref 114)], [.long (126956639187571 : Int64), .ref 114], M34)) (o := []) rfl trivial ?_
          refine Wn.callV (p := 114) (n := 2) (ix := 219) (ci := (10)) (fun r0 M0 => r0 = some (.int (b2 (tKd T L mo (tNx T L p) = 23))) ∧ M34 = M0) [.long (126956639187571 : Int64)] [] rfl rfl rfl rfl (Nat.le_of_ble_eq_true rfl) (Nat.le_of_ble_eq_true rfl) (w_m_isWord _ M34 T L mo (tNx T L p) 23 ht36 (by decide) (by decide) (126956639187571 : Int64) (by decide) _ ⟨rfl, rfl⟩) ?_
          rintro _ _ ⟨rfl, rfl⟩
          show Wn _ 134 _ (208, [(4, .int (-1 : Int32)), (3, .int (nI q1)), (2, .int (b2 (tKd T L mo p = 24))), (1, .int (nI (3 * k))), (0, .ref 114)], [.int (b2 (tKd T L mo (tNx T L p) = 23))], M34)
          refine Wn.run (tab := tb_m_bookLine) rfl 1 (c' := (if (b2 (tKd T L mo (tNx T L p) = 23)) = 0 then 215 else 211, [(4, .int (-1 : Int32)), (3, .int (nI q1)), (2, .int (b2 (tKd T L mo p = 24))), (1, .int (nI (3 * k))), (0, .ref 114)], [], M34)) (o := []) rfl trivial ?_
          rw [if_neg (b2_n0.mpr (by omega))]
          show Wn _ 134 _ (211, [(4, .int (-1 : Int32)), (3, .int (nI q1)), (2, .int (b2 (tKd T L mo p = 24))), (1, .int (nI (3 * k))), (0, .ref 114)], [], M34)
          refine Wn.run (tab := tb_m_bookLine) rfl 5 (c' := (if 0 ≤ (nI 3) then 229 else 223, [(5, .int (nI 3)), (4, .int (-1 : Int32)), (3, .int (nI q1)), (2, .int (b2 (tKd T L mo p = 24))), (1, .int (nI (3 * k))), (0, .ref 114)], [], M34)) (o := []) rfl trivial ?_
          rw [if_pos (show 0 ≤ (nI 3) by decide)]
          show Wn _ 134 _ (229, [(5, .int (nI 3)), (4, .int (-1 : Int32)), (3, .int (nI q1)), (2, .int (b2 (tKd T L mo p = 24))), (1, .int (nI (3 * k))), (0, .ref 114)], [], M34)
          refine Wn.run (tab := tb_m_bookLine) rfl 1 (c' := (230, [(5, .int (nI 3)), (4, .int (-1 : Int32)), (3, .int (nI q1)), (2, .int (b2 (tKd T L mo p = 24))), (1, .int (nI (3 * k))), (0, .ref 114)], [.ref 114], M34)) (o := []) rfl trivial ?_
          refine Wn.callV (p := 114) (n := 1) (ix := 191) (ci := (10)) (PNx M34 g23 T L mo (tNx T L (tNx T L p))) [] [] rfl rfl rfl rfl (Nat.le_of_ble_eq_true rfl) (Nat.le_of_ble_eq_true rfl) (c_m_nx _ M34 g23 T L mo (tNx T L p) hk37 ht36 (by omega) (by omega)) ?_
          rintro _ M213 ⟨rfl, ht214, hx215, hj216, hF217⟩
          show Wn _ 134 _ (233, [(5, .int (nI 3)), (4, .int (-1 : Int32)), (3, .int (nI q1)), (2, .int (b2 (tKd T L mo p = 24))), (1, .int (nI (3 * k))), (0, .ref 114)], [], M213)
          obtain ⟨g218, hg219⟩ : ∃ g9, M213.1 114 = g9 := ⟨_, rfl⟩
          have hx220 := hx215
          rw [hg219] at hx220
          have hf221 : g218 18 = (nI q1) := (hx220 18 (by decide)).trans (show g23 18 = (nI q1) from hf26)
          have hf222 : g218 15 = (g 15) := (hx220 15 (by decide)).trans (show g23 15 = (g 15) from hf27)
          have hf223 : g218 36 = (nI k) := (hx220 36 (by decide)).trans (show g23 36 = (nI k) from hf28)
          have hk224 := frI_fun hF217 (by decide) hk38
          have hc225 := cl_fr hF217 (by decide) hc39
          have hn226 := nf_fr hF217 (by decide) hn40
          have hv227 := rv_fr hF217 (by decide) hv41
          have hF228 := fr_tr hF42 hF217 (by decide)
          refine Wn.run (tab := tb_m_bookLine) rfl 5 (c' := (241, [(5, .int (nI 3)), (4, .int (-1 : Int32)), (3, .int (nI q1)), (2, .int (b2 (tKd T L mo p = 24))), (1, .int (nI (3 * k))), (0, .ref 114)], [], (mI M213 118 (upd (M213.1 118) ((nI (3 * k))).toNatClampNeg (nI 3))))) (o := [shp 114 = (0, 10), aok shp 118 0 (nI (3 * k))]) rfl ⟨rfl, (ak1 (n := 135) rfl rfl rfl (by omega))⟩ ?_
          generalize hM230 : (mI M213 118 (upd (M213.1 118) ((nI (3 * k))).toNatClampNeg (nI 3))) = M229
          have ht231 := TkM_fr (fr_1I hM230) (by decide) ht214
          have hk232 := fI_ne hM230 (by decide) hg219
          have hk233 := fI_upx hM230 hk224 (cl1 rfl (by omega))
          have hc234 := cl_ne hM230 (by decide) hc225
          have hn235 := nf_fr (fr_1I hM230) (by decide) hn226
          have hv236 := rv_fr (fr_1I hM230) (by decide) hv227
          have hF237 := fr_sI hF228 hM230 (by decide)
          show Wn _ 134 _ (241, [(5, .int (nI 3)), (4, .int (-1 : Int32)), (3, .int (nI q1)), (2, .int (b2 (tKd T L mo p = 24))), (1, .int (nI (3 * k))), (0, .ref 114)], [], M229)
          refine Wn.run (tab := tb_m_bookLine) rfl 7 (c' := (251, [(5, .int (nI 3)), (4, .int (-1 : Int32)), (3, .int (nI q1)), (2, .int (b2 (tKd T L mo p = 24))), (1, .int (nI (3 * k))), (0, .ref 114)], [], (mI M229 118 (upd (M229.1 118) (((nI (3 * k)) + (nI 2))).toNatClampNeg (-1 : Int32))))) (o := [shp 114 = (0, 10), aok shp 118 0 ((nI (3 * k)) + (nI 2))]) rfl ⟨rfl, (ak1 (n := 135) rfl rfl (n_add rfl rfl) (by omega))⟩ ?_
          generalize hM239 : (mI M229 118 (upd (M229.1 118) (((nI (3 * k)) + (nI 2))).toNatClampNeg (-1 : Int32))) = M238
          have ht240 := TkM_fr (fr_1I hM239) (by decide) ht231
          have hk241 := fI_ne hM239 (by decide) hk232
          have hk242 := fI_upx hM239 hk233 (cl1 (n_add rfl rfl) (by omega))
          have hc243 := cl_ne hM239 (by decide) hc234
          have hn244 := nf_fr (fr_1I hM239) (by decide) hn235
          have hv245 := rv_fr (fr_1I hM239) (by decide) hv236
          have hF246 := fr_sI hF237 hM239 (by decide)
          show Wn _ 134 _ (251, [(5, .int (nI 3)), (4, .int (-1 : Int32)), (3, .int (nI q1)), (2, .int (b2 (tKd T L mo p = 24))), (1, .int (nI (3 * k))), (0, .ref 114)], [], M238)
          refine Wn.run (tab := tb_m_bookLine) rfl 3 (c' := (if (nI 3) = (nI 2) then 259 else 257, [(5, .int (nI 3)), (4, .int (-1 : Int32)), (3, .int (nI q1)), (2, .int (b2 (tKd T L mo p = 24))), (1, .int (nI (3 * k))), (0, .ref 114)], [], M238)) (o := []) rfl trivial ?_
          rw [if_neg (show ¬ ((nI 3) = (nI 2)) by decide)]
          show Wn _ 134 _ (257, [(5, .int (nI 3)), (4, .int (-1 : Int32)), (3, .int (nI q1)), (2, .int (b2 (tKd T L mo p = 24))), (1, .int (nI (3 * k))), (0, .ref 114)], [], M238)
          refine Wn.run (tab := tb_m_bookLine) rfl 1 (c' := (258, [(5, .int (nI 3)), (4, .int (-1 : Int32)), (3, .int (nI q1)), (2, .int (b2 (tKd T L mo p = 24))), (1, .int (nI (3 * k))), (0, .ref 114)], [.int (nI 1)], M238)) (o := []) rfl trivial ?_
          have e9 : rdB T L mo p ν np k = .inr (tNx T L (tNx T L p), 3, q1, 0) := by unfold rdB; rw [if_neg hk, if_neg (fun q9 => q9 hk1_3)]; simp only [hpc1]; rw [if_neg h1]; unfold rdB1; rw [if_neg (show ¬ (17 ≤ tKd T L mo (tNx T L p) ∧ tKd T L mo (tNx T L p) ≤ 20) by omega), if_neg (show ¬ tKd T L mo (tNx T L p) = 21 by omega), if_pos hs]
          rw [e9]
          refine Wn.zret rfl (Or.inr rfl) ⟨by rw [hk241]; exact (Gx_tr (Gx_tr (Gx_tr (Gx_rf _ _) (Gx_mono hx9 (by decide))) (Gx_mono hx25 (by decide))) (Gx_mono hx220 (by decide))), hF246, rfl, ht240, ⟨?_, ?_, ?_⟩, fun i hi => ?_, by rw [hk241]; exact hf222⟩
          · rw [hk242, pk_un (by omega), pk_us]
          · rw [hk242, pk_un (by omega), pk_un (by omega), pk_us]
          · intro q9; exact absurd q9 (by simp)
          · rw [hk242, pk_un (by omega), pk_un (by omega), pk_un (by omega), h118]
        have hn23 := hs
        clear hs
        by_cases hs : tKd T L mo (tNx T L p) = 22
        · refine Wn.run (tab := tb_m_bookLine) rfl 1 (c' := (109, [(3, .int (nI q1)), (2, .int (b2 (tKd T L mo p = 24))), (1, .int (nI (3 * k))), (0, .ref 114)], [.long (1700885364 : Int64), .ref 114], M34)) (o := []) rfl trivial ?_
          refine Wn.callV (p := 114) (n := 2) (ix := 219) (ci := (10)) (fun r0 M0 => r0 = some (.int (b2 (tKd T L mo (tNx T L p) = 17))) ∧ M34 = M0) [.long (1700885364 : Int64)] [] rfl rfl rfl rfl (Nat.le_of_ble_eq_true rfl) (Nat.le_of_ble_eq_true rfl) (w_m_isWord _ M34 T L mo (tNx T L p) 17 ht36 (by decide) (by decide) (1700885364 : Int64) (by decide) _ ⟨rfl, rfl⟩) ?_
          rintro _ _ ⟨rfl, rfl⟩
          show Wn _ 134 _ (112, [(3, .int (nI q1)), (2, .int (b2 (tKd T L mo p = 24))), (1, .int (nI (3 * k))), (0, .ref 114)], [.int (b2 (tKd T L mo (tNx T L p) = 17))], M34)
          refine Wn.run (tab := tb_m_bookLine) rfl 1 (c' := (if (b2 (tKd T L mo (tNx T L p) = 17)) = 0 then 119 else 115, [(3, .int (nI q1)), (2, .int (b2 (tKd T L mo p = 24))), (1, .int (nI (3 * k))), (0, .ref 114)], [], M34)) (o := []) rfl trivial ?_
          rw [if_pos (b2_e0.mpr (by omega))]
          show Wn _ 134 _ (119, [(3, .int (nI q1)), (2, .int (b2 (tKd T L mo p = 24))), (1, .int (nI (3 * k))), (0, .ref 114)], [], M34)
          refine Wn.run (tab := tb_m_bookLine) rfl 2 (c' := (123, [(3, .int (nI q1)), (2, .int (b2 (tKd T L mo p = 24))), (1, .int (nI (3 * k))), (0, .ref 114)], [.long (495791207528 : Int64), .ref 114], M34)) (o := []) rfl trivial ?_
          refine Wn.callV (p := 114) (n := 2) (ix := 219) (ci := (10)) (fun r0 M0 => r0 = some (.int (b2 (tKd T L mo (tNx T L p) = 18))) ∧ M34 = M0) [.long (495791207528 : Int64)] [] rfl rfl rfl rfl (Nat.le_of_ble_eq_true rfl) (Nat.le_of_ble_eq_true rfl) (w_m_isWord _ M34 T L mo (tNx T L p) 18 ht36 (by decide) (by decide) (495791207528 : Int64) (by decide) _ ⟨rfl, rfl⟩) ?_
          rintro _ _ ⟨rfl, rfl⟩
          show Wn _ 134 _ (126, [(3, .int (nI q1)), (2, .int (b2 (tKd T L mo p = 24))), (1, .int (nI (3 * k))), (0, .ref 114)], [.int (b2 (tKd T L mo (tNx T L p) = 18))], M34)
          refine Wn.run (tab := tb_m_bookLine) rfl 1 (c' := (if (b2 (tKd T L mo (tNx T L p) = 18)) = 0 then 133 else 129, [(3, .int (nI q1)), (2, .int (b2 (tKd T L mo p = 24))), (1, .int (nI (3 * k))), (0, .ref 114)], [], M34)) (o := []) rfl trivial ?_
          rw [if_pos (b2_e0.mpr (by omega))]
          show Wn _ 134 _ (133, [(3, .int (nI q1)), (2, .int (b2 (tKd T L mo p = 24))), (1, .int (nI (3 * k))), (0, .ref 114)], [], M34)
          refine Wn.run (tab := tb_m_bookLine) rfl 2 (c' := (137, [(3, .int (nI q1)), (2, .int (b2 (tKd T L mo p = 24))), (1, .int (nI (3 * k))), (0, .ref 114)], [.long (2003137396 : Int64), .ref 114], M34)) (o := []) rfl trivial ?_
          refine Wn.callV (p := 114) (n := 2) (ix := 219) (ci := (10)) (fun r0 M0 => r0 = some (.int (b2 (tKd T L mo (tNx T L p) = 19))) ∧ M34 = M0) [.long (2003137396 : Int64)] [] rfl rfl rfl rfl (Nat.le_of_ble_eq_true rfl) (Nat.le_of_ble_eq_true rfl) (w_m_isWord _ M34 T L mo (tNx T L p) 19 ht36 (by decide) (by decide) (2003137396 : Int64) (by decide) _ ⟨rfl, rfl⟩) ?_
          rintro _ _ ⟨rfl, rfl⟩
          show Wn _ 134 _ (140, [(3, .int (nI q1)), (2, .int (b2 (tKd T L mo p = 24))), (1, .int (nI (3 * k))), (0, .ref 114)], [.int (b2 (tKd T L mo (tNx T L p) = 19))], M34)
          refine Wn.run (tab := tb_m_bookLine) rfl 1 (c' := (if (b2 (tKd T L mo (tNx T L p) = 19)) = 0 then 147 else 143, [(3, .int (nI q1)), (2, .int (b2 (tKd T L mo p = 24))), (1, .int (nI (3 * k))), (0, .ref 114)], [], M34)) (o := []) rfl trivial ?_
          rw [if_pos (b2_e0.mpr (by omega))]
          show Wn _ 134 _ (147, [(3, .int (nI q1)), (2, .int (b2 (tKd T L mo p = 24))), (1, .int (nI (3 * k))), (0, .ref 114)], [], M34)
          refine Wn.run (tab := tb_m_bookLine) rfl 2 (c' := (151, [(3, .int (nI q1)), (2, .int (b2 (tKd T L mo p = 24))), (1, .int (nI (3 * k))), (0, .ref 114)], [.long (474316174440 : Int64), .ref 114], M34)) (o := []) rfl trivial ?_
          refine Wn.callV (p := 114) (n := 2) (ix := 219) (ci := (10)) (fun r0 M0 => r0 = some (.int (b2 (tKd T L mo (tNx T L p) = 20))) ∧ M34 = M0) [.long (474316174440 : Int64)] [] rfl rfl rfl rfl (Nat.le_of_ble_eq_true rfl) (Nat.le_of_ble_eq_true rfl) (w_m_isWord _ M34 T L mo (tNx T L p) 20 ht36 (by decide) (by decide) (474316174440 : Int64) (by decide) _ ⟨rfl, rfl⟩) ?_
          rintro _ _ ⟨rfl, rfl⟩
          show Wn _ 134 _ (154, [(3, .int (nI q1)), (2, .int (b2 (tKd T L mo p = 24))), (1, .int (nI (3 * k))), (0, .ref 114)], [.int (b2 (tKd T L mo (tNx T L p) = 20))], M34)
          refine Wn.run (tab := tb_m_bookLine) rfl 1 (c' := (if (b2 (tKd T L mo (tNx T L p) = 20)) = 0 then 161 else 157, [(3, .int (nI q1)), (2, .int (b2 (tKd T L mo p = 24))), (1, .int (nI (3 * k))), (0, .ref 114)], [], M34)) (o := []) rfl trivial ?_
          rw [if_pos (b2_e0.mpr (by omega))]
          show Wn _ 134 _ (161, [(3, .int (nI q1)), (2, .int (b2 (tKd T L mo p = 24))), (1, .int (nI (3 * k))), (0, .ref 114)], [], M34)
          refine Wn.run (tab := tb_m_bookLine) rfl 4 (c' := (if (-1 : Int32) < 0 then 173 else 169, [(4, .int (-1 : Int32)), (3, .int (nI q1)), (2, .int (b2 (tKd T L mo p = 24))), (1, .int (nI (3 * k))), (0, .ref 114)], [], M34)) (o := []) rfl trivial ?_
          rw [if_pos (show (-1 : Int32) < 0 by decide)]
          show Wn _ 134 _ (173, [(4, .int (-1 : Int32)), (3, .int (nI q1)), (2, .int (b2 (tKd T L mo p = 24))), (1, .int (nI (3 * k))), (0, .ref 114)], [], M34)
          refine Wn.run (tab := tb_m_bookLine) rfl 2 (c' := (177, [(4, .int (-1 : Int32)), (3, .int (nI q1)), (2, .int (b2 (tKd T L mo p = 24))), (1, .int (nI (3 * k))), (0, .ref 114)], [.long (1651472243 : Int64), .ref 114], M34)) (o := []) rfl trivial ?_
          refine Wn.callV (p := 114) (n := 2) (ix := 219) (ci := (10)) (fun r0 M0 => r0 = some (.int (b2 (tKd T L mo (tNx T L p) = 21))) ∧ M34 = M0) [.long (1651472243 : Int64)] [] rfl rfl rfl rfl (Nat.le_of_ble_eq_true rfl) (Nat.le_of_ble_eq_true rfl) (w_m_isWord _ M34 T L mo (tNx T L p) 21 ht36 (by decide) (by decide) (1651472243 : Int64) (by decide) _ ⟨rfl, rfl⟩) ?_
          rintro _ _ ⟨rfl, rfl⟩
          show Wn _ 134 _ (180, [(4, .int (-1 : Int32)), (3, .int (nI q1)), (2, .int (b2 (tKd T L mo p = 24))), (1, .int (nI (3 * k))), (0, .ref 114)], [.int (b2 (tKd T L mo (tNx T L p) = 21))], M34)
          refine Wn.run (tab := tb_m_bookLine) rfl 1 (c' := (if (b2 (tKd T L mo (tNx T L p) = 21)) = 0 then 187 else 183, [(4, .int (-1 : Int32)), (3, .int (nI q1)), (2, .int (b2 (tKd T L mo p = 24))), (1, .int (nI (3 * k))), (0, .ref 114)], [], M34)) (o := []) rfl trivial ?_
          rw [if_pos (b2_e0.mpr (by omega))]
          show Wn _ 134 _ (187, [(4, .int (-1 : Int32)), (3, .int (nI q1)), (2, .int (b2 (tKd T L mo p = 24))), (1, .int (nI (3 * k))), (0, .ref 114)], [], M34)
          refine Wn.run (tab := tb_m_bookLine) rfl 2 (c' := (191, [(4, .int (-1 : Int32)), (3, .int (nI q1)), (2, .int (b2 (tKd T L mo p = 24))), (1, .int (nI (3 * k))), (0, .ref 114)], [.long (31650960098157939 : Int64), .ref 114], M34)) (o := []) rfl trivial ?_
          refine Wn.callV (p := 114) (n := 2) (ix := 219) (ci := (10)) (fun r0 M0 => r0 = some (.int (b2 (tKd T L mo (tNx T L p) = 22))) ∧ M34 = M0) [.long (31650960098157939 : Int64)] [] rfl rfl rfl rfl (Nat.le_of_ble_eq_true rfl) (Nat.le_of_ble_eq_true rfl) (w_m_isWord _ M34 T L mo (tNx T L p) 22 ht36 (by decide) (by decide) (31650960098157939 : Int64) (by decide) _ ⟨rfl, rfl⟩) ?_
          rintro _ _ ⟨rfl, rfl⟩
          show Wn _ 134 _ (194, [(4, .int (-1 : Int32)), (3, .int (nI q1)), (2, .int (b2 (tKd T L mo p = 24))), (1, .int (nI (3 * k))), (0, .ref 114)], [.int (b2 (tKd T L mo (tNx T L p) = 22))], M34)
          refine Wn.run (tab := tb_m_bookLine) rfl 1 (c' := (if (b2 (tKd T L mo (tNx T L p) = 22)) = 0 then 201 else 197, [(4, .int (-1 : Int32)), (3, .int (nI q1)), (2, .int (b2 (tKd T L mo p = 24))), (1, .int (nI (3 * k))), (0, .ref 114)], [], M34)) (o := []) rfl trivial ?_
          rw [if_neg (b2_n0.mpr (by omega))]
          show Wn _ 134 _ (197, [(4, .int (-1 : Int32)), (3, .int (nI q1)), (2, .int (b2 (tKd T L mo p = 24))), (1, .int (nI (3 * k))), (0, .ref 114)], [], M34)
          refine Wn.run (tab := tb_m_bookLine) rfl 5 (c' := (if 0 ≤ (nI 2) then 229 else 223, [(5, .int (nI 2)), (4, .int (-1 : Int32)), (3, .int (nI q1)), (2, .int (b2 (tKd T L mo p = 24))), (1, .int (nI (3 * k))), (0, .ref 114)], [], M34)) (o := []) rfl trivial ?_
          rw [if_pos (show 0 ≤ (nI 2) by decide)]
          show Wn _ 134 _ (229, [(5, .int (nI 2)), (4, .int (-1 : Int32)), (3, .int (nI q1)), (2, .int (b2 (tKd T L mo p = 24))), (1, .int (nI (3 * k))), (0, .ref 114)], [], M34)
          refine Wn.run (tab := tb_m_bookLine) rfl 1 (c' := (230, [(5, .int (nI 2)), (4, .int (-1 : Int32)), (3, .int (nI q1)), (2, .int (b2 (tKd T L mo p = 24))), (1, .int (nI (3 * k))), (0, .ref 114)], [.ref 114], M34)) (o := []) rfl trivial ?_
          refine Wn.callV (p := 114) (n := 1) (ix := 191) (ci := (10)) (PNx M34 g23 T L mo (tNx T L (tNx T L p))) [] [] rfl rfl rfl rfl (Nat.le_of_ble_eq_true rfl) (Nat.le_of_ble_eq_true rfl) (c_m_nx _ M34 g23 T L mo (tNx T L p) hk37 ht36 (by omega) (by omega)) ?_
          rintro _ M247 ⟨rfl, ht248, hx249, hj250, hF251⟩
          show Wn _ 134 _ (233, [(5, .int (nI 2)), (4, .int (-1 : Int32)), (3, .int (nI q1)), (2, .int (b2 (tKd T L mo p = 24))), (1, .int (nI (3 * k))), (0, .ref 114)], [], M247)
          obtain ⟨g252, hg253⟩ : ∃ g9, M247.1 114 = g9 := ⟨_, rfl⟩
          have hx254 := hx249
          rw [hg253] at hx254
          have hf255 : g252 18 = (nI q1) := (hx254 18 (by decide)).trans (show g23 18 = (nI q1) from hf26)
          have hf256 : g252 15 = (g 15) := (hx254 15 (by decide)).trans (show g23 15 = (g 15) from hf27)
          have hf257 : g252 36 = (nI k) := (hx254 36 (by decide)).trans (show g23 36 = (nI k) from hf28)
          have hk258 := frI_fun hF251 (by decide) hk38
          have hc259 := cl_fr hF251 (by decide) hc39
          have hn260 := nf_fr hF251 (by decide) hn40
          have hv261 := rv_fr hF251 (by decide) hv41
          have hF262 := fr_tr hF42 hF251 (by decide)
          refine Wn.run (tab := tb_m_bookLine) rfl 5 (c' := (241, [(5, .int (nI 2)), (4, .int (-1 : Int32)), (3, .int (nI q1)), (2, .int (b2 (tKd T L mo p = 24))), (1, .int (nI (3 * k))), (0, .ref 114)], [], (mI M247 118 (upd (M247.1 118) ((nI (3 * k))).toNatClampNeg (nI 2))))) (o := [shp 114 = (0, 10), aok shp 118 0 (nI (3 * k))]) rfl ⟨rfl, (ak1 (n := 135) rfl rfl rfl (by omega))⟩ ?_
          generalize hM264 : (mI M247 118 (upd (M247.1 118) ((nI (3 * k))).toNatClampNeg (nI 2))) = M263
          have ht265 := TkM_fr (fr_1I hM264) (by decide) ht248
          have hk266 := fI_ne hM264 (by decide) hg253
          have hk267 := fI_upx hM264 hk258 (cl1 rfl (by omega))
          have hc268 := cl_ne hM264 (by decide) hc259
          have hn269 := nf_fr (fr_1I hM264) (by decide) hn260
          have hv270 := rv_fr (fr_1I hM264) (by decide) hv261
          have hF271 := fr_sI hF262 hM264 (by decide)
          show Wn _ 134 _ (241, [(5, .int (nI 2)), (4, .int (-1 : Int32)), (3, .int (nI q1)), (2, .int (b2 (tKd T L mo p = 24))), (1, .int (nI (3 * k))), (0, .ref 114)], [], M263)
          refine Wn.run (tab := tb_m_bookLine) rfl 7 (c' := (251, [(5, .int (nI 2)), (4, .int (-1 : Int32)), (3, .int (nI q1)), (2, .int (b2 (tKd T L mo p = 24))), (1, .int (nI (3 * k))), (0, .ref 114)], [], (mI M263 118 (upd (M263.1 118) (((nI (3 * k)) + (nI 2))).toNatClampNeg (-1 : Int32))))) (o := [shp 114 = (0, 10), aok shp 118 0 ((nI (3 * k)) + (nI 2))]) rfl ⟨rfl, (ak1 (n := 135) rfl rfl (n_add rfl rfl) (by omega))⟩ ?_
          generalize hM273 : (mI M263 118 (upd (M263.1 118) (((nI (3 * k)) + (nI 2))).toNatClampNeg (-1 : Int32))) = M272
          have ht274 := TkM_fr (fr_1I hM273) (by decide) ht265
          have hk275 := fI_ne hM273 (by decide) hk266
          have hk276 := fI_upx hM273 hk267 (cl1 (n_add rfl rfl) (by omega))
          have hc277 := cl_ne hM273 (by decide) hc268
          have hn278 := nf_fr (fr_1I hM273) (by decide) hn269
          have hv279 := rv_fr (fr_1I hM273) (by decide) hv270
          have hF280 := fr_sI hF271 hM273 (by decide)
          show Wn _ 134 _ (251, [(5, .int (nI 2)), (4, .int (-1 : Int32)), (3, .int (nI q1)), (2, .int (b2 (tKd T L mo p = 24))), (1, .int (nI (3 * k))), (0, .ref 114)], [], M272)
          refine Wn.run (tab := tb_m_bookLine) rfl 3 (c' := (if (nI 2) = (nI 2) then 259 else 257, [(5, .int (nI 2)), (4, .int (-1 : Int32)), (3, .int (nI q1)), (2, .int (b2 (tKd T L mo p = 24))), (1, .int (nI (3 * k))), (0, .ref 114)], [], M272)) (o := []) rfl trivial ?_
          rw [if_pos (show (nI 2) = (nI 2) by decide)]
          show Wn _ 134 _ (259, [(5, .int (nI 2)), (4, .int (-1 : Int32)), (3, .int (nI q1)), (2, .int (b2 (tKd T L mo p = 24))), (1, .int (nI (3 * k))), (0, .ref 114)], [], M272)
          refine Wn.run (tab := tb_m_bookLine) rfl 6 (c' := (267, [(5, .int (nI 2)), (4, .int (-1 : Int32)), (3, .int (nI q1)), (2, .int (b2 (tKd T L mo p = 24))), (1, .int (nI (3 * k))), (0, .ref 114)], [.int (M272.1 116 2), .int (nI 0), .ref 114], M272)) (o := [shp 114 = (0, 10), aok shp 116 0 (nI 2)]) rfl ⟨rfl, ⟨rfl, vp_in_nI (by decide) (by decide)⟩⟩ ?_
          rw [show (M272.1 116 2) = (nI np) from hc277]
          by_cases hk2_3 : tKd T L mo (tNx T L (tNx T L p)) = 3
          · cases hpc2 : pcl ν (tNm T L (tNx T L (tNx T L p))) np with
            | some q2 =>
              have q2_n := pcl_lt hpc2
              refine Wn.callV (p := 114) (n := 3) (ix := 413) (ci := (10)) (PTm M272 g252 T L mo (tNx T L (tNx T L p)) [18] (nI q2) (some (.int (nI 1)))) [.int (nI 0), .int (nI np)] [] rfl rfl rfl rfl (Nat.le_of_ble_eq_true rfl) (Nat.le_of_ble_eq_true rfl) (c_m_looksAt_ok _ M272 g252 T L mo (tNx T L (tNx T L p)) hk275 ht274 hv279 0 np (by omega) ν hn278 hk2_3 q2 (by omega) hpc2) ?_
              rintro _ M286 ⟨rfl, ht281, h18282, hx283, hj284, hF285⟩
              show Wn _ 134 _ (270, [(5, .int (nI 2)), (4, .int (-1 : Int32)), (3, .int (nI q1)), (2, .int (b2 (tKd T L mo p = 24))), (1, .int (nI (3 * k))), (0, .ref 114)], [.int (nI 1)], M286)
              obtain ⟨g287, hg288⟩ : ∃ g9, M286.1 114 = g9 := ⟨_, rfl⟩
              have hx289 := hx283
              rw [hg288] at hx289
              have hf290 : g287 15 = (g 15) := (hx289 15 (by decide)).trans (show g252 15 = (g 15) from hf256)
              have hf291 : g287 36 = (nI k) := (hx289 36 (by decide)).trans (show g252 36 = (nI k) from hf257)
              have hf292 : g287 18 = nI q2 := by rw [← hg288]; exact h18282
              have hk293 := frI_fun hF285 (by decide) hk276
              have hc294 := cl_fr hF285 (by decide) hc277
              have hn295 := nf_fr hF285 (by decide) hn278
              have hv296 := rv_fr hF285 (by decide) hv279
              have hF297 := fr_tr hF280 hF285 (by decide)
              refine Wn.run (tab := tb_m_bookLine) rfl 1 (c' := (if ¬ (nI 1) = 0 then 275 else 273, [(5, .int (nI 2)), (4, .int (-1 : Int32)), (3, .int (nI q1)), (2, .int (b2 (tKd T L mo p = 24))), (1, .int (nI (3 * k))), (0, .ref 114)], [], M286)) (o := []) rfl trivial ?_
              rw [if_pos (show ¬ (nI 1) = 0 by decide)]
              show Wn _ 134 _ (275, [(5, .int (nI 2)), (4, .int (-1 : Int32)), (3, .int (nI q1)), (2, .int (b2 (tKd T L mo p = 24))), (1, .int (nI (3 * k))), (0, .ref 114)], [], M286)
              refine Wn.run (tab := tb_m_bookLine) rfl 8 (c' := (287, [(5, .int (nI 2)), (4, .int (-1 : Int32)), (3, .int (nI q1)), (2, .int (b2 (tKd T L mo p = 24))), (1, .int (nI (3 * k))), (0, .ref 114)], [], (mI M286 118 (upd (M286.1 118) (((nI (3 * k)) + (nI 2))).toNatClampNeg (M286.1 114 18))))) (o := [shp 114 = (0, 10), shp 114 = (0, 10), aok shp 118 0 ((nI (3 * k)) + (nI 2))]) rfl ⟨rfl, rfl, (ak1 (n := 135) rfl rfl (n_add rfl rfl) (by omega))⟩ ?_
              rw [show (M286.1 114 18) = (nI q2) from (fr_eq hg288 (show g287 18 = (nI q2) from hf292))]
              generalize hM299 : (mI M286 118 (upd (M286.1 118) (((nI (3 * k)) + (nI 2))).toNatClampNeg (nI q2))) = M298
              have ht300 := TkM_fr (fr_1I hM299) (by decide) ht281
              have hk301 := fI_ne hM299 (by decide) hg288
              have hk302 := fI_upx hM299 hk293 (cl1 (n_add rfl rfl) (by omega))
              have hc303 := cl_ne hM299 (by decide) hc294
              have hn304 := nf_fr (fr_1I hM299) (by decide) hn295
              have hv305 := rv_fr (fr_1I hM299) (by decide) hv296
              have hF306 := fr_sI hF297 hM299 (by decide)
              show Wn _ 134 _ (287, [(5, .int (nI 2)), (4, .int (-1 : Int32)), (3, .int (nI q1)), (2, .int (b2 (tKd T L mo p = 24))), (1, .int (nI (3 * k))), (0, .ref 114)], [], M298)
              refine Wn.run (tab := tb_m_bookLine) rfl 1 (c' := (288, [(5, .int (nI 2)), (4, .int (-1 : Int32)), (3, .int (nI q1)), (2, .int (b2 (tKd T L mo p = 24))), (1, .int (nI (3 * k))), (0, .ref 114)], [.ref 114], M298)) (o := []) rfl trivial ?_
              refine Wn.callV (p := 114) (n := 1) (ix := 191) (ci := (10)) (PNx M298 g287 T L mo (tNx T L (tNx T L (tNx T L p)))) [] [] rfl rfl rfl rfl (Nat.le_of_ble_eq_true rfl) (Nat.le_of_ble_eq_true rfl) (c_m_nx _ M298 g287 T L mo (tNx T L (tNx T L p)) hk301 ht300 (by omega) (by omega)) ?_
              rintro _ M307 ⟨rfl, ht308, hx309, hj310, hF311⟩
              show Wn _ 134 _ (291, [(5, .int (nI 2)), (4, .int (-1 : Int32)), (3, .int (nI q1)), (2, .int (b2 (tKd T L mo p = 24))), (1, .int (nI (3 * k))), (0, .ref 114)], [], M307)
              obtain ⟨g312, hg313⟩ : ∃ g9, M307.1 114 = g9 := ⟨_, rfl⟩
              have hx314 := hx309
              rw [hg313] at hx314
              have hf315 : g312 18 = (nI q2) := (hx314 18 (by decide)).trans (show g287 18 = (nI q2) from hf292)
              have hf316 : g312 15 = (g 15) := (hx314 15 (by decide)).trans (show g287 15 = (g 15) from hf290)
              have hf317 : g312 36 = (nI k) := (hx314 36 (by decide)).trans (show g287 36 = (nI k) from hf291)
              have hk318 := frI_fun hF311 (by decide) hk302
              have hc319 := cl_fr hF311 (by decide) hc303
              have hn320 := nf_fr hF311 (by decide) hn304
              have hv321 := rv_fr hF311 (by decide) hv305
              have hF322 := fr_tr hF306 hF311 (by decide)
              refine Wn.run (tab := tb_m_bookLine) rfl 1 (c' := (292, [(5, .int (nI 2)), (4, .int (-1 : Int32)), (3, .int (nI q1)), (2, .int (b2 (tKd T L mo p = 24))), (1, .int (nI (3 * k))), (0, .ref 114)], [.int (nI 1)], M307)) (o := []) rfl trivial ?_
              have e9 : rdB T L mo p ν np k = .inr (tNx T L (tNx T L (tNx T L p)), 2, q1, q2) := by unfold rdB; rw [if_neg hk, if_neg (fun q9 => q9 hk1_3)]; simp only [hpc1]; rw [if_neg h1]; unfold rdB1; rw [if_neg (show ¬ (17 ≤ tKd T L mo (tNx T L p) ∧ tKd T L mo (tNx T L p) ≤ 20) by omega), if_neg (show ¬ tKd T L mo (tNx T L p) = 21 by omega), if_neg (show ¬ tKd T L mo (tNx T L p) = 23 by omega), if_pos hs, if_neg (fun q9 => q9 hk2_3)]; simp only [hpc2]
              rw [e9]
              refine Wn.zret rfl (Or.inr rfl) ⟨by rw [hg313]; exact (Gx_tr (Gx_tr (Gx_tr (Gx_tr (Gx_tr (Gx_rf _ _) (Gx_mono hx9 (by decide))) (Gx_mono hx25 (by decide))) (Gx_mono hx254 (by decide))) (Gx_mono hx289 (by decide))) (Gx_mono hx314 (by decide))), hF322, rfl, ht308, ⟨?_, ?_, ?_⟩, fun i hi => ?_, by rw [hg313]; exact hf316⟩
              · rw [hk318, pk_un (by omega), pk_un (by omega), pk_us]
              · rw [hk318, pk_un (by omega), pk_un (by omega), pk_un (by omega), pk_us]
              · intro q9; rw [hk318, pk_us]
              · rw [hk318, pk_un (by omega), pk_un (by omega), pk_un (by omega), pk_un (by omega), h118]
            | none =>
              refine Wn.callV (p := 114) (n := 3) (ix := 413) (ci := (10)) (PFm M272 g252 3 (tAt T L mo (tNx T L (tNx T L p))) (some (.int (nI 0)))) [.int (nI 0), .int (nI np)] [] rfl rfl rfl rfl (Nat.le_of_ble_eq_true rfl) (Nat.le_of_ble_eq_true rfl) (c_m_looksAt_no3 _ M272 g252 T L mo (tNx T L (tNx T L p)) hk275 ht274 hv279 0 np (by omega) ν hn278 hk2_3 hpc2) ?_
              rintro _ M327 ⟨rfl, h15323, h16324, hx325, hF326⟩
              show Wn _ 134 _ (270, [(5, .int (nI 2)), (4, .int (-1 : Int32)), (3, .int (nI q1)), (2, .int (b2 (tKd T L mo p = 24))), (1, .int (nI (3 * k))), (0, .ref 114)], [.int (nI 0)], M327)
              obtain ⟨g328, hg329⟩ : ∃ g9, M327.1 114 = g9 := ⟨_, rfl⟩
              have hx330 := hx325
              rw [hg329] at hx330
              have hf331 : g328 15 = nI 3 := by rw [← hg329]; exact h15323
              have hf332 : g328 16 = nI (tAt T L mo (tNx T L (tNx T L p))) := by rw [← hg329]; exact h16324
              have hk333 := frI_fun hF326 (by decide) hk276
              have hc334 := cl_fr hF326 (by decide) hc277
              have hF335 := fr_tr hF280 hF326 (by decide)
              refine Wn.run (tab := tb_m_bookLine) rfl 1 (c' := (if ¬ (nI 0) = 0 then 275 else 273, [(5, .int (nI 2)), (4, .int (-1 : Int32)), (3, .int (nI q1)), (2, .int (b2 (tKd T L mo p = 24))), (1, .int (nI (3 * k))), (0, .ref 114)], [], M327)) (o := []) rfl trivial ?_
              rw [if_neg (show ¬ (¬ (nI 0) = 0) by decide)]
              show Wn _ 134 _ (273, [(5, .int (nI 2)), (4, .int (-1 : Int32)), (3, .int (nI q1)), (2, .int (b2 (tKd T L mo p = 24))), (1, .int (nI (3 * k))), (0, .ref 114)], [], M327)
              refine Wn.run (tab := tb_m_bookLine) rfl 1 (c' := (274, [(5, .int (nI 2)), (4, .int (-1 : Int32)), (3, .int (nI q1)), (2, .int (b2 (tKd T L mo p = 24))), (1, .int (nI (3 * k))), (0, .ref 114)], [.int (nI 0)], M327)) (o := []) rfl trivial ?_
              have e9 : rdB T L mo p ν np k = .inl (3, tAt T L mo (tNx T L (tNx T L p))) := by unfold rdB; rw [if_neg hk, if_neg (fun q9 => q9 hk1_3)]; simp only [hpc1]; rw [if_neg h1]; unfold rdB1; rw [if_neg (show ¬ (17 ≤ tKd T L mo (tNx T L p) ∧ tKd T L mo (tNx T L p) ≤ 20) by omega), if_neg (show ¬ tKd T L mo (tNx T L p) = 21 by omega), if_neg (show ¬ tKd T L mo (tNx T L p) = 23 by omega), if_pos hs, if_neg (fun q9 => q9 hk2_3)]; simp only [hpc2]
              rw [e9]
              exact Wn.zret rfl (Or.inl rfl) ⟨by rw [hg329]; exact (Gx_tr (Gx_tr (Gx_tr (Gx_tr (Gx_rf _ _) (Gx_mono hx9 (by decide))) (Gx_mono hx25 (by decide))) (Gx_mono hx254 (by decide))) (Gx_mono hx330 (by decide))), hF335, rfl, by rw [hg329]; exact hf331, by rw [hg329]; exact hf332⟩
          · refine Wn.callV (p := 114) (n := 3) (ix := 413) (ci := (10)) (PFm M272 g252 1 (tAt T L mo (tNx T L (tNx T L p))) (some (.int (nI 0)))) [.int (nI 0), .int (nI np)] [] rfl rfl rfl rfl (Nat.le_of_ble_eq_true rfl) (Nat.le_of_ble_eq_true rfl) (c_m_looksAt_no1 _ M272 g252 T L mo (tNx T L (tNx T L p)) hk275 ht274 hv279 0 np (by omega) ν hn278 hk2_3) ?_
            rintro _ M340 ⟨rfl, h15336, h16337, hx338, hF339⟩
            show Wn _ 134 _ (270, [(5, .int (nI 2)), (4, .int (-1 : Int32)), (3, .int (nI q1)), (2, .int (b2 (tKd T L mo p = 24))), (1, .int (nI (3 * k))), (0, .ref 114)], [.int (nI 0)], M340)
            obtain ⟨g341, hg342⟩ : ∃ g9, M340.1 114 = g9 := ⟨_, rfl⟩
            have hx343 := hx338
            rw [hg342] at hx343
            have hf344 : g341 15 = nI 1 := by rw [← hg342]; exact h15336
            have hf345 : g341 16 = nI (tAt T L mo (tNx T L (tNx T L p))) := by rw [← hg342]; exact h16337
            have hk346 := frI_fun hF339 (by decide) hk276
            have hc347 := cl_fr hF339 (by decide) hc277
            have hF348 := fr_tr hF280 hF339 (by decide)
            refine Wn.run (tab := tb_m_bookLine) rfl 1 (c' := (if ¬ (nI 0) = 0 then 275 else 273, [(5, .int (nI 2)), (4, .int (-1 : Int32)), (3, .int (nI q1)), (2, .int (b2 (tKd T L mo p = 24))), (1, .int (nI (3 * k))), (0, .ref 114)], [], M340)) (o := []) rfl trivial ?_
            rw [if_neg (show ¬ (¬ (nI 0) = 0) by decide)]
            show Wn _ 134 _ (273, [(5, .int (nI 2)), (4, .int (-1 : Int32)), (3, .int (nI q1)), (2, .int (b2 (tKd T L mo p = 24))), (1, .int (nI (3 * k))), (0, .ref 114)], [], M340)
            refine Wn.run (tab := tb_m_bookLine) rfl 1 (c' := (274, [(5, .int (nI 2)), (4, .int (-1 : Int32)), (3, .int (nI q1)), (2, .int (b2 (tKd T L mo p = 24))), (1, .int (nI (3 * k))), (0, .ref 114)], [.int (nI 0)], M340)) (o := []) rfl trivial ?_
            have e9 : rdB T L mo p ν np k = .inl (1, tAt T L mo (tNx T L (tNx T L p))) := by unfold rdB; rw [if_neg hk, if_neg (fun q9 => q9 hk1_3)]; simp only [hpc1]; rw [if_neg h1]; unfold rdB1; rw [if_neg (show ¬ (17 ≤ tKd T L mo (tNx T L p) ∧ tKd T L mo (tNx T L p) ≤ 20) by omega), if_neg (show ¬ tKd T L mo (tNx T L p) = 21 by omega), if_neg (show ¬ tKd T L mo (tNx T L p) = 23 by omega), if_pos hs, if_pos hk2_3]
            rw [e9]
            exact Wn.zret rfl (Or.inl rfl) ⟨by rw [hg342]; exact (Gx_tr (Gx_tr (Gx_tr (Gx_tr (Gx_rf _ _) (Gx_mono hx9 (by decide))) (Gx_mono hx25 (by decide))) (Gx_mono hx254 (by decide))) (Gx_mono hx343 (by decide))), hF348, rfl, by rw [hg342]; exact hf344, by rw [hg342]; exact hf345⟩
        have hn22 := hs
        clear hs
        refine Wn.run (tab := tb_m_bookLine) rfl 1 (c' := (109, [(3, .int (nI q1)), (2, .int (b2 (tKd T L mo p = 24))), (1, .int (nI (3 * k))), (0, .ref 114)], [.long (1700885364 : Int64), .ref 114], M34)) (o := []) rfl trivial ?_
        refine Wn.callV (p := 114) (n := 2) (ix := 219) (ci := (10)) (fun r0 M0 => r0 = some (.int (b2 (tKd T L mo (tNx T L p) = 17))) ∧ M34 = M0) [.long (1700885364 : Int64)] [] rfl rfl rfl rfl (Nat.le_of_ble_eq_true rfl) (Nat.le_of_ble_eq_true rfl) (w_m_isWord _ M34 T L mo (tNx T L p) 17 ht36 (by decide) (by decide) (1700885364 : Int64) (by decide) _ ⟨rfl, rfl⟩) ?_
        rintro _ _ ⟨rfl, rfl⟩
        show Wn _ 134 _ (112, [(3, .int (nI q1)), (2, .int (b2 (tKd T L mo p = 24))), (1, .int (nI (3 * k))), (0, .ref 114)], [.int (b2 (tKd T L mo (tNx T L p) = 17))], M34)
        refine Wn.run (tab := tb_m_bookLine) rfl 1 (c' := (if (b2 (tKd T L mo (tNx T L p) = 17)) = 0 then 119 else 115, [(3, .int (nI q1)), (2, .int (b2 (tKd T L mo p = 24))), (1, .int (nI (3 * k))), (0, .ref 114)], [], M34)) (o := []) rfl trivial ?_
        rw [if_pos (b2_e0.mpr (by omega))]
        show Wn _ 134 _ (119, [(3, .int (nI q1)), (2, .int (b2 (tKd T L mo p = 24))), (1, .int (nI (3 * k))), (0, .ref 114)], [], M34)
        refine Wn.run (tab := tb_m_bookLine) rfl 2 (c' := (123, [(3, .int (nI q1)), (2, .int (b2 (tKd T L mo p = 24))), (1, .int (nI (3 * k))), (0, .ref 114)], [.long (495791207528 : Int64), .ref 114], M34)) (o := []) rfl trivial ?_
        refine Wn.callV (p := 114) (n := 2) (ix := 219) (ci := (10)) (fun r0 M0 => r0 = some (.int (b2 (tKd T L mo (tNx T L p) = 18))) ∧ M34 = M0) [.long (495791207528 : Int64)] [] rfl rfl rfl rfl (Nat.le_of_ble_eq_true rfl) (Nat.le_of_ble_eq_true rfl) (w_m_isWord _ M34 T L mo (tNx T L p) 18 ht36 (by decide) (by decide) (495791207528 : Int64) (by decide) _ ⟨rfl, rfl⟩) ?_
        rintro _ _ ⟨rfl, rfl⟩
        show Wn _ 134 _ (126, [(3, .int (nI q1)), (2, .int (b2 (tKd T L mo p = 24))), (1, .int (nI (3 * k))), (0, .ref 114)], [.int (b2 (tKd T L mo (tNx T L p) = 18))], M34)
        refine Wn.run (tab := tb_m_bookLine) rfl 1 (c' := (if (b2 (tKd T L mo (tNx T L p) = 18)) = 0 then 133 else 129, [(3, .int (nI q1)), (2, .int (b2 (tKd T L mo p = 24))), (1, .int (nI (3 * k))), (0, .ref 114)], [], M34)) (o := []) rfl trivial ?_
        rw [if_pos (b2_e0.mpr (by omega))]
        show Wn _ 134 _ (133, [(3, .int (nI q1)), (2, .int (b2 (tKd T L mo p = 24))), (1, .int (nI (3 * k))), (0, .ref 114)], [], M34)
        refine Wn.run (tab := tb_m_bookLine) rfl 2 (c' := (137, [(3, .int (nI q1)), (2, .int (b2 (tKd T L mo p = 24))), (1, .int (nI (3 * k))), (0, .ref 114)], [.long (2003137396 : Int64), .ref 114], M34)) (o := []) rfl trivial ?_
        refine Wn.callV (p := 114) (n := 2) (ix := 219) (ci := (10)) (fun r0 M0 => r0 = some (.int (b2 (tKd T L mo (tNx T L p) = 19))) ∧ M34 = M0) [.long (2003137396 : Int64)] [] rfl rfl rfl rfl (Nat.le_of_ble_eq_true rfl) (Nat.le_of_ble_eq_true rfl) (w_m_isWord _ M34 T L mo (tNx T L p) 19 ht36 (by decide) (by decide) (2003137396 : Int64) (by decide) _ ⟨rfl, rfl⟩) ?_
        rintro _ _ ⟨rfl, rfl⟩
        show Wn _ 134 _ (140, [(3, .int (nI q1)), (2, .int (b2 (tKd T L mo p = 24))), (1, .int (nI (3 * k))), (0, .ref 114)], [.int (b2 (tKd T L mo (tNx T L p) = 19))], M34)
        refine Wn.run (tab := tb_m_bookLine) rfl 1 (c' := (if (b2 (tKd T L mo (tNx T L p) = 19)) = 0 then 147 else 143, [(3, .int (nI q1)), (2, .int (b2 (tKd T L mo p = 24))), (1, .int (nI (3 * k))), (0, .ref 114)], [], M34)) (o := []) rfl trivial ?_
        rw [if_pos (b2_e0.mpr (by omega))]
        show Wn _ 134 _ (147, [(3, .int (nI q1)), (2, .int (b2 (tKd T L mo p = 24))), (1, .int (nI (3 * k))), (0, .ref 114)], [], M34)
        refine Wn.run (tab := tb_m_bookLine) rfl 2 (c' := (151, [(3, .int (nI q1)), (2, .int (b2 (tKd T L mo p = 24))), (1, .int (nI (3 * k))), (0, .ref 114)], [.long (474316174440 : Int64), .ref 114], M34)) (o := []) rfl trivial ?_
        refine Wn.callV (p := 114) (n := 2) (ix := 219) (ci := (10)) (fun r0 M0 => r0 = some (.int (b2 (tKd T L mo (tNx T L p) = 20))) ∧ M34 = M0) [.long (474316174440 : Int64)] [] rfl rfl rfl rfl (Nat.le_of_ble_eq_true rfl) (Nat.le_of_ble_eq_true rfl) (w_m_isWord _ M34 T L mo (tNx T L p) 20 ht36 (by decide) (by decide) (474316174440 : Int64) (by decide) _ ⟨rfl, rfl⟩) ?_
        rintro _ _ ⟨rfl, rfl⟩
        show Wn _ 134 _ (154, [(3, .int (nI q1)), (2, .int (b2 (tKd T L mo p = 24))), (1, .int (nI (3 * k))), (0, .ref 114)], [.int (b2 (tKd T L mo (tNx T L p) = 20))], M34)
        refine Wn.run (tab := tb_m_bookLine) rfl 1 (c' := (if (b2 (tKd T L mo (tNx T L p) = 20)) = 0 then 161 else 157, [(3, .int (nI q1)), (2, .int (b2 (tKd T L mo p = 24))), (1, .int (nI (3 * k))), (0, .ref 114)], [], M34)) (o := []) rfl trivial ?_
        rw [if_pos (b2_e0.mpr (by omega))]
        show Wn _ 134 _ (161, [(3, .int (nI q1)), (2, .int (b2 (tKd T L mo p = 24))), (1, .int (nI (3 * k))), (0, .ref 114)], [], M34)
        refine Wn.run (tab := tb_m_bookLine) rfl 4 (c' := (if (-1 : Int32) < 0 then 173 else 169, [(4, .int (-1 : Int32)), (3, .int (nI q1)), (2, .int (b2 (tKd T L mo p = 24))), (1, .int (nI (3 * k))), (0, .ref 114)], [], M34)) (o := []) rfl trivial ?_
        rw [if_pos (show (-1 : Int32) < 0 by decide)]
        show Wn _ 134 _ (173, [(4, .int (-1 : Int32)), (3, .int (nI q1)), (2, .int (b2 (tKd T L mo p = 24))), (1, .int (nI (3 * k))), (0, .ref 114)], [], M34)
        refine Wn.run (tab := tb_m_bookLine) rfl 2 (c' := (177, [(4, .int (-1 : Int32)), (3, .int (nI q1)), (2, .int (b2 (tKd T L mo p = 24))), (1, .int (nI (3 * k))), (0, .ref 114)], [.long (1651472243 : Int64), .ref 114], M34)) (o := []) rfl trivial ?_
        refine Wn.callV (p := 114) (n := 2) (ix := 219) (ci := (10)) (fun r0 M0 => r0 = some (.int (b2 (tKd T L mo (tNx T L p) = 21))) ∧ M34 = M0) [.long (1651472243 : Int64)] [] rfl rfl rfl rfl (Nat.le_of_ble_eq_true rfl) (Nat.le_of_ble_eq_true rfl) (w_m_isWord _ M34 T L mo (tNx T L p) 21 ht36 (by decide) (by decide) (1651472243 : Int64) (by decide) _ ⟨rfl, rfl⟩) ?_
        rintro _ _ ⟨rfl, rfl⟩
        show Wn _ 134 _ (180, [(4, .int (-1 : Int32)), (3, .int (nI q1)), (2, .int (b2 (tKd T L mo p = 24))), (1, .int (nI (3 * k))), (0, .ref 114)], [.int (b2 (tKd T L mo (tNx T L p) = 21))], M34)
        refine Wn.run (tab := tb_m_bookLine) rfl 1 (c' := (if (b2 (tKd T L mo (tNx T L p) = 21)) = 0 then 187 else 183, [(4, .int (-1 : Int32)), (3, .int (nI q1)), (2, .int (b2 (tKd T L mo p = 24))), (1, .int (nI (3 * k))), (0, .ref 114)], [], M34)) (o := []) rfl trivial ?_
        rw [if_pos (b2_e0.mpr (by omega))]
        show Wn _ 134 _ (187, [(4, .int (-1 : Int32)), (3, .int (nI q1)), (2, .int (b2 (tKd T L mo p = 24))), (1, .int (nI (3 * k))), (0, .ref 114)], [], M34)
        refine Wn.run (tab := tb_m_bookLine) rfl 2 (c' := (191, [(4, .int (-1 : Int32)), (3, .int (nI q1)), (2, .int (b2 (tKd T L mo p = 24))), (1, .int (nI (3 * k))), (0, .ref 114)], [.long (31650960098157939 : Int64), .ref 114], M34)) (o := []) rfl trivial ?_
        refine Wn.callV (p := 114) (n := 2) (ix := 219) (ci := (10)) (fun r0 M0 => r0 = some (.int (b2 (tKd T L mo (tNx T L p) = 22))) ∧ M34 = M0) [.long (31650960098157939 : Int64)] [] rfl rfl rfl rfl (Nat.le_of_ble_eq_true rfl) (Nat.le_of_ble_eq_true rfl) (w_m_isWord _ M34 T L mo (tNx T L p) 22 ht36 (by decide) (by decide) (31650960098157939 : Int64) (by decide) _ ⟨rfl, rfl⟩) ?_
        rintro _ _ ⟨rfl, rfl⟩
        show Wn _ 134 _ (194, [(4, .int (-1 : Int32)), (3, .int (nI q1)), (2, .int (b2 (tKd T L mo p = 24))), (1, .int (nI (3 * k))), (0, .ref 114)], [.int (b2 (tKd T L mo (tNx T L p) = 22))], M34)
        refine Wn.run (tab := tb_m_bookLine) rfl 1 (c' := (if (b2 (tKd T L mo (tNx T L p) = 22)) = 0 then 201 else 197, [(4, .int (-1 : Int32)), (3, .int (nI q1)), (2, .int (b2 (tKd T L mo p = 24))), (1, .int (nI (3 * k))), (0, .ref 114)], [], M34)) (o := []) rfl trivial ?_
        rw [if_pos (b2_e0.mpr (by omega))]
        show Wn _ 134 _ (201, [(4, .int (-1 : Int32)), (3, .int (nI q1)), (2, .int (b2 (tKd T L mo p = 24))), (1, .int (nI (3 * k))), (0, .ref 114)], [], M34)
        refine Wn.run (tab := tb_m_bookLine) rfl 2 (c' := (205, [(4, .int (-1 : Int32)), (3, .int (nI q1)), (2, .int (b2 (tKd T L mo p = 24))), (1, .int (nI (3 * k))), (0, .ref 114)], [.long (126956639187571 : Int64), .ref 114], M34)) (o := []) rfl trivial ?_
        refine Wn.callV (p := 114) (n := 2) (ix := 219) (ci := (10)) (fun r0 M0 => r0 = some (.int (b2 (tKd T L mo (tNx T L p) = 23))) ∧ M34 = M0) [.long (126956639187571 : Int64)] [] rfl rfl rfl rfl (Nat.le_of_ble_eq_true rfl) (Nat.le_of_ble_eq_true rfl) (w_m_isWord _ M34 T L mo (tNx T L p) 23 ht36 (by decide) (by decide) (126956639187571 : Int64) (by decide) _ ⟨rfl, rfl⟩) ?_
        rintro _ _ ⟨rfl, rfl⟩
        show Wn _ 134 _ (208, [(4, .int (-1 : Int32)), (3, .int (nI q1)), (2, .int (b2 (tKd T L mo p = 24))), (1, .int (nI (3 * k))), (0, .ref 114)], [.int (b2 (tKd T L mo (tNx T L p) = 23))], M34)
        refine Wn.run (tab := tb_m_bookLine) rfl 1 (c' := (if (b2 (tKd T L mo (tNx T L p) = 23)) = 0 then 215 else 211, [(4, .int (-1 : Int32)), (3, .int (nI q1)), (2, .int (b2 (tKd T L mo p = 24))), (1, .int (nI (3 * k))), (0, .ref 114)], [], M34)) (o := []) rfl trivial ?_
        rw [if_pos (b2_e0.mpr (by omega))]
        show Wn _ 134 _ (215, [(4, .int (-1 : Int32)), (3, .int (nI q1)), (2, .int (b2 (tKd T L mo p = 24))), (1, .int (nI (3 * k))), (0, .ref 114)], [], M34)
        refine Wn.run (tab := tb_m_bookLine) rfl 4 (c' := (if 0 ≤ (-1 : Int32) then 229 else 223, [(5, .int (-1 : Int32)), (4, .int (-1 : Int32)), (3, .int (nI q1)), (2, .int (b2 (tKd T L mo p = 24))), (1, .int (nI (3 * k))), (0, .ref 114)], [], M34)) (o := []) rfl trivial ?_
        rw [if_neg (show ¬ (0 ≤ (-1 : Int32)) by decide)]
        show Wn _ 134 _ (223, [(5, .int (-1 : Int32)), (4, .int (-1 : Int32)), (3, .int (nI q1)), (2, .int (b2 (tKd T L mo p = 24))), (1, .int (nI (3 * k))), (0, .ref 114)], [], M34)
        refine Wn.run (tab := tb_m_bookLine) rfl 2 (c' := (225, [(5, .int (-1 : Int32)), (4, .int (-1 : Int32)), (3, .int (nI q1)), (2, .int (b2 (tKd T L mo p = 24))), (1, .int (nI (3 * k))), (0, .ref 114)], [.int (nI 1), .ref 114], M34)) (o := []) rfl trivial ?_
        refine Wn.callV (p := 114) (n := 2) (ix := 188) (ci := (10)) (PBd M34 g23 (nI 1) (nI (tAt T L mo (tNx T L p)))) [.int (nI 1)] [] rfl rfl rfl rfl (Nat.le_of_ble_eq_true rfl) (Nat.le_of_ble_eq_true rfl) (c_m_bad _ M34 g23 T L mo (tNx T L p) hk37 ht36 (nI 1)) ?_
        rintro _ M349 ⟨rfl, hg350, hs351, hF352⟩
        show Wn _ 134 _ (228, [(5, .int (-1 : Int32)), (4, .int (-1 : Int32)), (3, .int (nI q1)), (2, .int (b2 (tKd T L mo p = 24))), (1, .int (nI (3 * k))), (0, .ref 114)], [.int (nI 0)], M349)
        have hk353 := frI_fun hF352 (by decide) hk38
        have hc354 := cl_fr hF352 (by decide) hc39
        have hn355 := nf_fr hF352 (by decide) hn40
        have hv356 := rv_fr hF352 (by decide) hv41
        have hF357 := fr_tr hF42 hF352 (by decide)
        have e9 : rdB T L mo p ν np k = .inl (1, tAt T L mo (tNx T L p)) := by unfold rdB; rw [if_neg hk, if_neg (fun q9 => q9 hk1_3)]; simp only [hpc1]; rw [if_neg h1]; unfold rdB1; rw [if_neg (show ¬ (17 ≤ tKd T L mo (tNx T L p) ∧ tKd T L mo (tNx T L p) ≤ 20) by omega), if_neg (show ¬ tKd T L mo (tNx T L p) = 21 by omega), if_neg (show ¬ tKd T L mo (tNx T L p) = 23 by omega), if_neg (show ¬ tKd T L mo (tNx T L p) = 22 by omega)]
        rw [e9]
        exact Wn.zret rfl (Or.inl rfl) ⟨by rw [hg350]; exact (Gx_up (Gx_up (Gx_tr (Gx_tr (Gx_rf _ _) (Gx_mono hx9 (by decide))) (Gx_mono hx25 (by decide))) (by decide)) (by decide)), hF357, rfl, by rw [hg350]; exact ((pk_un (by decide)).trans pk_us), by rw [hg350]; exact pk_us⟩
      · show Wn _ 134 _ (44, [(2, .int (b2 (tKd T L mo p = 24))), (1, .int (nI (3 * k))), (0, .ref 114)], [], M6)
        have h1 := (n_eq (fr_eq hg8 (show g7 36 = (nI k) from hf11)) rfl (by omega) (by omega)).mp (Classical.not_not.mp h1)
        refine Wn.run (tab := tb_m_bookLine) rfl 2 (c' := (46, [(2, .int (b2 (tKd T L mo p = 24))), (1, .int (nI (3 * k))), (0, .ref 114)], [.int (nI 4), .ref 114], M6)) (o := []) rfl trivial ?_
        refine Wn.callV (p := 114) (n := 2) (ix := 188) (ci := (10)) (PBd M6 g7 (nI 4) (nI (tAt T L mo p))) [.int (nI 4)] [] rfl rfl rfl rfl (Nat.le_of_ble_eq_true rfl) (Nat.le_of_ble_eq_true rfl) (c_m_bad _ M6 g7 T L mo p hg8 ht1 (nI 4)) ?_
        rintro _ M358 ⟨rfl, hg359, hs360, hF361⟩
        show Wn _ 134 _ (49, [(2, .int (b2 (tKd T L mo p = 24))), (1, .int (nI (3 * k))), (0, .ref 114)], [.int (nI 0)], M358)
        have hk362 := frI_fun hF361 (by decide) hk13
        have hc363 := cl_fr hF361 (by decide) hc14
        have hn364 := nf_fr hF361 (by decide) hn15
        have hv365 := rv_fr hF361 (by decide) hv16
        have hF366 := fr_tr hF17 hF361 (by decide)
        have e9 : rdB T L mo p ν np k = .inl (4, tAt T L mo p) := by unfold rdB; rw [if_neg hk, if_neg (fun q9 => q9 hk1_3)]; simp only [hpc1]; rw [if_pos h1]
        rw [e9]
        exact Wn.zret rfl (Or.inl rfl) ⟨by rw [hg359]; exact (Gx_up (Gx_up (Gx_tr (Gx_rf _ _) (Gx_mono hx9 (by decide))) (by decide)) (by decide)), hF366, rfl, by rw [hg359]; exact ((pk_un (by decide)).trans pk_us), by rw [hg359]; exact pk_us⟩
    | none =>
      refine Wn.callV (p := 114) (n := 3) (ix := 413) (ci := (10)) (PFm M g 3 (tAt T L mo p) (some (.int (nI 0)))) [.int (nI 0), .int (nI np)] [] rfl rfl rfl rfl (Nat.le_of_ble_eq_true rfl) (Nat.le_of_ble_eq_true rfl) (c_m_looksAt_no3 _ M g T L mo p hg hK hv 0 np (by omega) ν hN hk1_3 hpc1) ?_
      rintro _ M371 ⟨rfl, h15367, h16368, hx369, hF370⟩
      show Wn _ 134 _ (30, [(2, .int (b2 (tKd T L mo p = 24))), (1, .int (nI (3 * k))), (0, .ref 114)], [.int (nI 0)], M371)
      obtain ⟨g372, hg373⟩ : ∃ g9, M371.1 114 = g9 := ⟨_, rfl⟩
      have hx374 := hx369
      rw [hg373] at hx374
      have hf375 : g372 15 = nI 3 := by rw [← hg373]; exact h15367
      have hf376 : g372 16 = nI (tAt T L mo p) := by rw [← hg373]; exact h16368
      have hk377 := frI_fun hF370 (by decide) h118
      have hc378 := cl_fr hF370 (by decide) h2
      have hF379 := fr_tr hF hF370 (by decide)
      refine Wn.run (tab := tb_m_bookLine) rfl 1 (c' := (if ¬ (nI 0) = 0 then 35 else 33, [(2, .int (b2 (tKd T L mo p = 24))), (1, .int (nI (3 * k))), (0, .ref 114)], [], M371)) (o := []) rfl trivial ?_
      rw [if_neg (show ¬ (¬ (nI 0) = 0) by decide)]
      show Wn _ 134 _ (33, [(2, .int (b2 (tKd T L mo p = 24))), (1, .int (nI (3 * k))), (0, .ref 114)], [], M371)
      refine Wn.run (tab := tb_m_bookLine) rfl 1 (c' := (34, [(2, .int (b2 (tKd T L mo p = 24))), (1, .int (nI (3 * k))), (0, .ref 114)], [.int (nI 0)], M371)) (o := []) rfl trivial ?_
      have e9 : rdB T L mo p ν np k = .inl (3, tAt T L mo p) := by unfold rdB; rw [if_neg hk, if_neg (fun q9 => q9 hk1_3)]; simp only [hpc1]
      rw [e9]
      exact Wn.zret rfl (Or.inl rfl) ⟨by rw [hg373]; exact (Gx_tr (Gx_rf _ _) (Gx_mono hx374 (by decide))), hF379, rfl, by rw [hg373]; exact hf375, by rw [hg373]; exact hf376⟩
  · refine Wn.callV (p := 114) (n := 3) (ix := 413) (ci := (10)) (PFm M g 1 (tAt T L mo p) (some (.int (nI 0)))) [.int (nI 0), .int (nI np)] [] rfl rfl rfl rfl (Nat.le_of_ble_eq_true rfl) (Nat.le_of_ble_eq_true rfl) (c_m_looksAt_no1 _ M g T L mo p hg hK hv 0 np (by omega) ν hN hk1_3) ?_
    rintro _ M384 ⟨rfl, h15380, h16381, hx382, hF383⟩
    show Wn _ 134 _ (30, [(2, .int (b2 (tKd T L mo p = 24))), (1, .int (nI (3 * k))), (0, .ref 114)], [.int (nI 0)], M384)
    obtain ⟨g385, hg386⟩ : ∃ g9, M384.1 114 = g9 := ⟨_, rfl⟩
    have hx387 := hx382
    rw [hg386] at hx387
    have hf388 : g385 15 = nI 1 := by rw [← hg386]; exact h15380
    have hf389 : g385 16 = nI (tAt T L mo p) := by rw [← hg386]; exact h16381
    have hk390 := frI_fun hF383 (by decide) h118
    have hc391 := cl_fr hF383 (by decide) h2
    have hF392 := fr_tr hF hF383 (by decide)
    refine Wn.run (tab := tb_m_bookLine) rfl 1 (c' := (if ¬ (nI 0) = 0 then 35 else 33, [(2, .int (b2 (tKd T L mo p = 24))), (1, .int (nI (3 * k))), (0, .ref 114)], [], M384)) (o := []) rfl trivial ?_
    rw [if_neg (show ¬ (¬ (nI 0) = 0) by decide)]
    show Wn _ 134 _ (33, [(2, .int (b2 (tKd T L mo p = 24))), (1, .int (nI (3 * k))), (0, .ref 114)], [], M384)
    refine Wn.run (tab := tb_m_bookLine) rfl 1 (c' := (34, [(2, .int (b2 (tKd T L mo p = 24))), (1, .int (nI (3 * k))), (0, .ref 114)], [.int (nI 0)], M384)) (o := []) rfl trivial ?_
    have e9 : rdB T L mo p ν np k = .inl (1, tAt T L mo p) := by unfold rdB; rw [if_neg hk, if_pos hk1_3]
    rw [e9]
    exact Wn.zret rfl (Or.inl rfl) ⟨by rw [hg386]; exact (Gx_tr (Gx_rf _ _) (Gx_mono hx387 (by decide))), hF392, rfl, by rw [hg386]; exact hf388, by rw [hg386]; exact hf389⟩
theorem c_m_bookLine (d : Nat) (M : Mm) (g : Nat → Int32) (T : Nat → Nat) (L mo p : Nat) (hg : M.1 114 = g) (hK : TkM M T L mo p) (hv : Rsv M) (np : Nat) (hnp : np ≤ 6) (h2 : M.1 116 2 = nI np) (ν : Nat → Int64) (hN : ∀ q, q < np → M.2.1 119 (0 + q) = ν q) (k : Nat) (hk40 : k ≤ 40) (h36 : g 36 = nI k) : Wn (d + 3) 134 (PBm M g T L mo k (rdB T L mo p ν np k)) (0, lv_args 0 [.ref 114], [], M) := by
  by_cases hk : tKd T L mo p = 24
  · exact c_m_bookLine_h (d + 0) M g T L mo p hg hK hv np hnp h2 ν hN k hk40 h36 hk
  · exact c_m_bookLine_n (d + 1) M g T L mo p hg hK hv np hnp h2 ν hN k hk40 h36 hk
