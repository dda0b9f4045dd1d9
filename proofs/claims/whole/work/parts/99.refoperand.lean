/-! The reference's operand. -/
def KS : List Nat := [4, 11, 12, 13, 14, 15, 16, 18, 20, 40, 41, 42, 43, 44]
def POp9 (M0 : Mm) (T : Nat → Nat) (L mo : Nat) (res : Flt ⊕ Cst) : Po := fun r0 M' => Gx KS (M0.1 114) (M'.1 114) ∧ Fr [114, 118, 129] M0 M' ∧ match res with
  | .inl f => r0 = some (.int (nI 0)) ∧ M'.1 114 15 = nI f.1 ∧ M'.1 114 16 = nI f.2
  | .inr c => r0 = some (.int (nI 1)) ∧ TkM M' T L mo c.2.2.1 ∧ SM M' c.2.2 ∧ SK M' c.2.1 ∧ M'.1 114 44 = nI (if c.1 = true then 1 else 0) ∧ M'.1 114 15 = M0.1 114 15
theorem cdW_le (a : Nat) : cdW a ≤ 23 := by unfold cdW; repeat (first | omega | split)
theorem cdW_1 {c : Nat} (h : c = 28 ∨ c = 29) : cdW c < 2 := by rcases h with rfl | rfl <;> decide
theorem cdW_2 {c : Nat} (h : c = 30 ∨ c = 31) : 2 ≤ cdW c ∧ cdW c < 4 := by rcases h with rfl | rfl <;> decide
theorem cdW_3 {c : Nat} (h : leK c) (h1 : ¬ (c = 28 ∨ c = 29)) (h2 : ¬ (c = 30 ∨ c = 31)) : 4 ≤ cdW c := by
  have : c = 11 ∨ c = 32 ∨ c = 33 ∨ c = 34 ∨ c = 35 := by unfold leK at h; omega
  rcases this with rfl | rfl | rfl | rfl | rfl <;> decide
theorem tk_ch {T : Nat → Nat} {L mo p : Nat} (hT : ∀ k, k < L → T k < 256) {c : Nat} (h : tKd T L mo p = c) (h4 : 4 ≤ c ∧ c ≤ 9) : Int64.ofNat (T (sk T L p)) = Int64.ofInt (kcodes.getD c 0) ∧ T (sk T L p) < 256 := by
  have tc := tKd_cases (mo := mo) (p := p) hT
  have m9 := mn_le L mo
  have hs : T (sk T L p) < 256 := hT _ (by omega)
  have key := (tk_sign (c := c) (mo := mo) (p := p) (L := L) (T := T) hT h4.1 h4.2 (by omega)).mpr h
  rw [nI_64 (by omega)] at key
  exact ⟨key, hs⟩
theorem i64_nat {x y : Nat} (hx : x < 256) (hy : y < 256) (h : Int64.ofNat x = Int64.ofNat y) : x = y := by
  have e := congrArg Int64.toInt h
  rw [Int64.toInt_ofNat_of_lt (by omega), Int64.toInt_ofNat_of_lt (by omega)] at e
  omega
theorem tk_ch2 {T : Nat → Nat} {L mo p : Nat} (hT : ∀ k, k < L → T k < 256) (h : 4 ≤ tKd T L mo p ∧ tKd T L mo p ≤ 9) : (60 ≤ T (sk T L p) ∧ T (sk T L p) ≤ 62 ↔ 5 ≤ tKd T L mo p ∧ tKd T L mo p ≤ 7) ∧ (5 ≤ tKd T L mo p ∧ tKd T L mo p ≤ 7 → T (sk T L p) = 55 + tKd T L mo p) ∧ T (sk T L p) < 256 := by
  have hc : tKd T L mo p = 4 ∨ tKd T L mo p = 5 ∨ tKd T L mo p = 6 ∨ tKd T L mo p = 7 ∨ tKd T L mo p = 8 ∨ tKd T L mo p = 9 := by omega
  rcases hc with c | c | c | c | c | c
  · have k := tk_ch hT c (by omega); have e : T (sk T L p) = 59 := i64_nat k.2 (by decide) k.1; omega
  · have k := tk_ch hT c (by omega); have e : T (sk T L p) = 60 := i64_nat k.2 (by decide) k.1; omega
  · have k := tk_ch hT c (by omega); have e : T (sk T L p) = 61 := i64_nat k.2 (by decide) k.1; omega
  · have k := tk_ch hT c (by omega); have e : T (sk T L p) = 62 := i64_nat k.2 (by decide) k.1; omega
  · have k := tk_ch hT c (by omega); have e : T (sk T L p) = 40 := i64_nat k.2 (by decide) k.1; omega
  · have k := tk_ch hT c (by omega); have e : T (sk T L p) = 41 := i64_nat k.2 (by decide) k.1; omega
set_option maxRecDepth 20000 in
theorem c_m_operand_126 (d : Nat) (M0 M : Mm) (T : Nat → Nat) (L mo : Nat) (S : List Nat) (st s1 : Sst) (hK : TkM M T L mo s1.1) (hs : SM M s1) (hk : SK M S) (hb : s1.2.1 < 45) (hle : leK (tKd T L mo st.1)) (hv : Rsv M) (np : Nat) (hnp : np ≤ 6) (h116 : M.1 116 2 = nI np) (ν : Nat → Int64) (hN : ∀ q, q < np → M.2.1 119 (0 + q) = ν q) (hx : Gx KS (M0.1 114) (M.1 114)) (h15 : M.1 114 15 = M0.1 114 15) (hF : Fr [114, 118, 129] M0 M) : Wn (d + 4) 142 (POp9 M0 T L mo (match leafS T L mo ν np (tKd T L mo st.1) s1 with
    | .inl e => .inl e
    | .inr s2 => .inr (true, S, s2))) (126, [(3, .int (lfI (tKd T L mo st.1))), (2, .int (b2 (tKd T L mo st.1 = 8))), (1, .int (b2 (tKd T L mo st.1 = 27))), (0, .ref 114)], [], M) := by
  have lf : lfI (tKd T L mo st.1) = nI (cdW (tKd T L mo st.1)) := if_pos hle
  have cl := cdW_le (tKd T L mo st.1)
  have hT := TkM_T hK
  refine Wn.run (tab := tb_m_operand) rfl 3 (c' := (131, [(3, .int (lfI (tKd T L mo st.1))), (2, .int (b2 (tKd T L mo st.1 = 8))), (1, .int (b2 (tKd T L mo st.1 = 27))), (0, .ref 114)], [], (mI M 114 (upd (M.1 114) 44 (nI 1))))) (o := [shp 114 = (0, 10), is01 (nI 1)]) rfl ⟨rfl, (Or.inr rfl)⟩ ?_
  generalize hM1 : (mI M 114 (upd (M.1 114) 44 (nI 1))) = M1
  have f1 := fr_1I hM1
  have g1 : M1.1 114 = upd (M.1 114) 44 (nI 1) := mI_eq hM1
  have K1 : TkM M1 T L mo s1.1 := TkM_up hM1 (by decide) hK
  have s1' : SM M1 s1 := by
    refine ⟨by rw [g1, pk_un (by decide)]; exact hs.1, by rw [g1, pk_un (by decide)]; exact hs.2.1, ?_⟩
    rw [(f1 118 (by decide)).1]; exact hs.2.2
  have k1 : SK M1 S := ⟨by rw [g1, pk_un (by decide)]; exact hk.1, by rw [g1, pk_un (by decide)]; exact hk.2.1, by rw [(f1 129 (by decide)).1]; exact hk.2.2.1, hk.2.2.2⟩
  have x1 : Gx KS (M0.1 114) (M1.1 114) := by rw [g1]; exact Gx_up hx (by decide)
  have F1 : Fr [114, 118, 129] M0 M1 := fr_tr hF f1 (by decide)
  have w1 : M1.1 114 44 = nI 1 := by rw [g1, pk_us]
  have h151 : M1.1 114 15 = M0.1 114 15 := by rw [g1, pk_un (by decide)]; exact h15
  unfold leafS
  refine Wn.run (tab := tb_m_operand) rfl 3 (c' := (if (nI 2) ≤ (lfI (tKd T L mo st.1)) then 145 else 136, [(3, .int (lfI (tKd T L mo st.1))), (2, .int (b2 (tKd T L mo st.1 = 8))), (1, .int (b2 (tKd T L mo st.1 = 27))), (0, .ref 114)], [], M1)) (o := []) rfl trivial ?_
  rw [lf]
  by_cases c1 : tKd T L mo st.1 = 28 ∨ tKd T L mo st.1 = 29
  · have cw := cdW_1 c1
    rw [if_pos c1, if_neg (mt (n_le rfl rfl (by omega) (by omega)).mp (show ¬ 2 ≤ cdW (tKd T L mo st.1) by omega))]
    refine Wn.run (tab := tb_m_operand) rfl 4 (c' := (140, [(3, .int (nI (cdW (tKd T L mo st.1)))), (2, .int (b2 (tKd T L mo st.1 = 8))), (1, .int (b2 (tKd T L mo st.1 = 27))), (0, .ref 114)], [.int (nI 0), .int (nI 0), .int (nI (cdW (tKd T L mo st.1))), .ref 114], M1)) (o := []) rfl trivial ?_
    refine Wn.callV (p := 114) (n := 4) (ix := 432) (ci := (10)) (PCd M1 s1.2.1 (nI (cdW (tKd T L mo st.1))) (nI 0) (nI 0)) [.int (nI (cdW (tKd T L mo st.1))), .int (nI 0), .int (nI 0)] [] rfl rfl rfl rfl (Nat.le_of_ble_eq_true rfl) (Nat.le_of_ble_eq_true rfl) (c_m_code _ M1 s1.2.1 s1'.1 hb _ _ _) ?_
    intro r0 N hA
    have sN := SM_add (a := tKd T L mo st.1) (s := 0) (u := 0) s1' hA
    obtain ⟨rfl, b1, b2', b3, b4⟩ := hA
    have xN : Gx [40] (M1.1 114) (N.1 114) := by rw [b1]; exact Gx_up (Gx_rf _ _) (by decide)
    have KN9 : TkM N T L mo s1.1 := TkM_gx xN (by decide) (by rw [b3]) ((b4 115 (by decide)).1) K1
    have kN : SK N S := ⟨(xN 42 (by decide)).trans k1.1, (xN 43 (by decide)).trans k1.2.1, by rw [(b4 129 (by decide)).1]; exact k1.2.2.1, k1.2.2.2⟩
    show Wn _ 142 _ (143, [(3, .int (nI (cdW (tKd T L mo st.1)))), (2, .int (b2 (tKd T L mo st.1 = 8))), (1, .int (b2 (tKd T L mo st.1 = 27))), (0, .ref 114)], [], N)
    refine Wn.run (tab := tb_m_operand) rfl 1 (c' := (144, [(3, .int (nI (cdW (tKd T L mo st.1)))), (2, .int (b2 (tKd T L mo st.1 = 8))), (1, .int (b2 (tKd T L mo st.1 = 27))), (0, .ref 114)], [.int (nI 1)], N)) (o := []) rfl trivial ?_
    exact Wn.zret rfl (Or.inr rfl) ⟨Gx_tr2 x1 xN (by decide), fr_tr F1 b4 (by decide), rfl, KN9, sN, kN, (xN 44 (by decide)).trans w1, (xN 15 (by decide)).trans h151⟩
  rw [if_neg c1]
  have c1' : 2 ≤ cdW (tKd T L mo st.1) := by
    by_cases c2 : tKd T L mo st.1 = 30 ∨ tKd T L mo st.1 = 31
    · exact (cdW_2 c2).1
    · have := cdW_3 hle c1 c2; omega
  rw [if_pos ((n_le rfl rfl (by omega) (by omega)).mpr c1')]
  refine Wn.run (tab := tb_m_operand) rfl 3 (c' := (if (nI 4) ≤ (nI (cdW (tKd T L mo st.1))) then 182 else 150, [(3, .int (nI (cdW (tKd T L mo st.1)))), (2, .int (b2 (tKd T L mo st.1 = 8))), (1, .int (b2 (tKd T L mo st.1 = 27))), (0, .ref 114)], [], M1)) (o := []) rfl trivial ?_
  by_cases c2 : tKd T L mo st.1 = 30 ∨ tKd T L mo st.1 = 31
  · have cw := cdW_2 c2
    rw [if_pos c2, if_neg (mt (n_le rfl rfl (by omega) (by omega)).mp (show ¬ 4 ≤ cdW (tKd T L mo st.1) by omega))]
    have e116 : M1.1 116 2 = nI np := by rw [(f1 116 (by decide)).1]; exact h116
    have hN1 : ∀ q, q < np → M1.2.1 119 (0 + q) = ν q := by rw [(f1 119 (by decide)).2.1]; exact hN
    have hv1 : Rsv M1 := Rsv_fr f1 (by decide) hv
    refine Wn.run (tab := tb_m_operand) rfl 6 (c' := (158, [(3, .int (nI (cdW (tKd T L mo st.1)))), (2, .int (b2 (tKd T L mo st.1 = 8))), (1, .int (b2 (tKd T L mo st.1 = 27))), (0, .ref 114)], [.int (M1.1 116 2), .int (nI 0), .ref 114], M1)) (o := [shp 114 = (0, 10), aok shp 116 0 (nI 2)]) rfl ⟨rfl, ⟨rfl, vp_in_nI (by decide) (by decide)⟩⟩ ?_
    rw [e116]
    by_cases k3 : tKd T L mo s1.1 = 3
    · rw [if_neg (fun q => q k3)]
      cases hpc : pcl ν (tNm T L s1.1) np with
      | some q =>
        have q9 := pcl_lt hpc
        dsimp only
        refine Wn.callV (p := 114) (n := 3) (ix := 413) (ci := (10)) (PTm M1 (M1.1 114) T L mo s1.1 [18] (nI q) (some (.int (nI 1)))) [.int (nI 0), .int (nI np)] [] rfl rfl rfl rfl (Nat.le_of_ble_eq_true rfl) (Nat.le_of_ble_eq_true rfl) (c_m_looksAt_ok _ M1 _ T L mo s1.1 rfl K1 hv1 0 np (by omega) ν hN1 k3 q (by omega) hpc) ?_
        rintro r0 M2 ⟨rfl, l1, l2, l3, l4, l5⟩
        show Wn _ 142 _ (161, [(3, .int (nI (cdW (tKd T L mo st.1)))), (2, .int (b2 (tKd T L mo st.1 = 8))), (1, .int (b2 (tKd T L mo st.1 = 27))), (0, .ref 114)], [.int (nI 1)], M2)
        refine Wn.run (tab := tb_m_operand) rfl 1 (c' := (if ¬ (nI 1) = 0 then 166 else 164, [(3, .int (nI (cdW (tKd T L mo st.1)))), (2, .int (b2 (tKd T L mo st.1 = 8))), (1, .int (b2 (tKd T L mo st.1 = 27))), (0, .ref 114)], [], M2)) (o := []) rfl trivial ?_
        rw [if_pos (show ¬ nI 1 = 0 by decide)]
        refine Wn.run (tab := tb_m_operand) rfl 5 (c' := (173, [(3, .int (nI (cdW (tKd T L mo st.1)))), (2, .int (b2 (tKd T L mo st.1 = 8))), (1, .int (b2 (tKd T L mo st.1 = 27))), (0, .ref 114)], [.int (M2.1 114 18), .int (nI 0), .int (nI (cdW (tKd T L mo st.1))), .ref 114], M2)) (o := [shp 114 = (0, 10)]) rfl rfl ?_
        rw [l2]
        have s2' : SM M2 s1 := ⟨(l3 40 (by decide)).trans s1'.1, (l3 41 (by decide)).trans s1'.2.1, by rw [(l5 118 (by decide)).1]; exact s1'.2.2⟩
        have k2 : SK M2 S := ⟨(l3 42 (by decide)).trans k1.1, (l3 43 (by decide)).trans k1.2.1, by rw [(l5 129 (by decide)).1]; exact k1.2.2.1, k1.2.2.2⟩
        refine Wn.callV (p := 114) (n := 4) (ix := 432) (ci := (10)) (PCd M2 s1.2.1 (nI (cdW (tKd T L mo st.1))) (nI 0) (nI q)) [.int (nI (cdW (tKd T L mo st.1))), .int (nI 0), .int (nI q)] [] rfl rfl rfl rfl (Nat.le_of_ble_eq_true rfl) (Nat.le_of_ble_eq_true rfl) (c_m_code _ M2 s1.2.1 s2'.1 hb _ _ _) ?_
        intro r0 N hA
        have sN := SM_add (a := tKd T L mo st.1) (s := 0) (u := q) s2' hA
        obtain ⟨rfl, b1, b2', b3, b4⟩ := hA
        have xN : Gx [40] (M2.1 114) (N.1 114) := by rw [b1]; exact Gx_up (Gx_rf _ _) (by decide)
        have KN9 : TkM N T L mo s1.1 := TkM_gx xN (by decide) (by rw [b3]) ((b4 115 (by decide)).1) l1
        have kN : SK N S := ⟨(xN 42 (by decide)).trans k2.1, (xN 43 (by decide)).trans k2.2.1, by rw [(b4 129 (by decide)).1]; exact k2.2.2.1, k2.2.2.2⟩
        show Wn _ 142 _ (176, [(3, .int (nI (cdW (tKd T L mo st.1)))), (2, .int (b2 (tKd T L mo st.1 = 8))), (1, .int (b2 (tKd T L mo st.1 = 27))), (0, .ref 114)], [], N)
        refine Wn.run (tab := tb_m_operand) rfl 1 (c' := (177, [(3, .int (nI (cdW (tKd T L mo st.1)))), (2, .int (b2 (tKd T L mo st.1 = 8))), (1, .int (b2 (tKd T L mo st.1 = 27))), (0, .ref 114)], [.ref 114], N)) (o := []) rfl trivial ?_
        refine Wn.callV (p := 114) (n := 1) (ix := 191) (ci := (10)) (PNx N (N.1 114) T L mo (tNx T L s1.1)) [] [] rfl rfl rfl rfl (Nat.le_of_ble_eq_true rfl) (Nat.le_of_ble_eq_true rfl) (c_m_nx (d + 2) N _ T L mo s1.1 rfl KN9 (by omega) (by omega)) ?_
        rintro r0 P ⟨rfl, n1, n2, n3, n4⟩
        show Wn _ 142 _ (180, [(3, .int (nI (cdW (tKd T L mo st.1)))), (2, .int (b2 (tKd T L mo st.1 = 8))), (1, .int (b2 (tKd T L mo st.1 = 27))), (0, .ref 114)], [], P)
        refine Wn.run (tab := tb_m_operand) rfl 1 (c' := (181, [(3, .int (nI (cdW (tKd T L mo st.1)))), (2, .int (b2 (tKd T L mo st.1 = 8))), (1, .int (b2 (tKd T L mo st.1 = 27))), (0, .ref 114)], [.int (nI 1)], P)) (o := []) rfl trivial ?_
        exact Wn.zret rfl (Or.inr rfl) ⟨Gx_tr2 (Gx_tr2 (Gx_tr2 x1 l3 (by decide)) xN (by decide)) n2 (by decide), fr_tr (fr_tr (fr_tr F1 l5 (by decide)) b4 (by decide)) n4 (by decide), rfl, n1, ⟨(n2 40 (by decide)).trans sN.1, (n2 41 (by decide)).trans sN.2.1, by rw [(n4 118 (by decide)).1]; exact sN.2.2⟩, ⟨(n2 42 (by decide)).trans kN.1, (n2 43 (by decide)).trans kN.2.1, by rw [(n4 129 (by decide)).1]; exact kN.2.2.1, kN.2.2.2⟩, (n2 44 (by decide)).trans ((xN 44 (by decide)).trans ((l3 44 (by decide)).trans w1)), (n2 15 (by decide)).trans ((xN 15 (by decide)).trans ((l3 15 (by decide)).trans h151))⟩
      | none =>
        dsimp only
        refine Wn.callV (p := 114) (n := 3) (ix := 413) (ci := (10)) (PFm M1 (M1.1 114) 3 (tAt T L mo s1.1) (some (.int (nI 0)))) [.int (nI 0), .int (nI np)] [] rfl rfl rfl rfl (Nat.le_of_ble_eq_true rfl) (Nat.le_of_ble_eq_true rfl) (c_m_looksAt_no3 _ M1 _ T L mo s1.1 rfl K1 hv1 0 np (by omega) ν hN1 k3 hpc) ?_
        rintro r0 M2 ⟨rfl, l1, l2, l3, l4⟩
        show Wn _ 142 _ (161, [(3, .int (nI (cdW (tKd T L mo st.1)))), (2, .int (b2 (tKd T L mo st.1 = 8))), (1, .int (b2 (tKd T L mo st.1 = 27))), (0, .ref 114)], [.int (nI 0)], M2)
        refine Wn.run (tab := tb_m_operand) rfl 1 (c' := (if ¬ (nI 0) = 0 then 166 else 164, [(3, .int (nI (cdW (tKd T L mo st.1)))), (2, .int (b2 (tKd T L mo st.1 = 8))), (1, .int (b2 (tKd T L mo st.1 = 27))), (0, .ref 114)], [], M2)) (o := []) rfl trivial ?_
        rw [if_neg (show ¬ ¬ nI 0 = 0 by decide)]
        refine Wn.run (tab := tb_m_operand) rfl 1 (c' := (165, [(3, .int (nI (cdW (tKd T L mo st.1)))), (2, .int (b2 (tKd T L mo st.1 = 8))), (1, .int (b2 (tKd T L mo st.1 = 27))), (0, .ref 114)], [.int (nI 0)], M2)) (o := []) rfl trivial ?_
        exact Wn.zret rfl (Or.inl rfl) ⟨Gx_tr2 x1 l3 (by decide), fr_tr F1 l4 (by decide), rfl, l1, l2⟩
    · rw [if_pos k3]
      refine Wn.callV (p := 114) (n := 3) (ix := 413) (ci := (10)) (PFm M1 (M1.1 114) 1 (tAt T L mo s1.1) (some (.int (nI 0)))) [.int (nI 0), .int (nI np)] [] rfl rfl rfl rfl (Nat.le_of_ble_eq_true rfl) (Nat.le_of_ble_eq_true rfl) (c_m_looksAt_no1 _ M1 _ T L mo s1.1 rfl K1 hv1 0 np (by omega) ν hN1 k3) ?_
      rintro r0 M2 ⟨rfl, l1, l2, l3, l4⟩
      show Wn _ 142 _ (161, [(3, .int (nI (cdW (tKd T L mo st.1)))), (2, .int (b2 (tKd T L mo st.1 = 8))), (1, .int (b2 (tKd T L mo st.1 = 27))), (0, .ref 114)], [.int (nI 0)], M2)
      refine Wn.run (tab := tb_m_operand) rfl 1 (c' := (if ¬ (nI 0) = 0 then 166 else 164, [(3, .int (nI (cdW (tKd T L mo st.1)))), (2, .int (b2 (tKd T L mo st.1 = 8))), (1, .int (b2 (tKd T L mo st.1 = 27))), (0, .ref 114)], [], M2)) (o := []) rfl trivial ?_
      rw [if_neg (show ¬ ¬ nI 0 = 0 by decide)]
      refine Wn.run (tab := tb_m_operand) rfl 1 (c' := (165, [(3, .int (nI (cdW (tKd T L mo st.1)))), (2, .int (b2 (tKd T L mo st.1 = 8))), (1, .int (b2 (tKd T L mo st.1 = 27))), (0, .ref 114)], [.int (nI 0)], M2)) (o := []) rfl trivial ?_
      exact Wn.zret rfl (Or.inl rfl) ⟨Gx_tr2 x1 l3 (by decide), fr_tr F1 l4 (by decide), rfl, l1, l2⟩
  rw [if_neg c2, if_pos ((n_le rfl rfl (by omega) (by omega)).mpr (cdW_3 hle c1 c2))]
  refine Wn.run (tab := tb_m_operand) rfl 4 (c' := (if ¬ (M1.1 114 11) = (nI 3) then 208 else 190, [(3, .int (nI (cdW (tKd T L mo st.1)))), (2, .int (b2 (tKd T L mo st.1 = 8))), (1, .int (b2 (tKd T L mo st.1 = 27))), (0, .ref 114)], [], M1)) (o := [shp 114 = (0, 10)]) rfl rfl ?_
  have kl := tKd_le T L mo s1.1
  have cl2 := tCd_le (tKd T L mo s1.1)
  have bad1 : ¬ (5 ≤ tKd T L mo s1.1 ∧ tKd T L mo s1.1 ≤ 7) → Wn (d + 4) 142 (POp9 M0 T L mo (.inl (1, tAt T L mo s1.1))) (208, [(3, .int (nI (cdW (tKd T L mo st.1)))), (2, .int (b2 (tKd T L mo st.1 = 8))), (1, .int (b2 (tKd T L mo st.1 = 27))), (0, .ref 114)], [], M1) := by
    intro c5
    refine Wn.run (tab := tb_m_operand) rfl 2 (c' := (210, [(3, .int (nI (cdW (tKd T L mo st.1)))), (2, .int (b2 (tKd T L mo st.1 = 8))), (1, .int (b2 (tKd T L mo st.1 = 27))), (0, .ref 114)], [.int (nI 1), .ref 114], M1)) (o := []) rfl trivial ?_
    refine Wn.callV (p := 114) (n := 2) (ix := 188) (ci := (10)) (PBd M1 (M1.1 114) (nI 1) (nI (tAt T L mo s1.1))) [.int (nI 1)] [] rfl rfl rfl rfl (Nat.le_of_ble_eq_true rfl) (Nat.le_of_ble_eq_true rfl) (c_m_bad _ M1 _ T L mo s1.1 rfl K1 (nI 1)) ?_
    rintro r0 M2 ⟨rfl, q1, q2, q3⟩
    exact Wn.zret rfl (Or.inl rfl) ⟨by rw [q1]; exact Gx_up (Gx_up x1 (by decide)) (by decide), fr_tr F1 q3 (by decide), rfl, by rw [q1, pk_un (by decide), pk_us], by rw [q1, pk_us]⟩
  rw [K1.2.2.2.1]
  by_cases c3 : 4 ≤ tKd T L mo s1.1 ∧ tKd T L mo s1.1 ≤ 9
  · rw [if_neg (show ¬ ¬ nI (tCd (tKd T L mo s1.1)) = nI 3 from fun q => q (congrArg nI ((tCd_3 kl).mpr c3)))]
    obtain ⟨h1, h2, h3⟩ := tk_ch2 hT c3
    have v14 : M1.1 114 14 = nI (T (sk T L s1.1)) := K1.2.2.2.2.2.2.1 c3
    refine Wn.run (tab := tb_m_operand) rfl 4 (c' := (if (M1.1 114 14) < (nI 60) then 208 else 199, [(3, .int (nI (cdW (tKd T L mo st.1)))), (2, .int (b2 (tKd T L mo st.1 = 8))), (1, .int (b2 (tKd T L mo st.1 = 27))), (0, .ref 114)], [], M1)) (o := [shp 114 = (0, 10)]) rfl rfl ?_
    rw [v14]
    by_cases c5 : 5 ≤ tKd T L mo s1.1 ∧ tKd T L mo s1.1 ≤ 7
    · have h60 := h1.mpr c5
      rw [if_neg (mt (n_lt rfl rfl (by omega) (by omega)).mp (show ¬ T (sk T L s1.1) < 60 by omega)), if_neg (fun q => q c5)]
      refine Wn.run (tab := tb_m_operand) rfl 4 (c' := (if (M1.1 114 14) ≤ (nI 62) then 214 else 208, [(3, .int (nI (cdW (tKd T L mo st.1)))), (2, .int (b2 (tKd T L mo st.1 = 8))), (1, .int (b2 (tKd T L mo st.1 = 27))), (0, .ref 114)], [], M1)) (o := [shp 114 = (0, 10)]) rfl rfl ?_
      rw [v14, if_pos ((n_le rfl rfl (by omega) (by omega)).mpr h60.2)]
      refine Wn.run (tab := tb_m_operand) rfl 3 (c' := (220, [(4, .int (M1.1 114 14)), (3, .int (nI (cdW (tKd T L mo st.1)))), (2, .int (b2 (tKd T L mo st.1 = 8))), (1, .int (b2 (tKd T L mo st.1 = 27))), (0, .ref 114)], [], M1)) (o := [shp 114 = (0, 10)]) rfl rfl ?_
      rw [v14, h2 c5]
      refine Wn.run (tab := tb_m_operand) rfl 1 (c' := (221, [(4, .int (nI (55 + tKd T L mo s1.1))), (3, .int (nI (cdW (tKd T L mo st.1)))), (2, .int (b2 (tKd T L mo st.1 = 8))), (1, .int (b2 (tKd T L mo st.1 = 27))), (0, .ref 114)], [.ref 114], M1)) (o := []) rfl trivial ?_
      refine Wn.callV (p := 114) (n := 1) (ix := 191) (ci := (10)) (PNx M1 (M1.1 114) T L mo (tNx T L s1.1)) [] [] rfl rfl rfl rfl (Nat.le_of_ble_eq_true rfl) (Nat.le_of_ble_eq_true rfl) (c_m_nx (d + 2) M1 _ T L mo s1.1 rfl K1 (by omega) (by omega)) ?_
      rintro r0 M2 ⟨rfl, l1, l3, l4, l5⟩
      show Wn _ 142 _ (224, [(4, .int (nI (55 + tKd T L mo s1.1))), (3, .int (nI (cdW (tKd T L mo st.1)))), (2, .int (b2 (tKd T L mo st.1 = 8))), (1, .int (b2 (tKd T L mo st.1 = 27))), (0, .ref 114)], [], M2)
      refine Wn.run (tab := tb_m_operand) rfl 4 (c' := (if (M2.1 114 11) = (nI 2) then 238 else 232, [(4, .int (nI (55 + tKd T L mo s1.1))), (3, .int (nI (cdW (tKd T L mo st.1)))), (2, .int (b2 (tKd T L mo st.1 = 8))), (1, .int (b2 (tKd T L mo st.1 = 27))), (0, .ref 114)], [], M2)) (o := [shp 114 = (0, 10)]) rfl rfl ?_
      have kl3 := tKd_le T L mo (tNx T L s1.1)
      have cl3 := tCd_le (tKd T L mo (tNx T L s1.1))
      rw [l1.2.2.2.1]
      by_cases k2n : tKd T L mo (tNx T L s1.1) = 2
      · have tv := tVl_lt (TkM_T l1) k2n
        have ek : tkN T L mo (tNx T L s1.1) 0 999 = .inr (tVl T L (tNx T L s1.1), tNx T L (tNx T L s1.1)) := by
          unfold tkN
          rw [if_pos k2n, if_pos (by omega)]
        rw [ek, if_pos (congrArg nI ((tCd_2 kl3).mpr k2n))]
        dsimp only
        have v2 : M2.1 114 14 = nI (tVl T L (tNx T L s1.1)) := l1.2.2.2.2.2.1 k2n
        have s2' : SM M2 s1 := ⟨(l3 40 (by decide)).trans s1'.1, (l3 41 (by decide)).trans s1'.2.1, by rw [(l5 118 (by decide)).1]; exact s1'.2.2⟩
        have k2 : SK M2 S := ⟨(l3 42 (by decide)).trans k1.1, (l3 43 (by decide)).trans k1.2.1, by rw [(l5 129 (by decide)).1]; exact k1.2.2.1, k1.2.2.2⟩
        have ec : 55 + tKd T L mo s1.1 = cdS (tKd T L mo s1.1) := (if_neg (by omega)).symm
        refine Wn.run (tab := tb_m_operand) rfl 5 (c' := (246, [(4, .int (nI (55 + tKd T L mo s1.1))), (3, .int (nI (cdW (tKd T L mo st.1)))), (2, .int (b2 (tKd T L mo st.1 = 8))), (1, .int (b2 (tKd T L mo st.1 = 27))), (0, .ref 114)], [.int (M2.1 114 14), .int (nI (55 + tKd T L mo s1.1)), .int (nI (cdW (tKd T L mo st.1))), .ref 114], M2)) (o := [shp 114 = (0, 10)]) rfl rfl ?_
        rw [v2, ec]
        refine Wn.callV (p := 114) (n := 4) (ix := 432) (ci := (10)) (PCd M2 s1.2.1 (nI (cdW (tKd T L mo st.1))) (nI (cdS (tKd T L mo s1.1))) (nI (tVl T L (tNx T L s1.1)))) [.int (nI (cdW (tKd T L mo st.1))), .int (nI (cdS (tKd T L mo s1.1))), .int (nI (tVl T L (tNx T L s1.1)))] [] rfl rfl rfl rfl (Nat.le_of_ble_eq_true rfl) (Nat.le_of_ble_eq_true rfl) (c_m_code _ M2 s1.2.1 s2'.1 hb _ _ _) ?_
        intro r0 N hA
        have sN := SM_add (a := tKd T L mo st.1) (s := tKd T L mo s1.1) (u := tVl T L (tNx T L s1.1)) s2' hA
        obtain ⟨rfl, b1, b2', b3, b4⟩ := hA
        have xN : Gx [40] (M2.1 114) (N.1 114) := by rw [b1]; exact Gx_up (Gx_rf _ _) (by decide)
        have KN9 : TkM N T L mo (tNx T L s1.1) := TkM_gx xN (by decide) (by rw [b3]) ((b4 115 (by decide)).1) l1
        have kN : SK N S := ⟨(xN 42 (by decide)).trans k2.1, (xN 43 (by decide)).trans k2.2.1, by rw [(b4 129 (by decide)).1]; exact k2.2.2.1, k2.2.2.2⟩
        show Wn _ 142 _ (249, [(4, .int (nI (cdS (tKd T L mo s1.1)))), (3, .int (nI (cdW (tKd T L mo st.1)))), (2, .int (b2 (tKd T L mo st.1 = 8))), (1, .int (b2 (tKd T L mo st.1 = 27))), (0, .ref 114)], [], N)
        refine Wn.run (tab := tb_m_operand) rfl 1 (c' := (250, [(4, .int (nI (cdS (tKd T L mo s1.1)))), (3, .int (nI (cdW (tKd T L mo st.1)))), (2, .int (b2 (tKd T L mo st.1 = 8))), (1, .int (b2 (tKd T L mo st.1 = 27))), (0, .ref 114)], [.ref 114], N)) (o := []) rfl trivial ?_
        refine Wn.callV (p := 114) (n := 1) (ix := 191) (ci := (10)) (PNx N (N.1 114) T L mo (tNx T L (tNx T L s1.1))) [] [] rfl rfl rfl rfl (Nat.le_of_ble_eq_true rfl) (Nat.le_of_ble_eq_true rfl) (c_m_nx (d + 2) N _ T L mo (tNx T L s1.1) rfl KN9 (by omega) (by omega)) ?_
        rintro r0 P ⟨rfl, n1, n2, n3, n4⟩
        show Wn _ 142 _ (253, [(4, .int (nI (cdS (tKd T L mo s1.1)))), (3, .int (nI (cdW (tKd T L mo st.1)))), (2, .int (b2 (tKd T L mo st.1 = 8))), (1, .int (b2 (tKd T L mo st.1 = 27))), (0, .ref 114)], [], P)
        refine Wn.run (tab := tb_m_operand) rfl 1 (c' := (254, [(4, .int (nI (cdS (tKd T L mo s1.1)))), (3, .int (nI (cdW (tKd T L mo st.1)))), (2, .int (b2 (tKd T L mo st.1 = 8))), (1, .int (b2 (tKd T L mo st.1 = 27))), (0, .ref 114)], [.int (nI 1)], P)) (o := []) rfl trivial ?_
        exact Wn.zret rfl (Or.inr rfl) ⟨Gx_tr2 (Gx_tr2 (Gx_tr2 x1 l3 (by decide)) xN (by decide)) n2 (by decide), fr_tr (fr_tr (fr_tr F1 l5 (by decide)) b4 (by decide)) n4 (by decide), rfl, n1, ⟨(n2 40 (by decide)).trans sN.1, (n2 41 (by decide)).trans sN.2.1, by rw [(n4 118 (by decide)).1]; exact sN.2.2⟩, ⟨(n2 42 (by decide)).trans kN.1, (n2 43 (by decide)).trans kN.2.1, by rw [(n4 129 (by decide)).1]; exact kN.2.2.1, kN.2.2.2⟩, (n2 44 (by decide)).trans ((xN 44 (by decide)).trans ((l3 44 (by decide)).trans w1)), (n2 15 (by decide)).trans ((xN 15 (by decide)).trans ((l3 15 (by decide)).trans h151))⟩
      · have ek : tkN T L mo (tNx T L s1.1) 0 999 = .inl (1, tAt T L mo (tNx T L s1.1)) := by
          unfold tkN
          rw [if_neg k2n]
        rw [ek, if_neg (show ¬ nI (tCd (tKd T L mo (tNx T L s1.1))) = nI 2 from fun q => k2n ((tCd_2 kl3).mp ((n_eq rfl rfl (by omega) (by omega)).mp q)))]
        dsimp only
        refine Wn.run (tab := tb_m_operand) rfl 2 (c' := (234, [(4, .int (nI (55 + tKd T L mo s1.1))), (3, .int (nI (cdW (tKd T L mo st.1)))), (2, .int (b2 (tKd T L mo st.1 = 8))), (1, .int (b2 (tKd T L mo st.1 = 27))), (0, .ref 114)], [.int (nI 1), .ref 114], M2)) (o := []) rfl trivial ?_
        refine Wn.callV (p := 114) (n := 2) (ix := 188) (ci := (10)) (PBd M2 (M2.1 114) (nI 1) (nI (tAt T L mo (tNx T L s1.1)))) [.int (nI 1)] [] rfl rfl rfl rfl (Nat.le_of_ble_eq_true rfl) (Nat.le_of_ble_eq_true rfl) (c_m_bad _ M2 _ T L mo (tNx T L s1.1) rfl l1 (nI 1)) ?_
        rintro r0 M3 ⟨rfl, q1, q2, q3⟩
        exact Wn.zret rfl (Or.inl rfl) ⟨by rw [q1]; exact Gx_up (Gx_up (Gx_tr2 x1 l3 (by decide)) (by decide)) (by decide), fr_tr (fr_tr F1 l5 (by decide)) q3 (by decide), rfl, by rw [q1, pk_un (by decide), pk_us], by rw [q1, pk_us]⟩
    · rw [if_pos c5]
      by_cases c6 : T (sk T L s1.1) < 60
      · rw [if_pos ((n_lt rfl rfl (by omega) (by omega)).mpr c6)]; exact bad1 c5
      · rw [if_neg (mt (n_lt rfl rfl (by omega) (by omega)).mp c6)]
        refine Wn.run (tab := tb_m_operand) rfl 4 (c' := (if (M1.1 114 14) ≤ (nI 62) then 214 else 208, [(3, .int (nI (cdW (tKd T L mo st.1)))), (2, .int (b2 (tKd T L mo st.1 = 8))), (1, .int (b2 (tKd T L mo st.1 = 27))), (0, .ref 114)], [], M1)) (o := [shp 114 = (0, 10)]) rfl rfl ?_
        rw [v14, if_neg (mt (n_le rfl rfl (by omega) (by omega)).mp (fun q => c5 (h1.mp ⟨by omega, q⟩)))]
        exact bad1 c5
  · rw [if_pos (show ¬ nI (tCd (tKd T L mo s1.1)) = nI 3 from fun q => c3 ((tCd_3 kl).mp ((n_eq rfl rfl (by omega) (by omega)).mp q))), if_pos (show ¬ (5 ≤ tKd T L mo s1.1 ∧ tKd T L mo s1.1 ≤ 7) by omega)]
    exact bad1 (by omega)
theorem stk_up {u : Nat → Int32} {v : Int32} {n : Nat} : ∀ {S : List Nat}, stk u S → S.length ≤ n → stk (upd u n v) S
  | [], _, _ => trivial
  | x :: S, h, hl => by
    have hl : S.length + 1 ≤ n := hl
    exact ⟨by rw [pk_un (by omega)]; exact h.1, stk_up h.2 (by omega)⟩
set_option maxRecDepth 20000 in
theorem c_m_operand (d : Nat) (M : Mm) (T : Nat → Nat) (L mo : Nat) (S : List Nat) (st : Sst) (hK : TkM M T L mo st.1) (hs : SM M st) (hk : SK M S) (hw : M.1 114 44 = nI 0) (hb : st.2.1 + S.length ≤ 2 * st.2.2.1) (h20 : st.2.2.1 ≤ 20) (hc8 : cnS S ≤ 8) (hv : Rsv M) (np : Nat) (hnp : np ≤ 6) (h116 : M.1 116 2 = nI np) (ν : Nat → Int64) (hN : ∀ q, q < np → M.2.1 119 (0 + q) = ν q) : Wn (d + 4) 142 (POp9 M T L mo (opS T L mo ν np S st)) (0, lv_args 0 [.ref 114], [], M) := by
  have kl := tKd_le T L mo st.1
  refine Wn.run (tab := tb_m_operand) rfl 2 (c' := (4, [(0, .ref 114)], [.long (7237492 : Int64), .ref 114], M)) (o := []) rfl trivial ?_
  refine Wn.callV (p := 114) (n := 2) (ix := 219) (ci := (10)) (fun r0 M0 => r0 = some (.int (b2 (tKd T L mo st.1 = 27))) ∧ M = M0) [.long (7237492 : Int64)] [] rfl rfl rfl rfl (Nat.le_of_ble_eq_true rfl) (Nat.le_of_ble_eq_true rfl) (w_m_isWord _ M T L mo st.1 27 hK (by decide) (by decide) _ (by decide) _ ⟨rfl, rfl⟩) ?_
  rintro _ _ ⟨rfl, rfl⟩
  show Wn _ 142 _ (7, [(0, .ref 114)], [.int (b2 (tKd T L mo st.1 = 27))], M)
  refine Wn.run (tab := tb_m_operand) rfl 3 (c' := (11, [(1, .int (b2 (tKd T L mo st.1 = 27))), (0, .ref 114)], [.int (nI 40), .ref 114], M)) (o := []) rfl trivial ?_
  refine Wn.callV (p := 114) (n := 2) (ix := 185) (ci := (10)) (fun r0 M0 => r0 = some (.int (b2 (tKd T L mo st.1 = 8))) ∧ M = M0) [.int (nI 40)] [] rfl rfl rfl rfl (Nat.le_of_ble_eq_true rfl) (Nat.le_of_ble_eq_true rfl) (w_m_isSign _ M T L mo st.1 8 40 hK (by decide) (by decide) (by decide) (by decide) _ ⟨rfl, rfl⟩) ?_
  rintro _ _ ⟨rfl, rfl⟩
  show Wn _ 142 _ (14, [(1, .int (b2 (tKd T L mo st.1 = 27))), (0, .ref 114)], [.int (b2 (tKd T L mo st.1 = 8))], M)
  refine Wn.run (tab := tb_m_operand) rfl 2 (c' := (16, [(2, .int (b2 (tKd T L mo st.1 = 8))), (1, .int (b2 (tKd T L mo st.1 = 27))), (0, .ref 114)], [.ref 114], M)) (o := []) rfl trivial ?_
  refine Wn.callV (p := 114) (n := 1) (ix := 438) (ci := (10)) (fun r0 M0 => r0 = some (.int (lfI (tKd T L mo st.1))) ∧ M = M0) [] [] rfl rfl rfl rfl (Nat.le_of_ble_eq_true rfl) (Nat.le_of_ble_eq_true rfl) (w_m_leafOf (d + 2) M T L mo st.1 hK _ ⟨rfl, rfl⟩) ?_
  rintro _ _ ⟨rfl, rfl⟩
  show Wn _ 142 _ (19, [(2, .int (b2 (tKd T L mo st.1 = 8))), (1, .int (b2 (tKd T L mo st.1 = 27))), (0, .ref 114)], [.int (lfI (tKd T L mo st.1))], M)
  refine Wn.run (tab := tb_m_operand) rfl 3 (c' := (if ¬ (b2 (tKd T L mo st.1 = 27)) = 0 then 38 else 24, [(3, .int (lfI (tKd T L mo st.1))), (2, .int (b2 (tKd T L mo st.1 = 8))), (1, .int (b2 (tKd T L mo st.1 = 27))), (0, .ref 114)], [], M)) (o := []) rfl trivial ?_
  have z38 : begK (tKd T L mo st.1) → Wn (d + 4) 142 (POp9 M T L mo (opS T L mo ν np S st)) (38, [(3, .int (lfI (tKd T L mo st.1))), (2, .int (b2 (tKd T L mo st.1 = 8))), (1, .int (b2 (tKd T L mo st.1 = 27))), (0, .ref 114)], [], M) := by
    intro hbk
    refine Wn.run (tab := tb_m_operand) rfl 4 (c' := (if (M.1 114 41) = (nI 20) then 56 else 47, [(3, .int (lfI (tKd T L mo st.1))), (2, .int (b2 (tKd T L mo st.1 = 8))), (1, .int (b2 (tKd T L mo st.1 = 27))), (0, .ref 114)], [], M)) (o := [shp 114 = (0, 10)]) rfl rfl ?_
    rw [hs.2.1]
    have z56 : (st.2.2.1 = 20 ∨ 8 ≤ cnS S) → Wn (d + 4) 142 (POp9 M T L mo (opS T L mo ν np S st)) (56, [(3, .int (lfI (tKd T L mo st.1))), (2, .int (b2 (tKd T L mo st.1 = 8))), (1, .int (b2 (tKd T L mo st.1 = 27))), (0, .ref 114)], [], M) := by
      intro c
      have e : opS T L mo ν np S st = .inl (4, tAt T L mo st.1) := by unfold opS; rw [if_neg (fun q => q hbk), if_pos c]
      rw [e]
      refine Wn.run (tab := tb_m_operand) rfl 2 (c' := (58, [(3, .int (lfI (tKd T L mo st.1))), (2, .int (b2 (tKd T L mo st.1 = 8))), (1, .int (b2 (tKd T L mo st.1 = 27))), (0, .ref 114)], [.int (nI 4), .ref 114], M)) (o := []) rfl trivial ?_
      refine Wn.callV (p := 114) (n := 2) (ix := 188) (ci := (10)) (PBd M (M.1 114) (nI 4) (nI (tAt T L mo st.1))) [.int (nI 4)] [] rfl rfl rfl rfl (Nat.le_of_ble_eq_true rfl) (Nat.le_of_ble_eq_true rfl) (c_m_bad _ M _ T L mo st.1 rfl hK (nI 4)) ?_
      rintro r0 M2 ⟨rfl, q1, q2, q3⟩
      exact Wn.zret rfl (Or.inl rfl) ⟨by rw [q1]; exact Gx_up (Gx_up (Gx_rf _ _) (by decide)) (by decide), fr_up q3 (by decide), rfl, by rw [q1, pk_un (by decide), pk_us], by rw [q1, pk_us]⟩
    by_cases c1 : st.2.2.1 = 20
    · rw [if_pos ((n_eq rfl rfl (by omega) (by omega)).mpr c1)]
      exact z56 (Or.inl c1)
    rw [if_neg (mt (n_eq rfl rfl (by omega) (by omega)).mp c1)]
    refine Wn.run (tab := tb_m_operand) rfl 4 (c' := (if (M.1 114 43) ≤ (nI 8) then 62 else 56, [(3, .int (lfI (tKd T L mo st.1))), (2, .int (b2 (tKd T L mo st.1 = 8))), (1, .int (b2 (tKd T L mo st.1 = 27))), (0, .ref 114)], [], M)) (o := [shp 114 = (0, 10)]) rfl rfl ?_
    rw [hk.2.1]
    by_cases c2 : 8 ≤ cnS S
    · rw [if_neg (mt (n_le rfl rfl (by omega) (by omega)).mp (show ¬ 1 + cnS S ≤ 8 by omega))]
      exact z56 (Or.inr c2)
    rw [if_pos ((n_le rfl rfl (by omega) (by omega)).mpr (show 1 + cnS S ≤ 8 by omega))]
    have c12 : ¬ (st.2.2.1 = 20 ∨ 8 ≤ cnS S) := fun q => q.elim c1 c2
    refine Wn.run (tab := tb_m_operand) rfl 6 (c' := (72, [(3, .int (lfI (tKd T L mo st.1))), (2, .int (b2 (tKd T L mo st.1 = 8))), (1, .int (b2 (tKd T L mo st.1 = 27))), (0, .ref 114)], [], (mI M 114 (upd (M.1 114) 41 ((M.1 114 41) + (nI 1)))))) (o := [shp 114 = (0, 10), shp 114 = (0, 10)]) rfl ⟨rfl, rfl⟩ ?_
    rw [hs.2.1, nI_add]
    generalize hM1 : (mI M 114 (upd (M.1 114) 41 (nI (st.2.2.1 + 1)))) = M1
    have f1 := fr_1I hM1
    have g1 : M1.1 114 = upd (M.1 114) 41 (nI (st.2.2.1 + 1)) := mI_eq hM1
    have K1 : TkM M1 T L mo st.1 := TkM_up hM1 (by decide) hK
    refine Wn.run (tab := tb_m_operand) rfl 1 (c' := (73, [(3, .int (lfI (tKd T L mo st.1))), (2, .int (b2 (tKd T L mo st.1 = 8))), (1, .int (b2 (tKd T L mo st.1 = 27))), (0, .ref 114)], [.ref 114], M1)) (o := []) rfl trivial ?_
    refine Wn.callV (p := 114) (n := 1) (ix := 191) (ci := (10)) (PNx M1 (M1.1 114) T L mo (tNx T L st.1)) [] [] rfl rfl rfl rfl (Nat.le_of_ble_eq_true rfl) (Nat.le_of_ble_eq_true rfl) (c_m_nx (d + 2) M1 _ T L mo st.1 rfl K1 (by unfold begK at hbk; omega) (by unfold begK at hbk; omega)) ?_
    rintro r0 M2 ⟨rfl, l1, l3, l4, l5⟩
    show Wn _ 142 _ (76, [(3, .int (lfI (tKd T L mo st.1))), (2, .int (b2 (tKd T L mo st.1 = 8))), (1, .int (b2 (tKd T L mo st.1 = 27))), (0, .ref 114)], [], M2)
    have x2 : Gx [4, 11, 12, 13, 14, 41] (M.1 114) (M2.1 114) := Gx_tr2 (K1 := KN) (by rw [g1]; exact Gx_up (Gx_rf _ _) (by decide)) l3 (by decide)
    have F2 : Fr [114] M M2 := fr_tr f1 l5 (by decide)
    have s2 : SM M2 (tNx T L st.1, st.2.1, st.2.2.1 + 1, st.2.2.2) := by
      refine ⟨(x2 40 (by decide)).trans hs.1, ?_, ?_⟩
      · rw [l3 41 (by decide), g1, pk_us]
      · rw [(F2 118 (by decide)).1]; exact hs.2.2
    have k2 : SK M2 S := ⟨(x2 42 (by decide)).trans hk.1, (x2 43 (by decide)).trans hk.2.1, by rw [(F2 129 (by decide)).1]; exact hk.2.2.1, hk.2.2.2⟩
    refine Wn.run (tab := tb_m_operand) rfl 2 (c' := (if ¬ (b2 (tKd T L mo st.1 = 27)) = 0 then 84 else 80, [(3, .int (lfI (tKd T L mo st.1))), (2, .int (b2 (tKd T L mo st.1 = 8))), (1, .int (b2 (tKd T L mo st.1 = 27))), (0, .ref 114)], [], M2)) (o := []) rfl trivial ?_
    have push : ∀ (a : Nat) (hka : tKd T L mo st.1 = a) (ha : a = 27 ∨ a = 8), Wn (d + 4) 142 (POp9 M T L mo (opS T L mo ν np S st)) (103, [(3, .int (lfI (tKd T L mo st.1))), (2, .int (b2 (tKd T L mo st.1 = 8))), (1, .int (b2 (tKd T L mo st.1 = 27))), (0, .ref 114)], [.int (nI (cdW a)), .int (M2.1 114 42), .ref 129], M2) := by
      intro a hka ha
      have e : opS T L mo ν np S st = .inr (false, a :: S, (tNx T L st.1, st.2.1, st.2.2.1 + 1, st.2.2.2)) := by unfold opS; rw [if_neg (fun q => q hbk), if_neg c12, if_pos (by omega), hka]
      rw [e]
      have e42 : M2.1 114 42 = nI S.length := k2.1
      have kz : aok shp 129 0 (M2.1 114 42) := ak1 (n := 45) rfl rfl e42 (by omega)
      refine Wn.run (tab := tb_m_operand) rfl 1 (c' := (104, [(3, .int (lfI (tKd T L mo st.1))), (2, .int (b2 (tKd T L mo st.1 = 8))), (1, .int (b2 (tKd T L mo st.1 = 27))), (0, .ref 114)], [], (mI M2 129 (upd (M2.1 129) ((M2.1 114 42)).toNatClampNeg (nI (cdW a)))))) (o := [aok shp 129 0 (M2.1 114 42)]) rfl kz ?_
      rw [show ((M2.1 114 42)).toNatClampNeg = S.length from cl1 e42 (by omega)]
      generalize hM3 : (mI M2 129 (upd (M2.1 129) S.length (nI (cdW a)))) = M3
      have f3 := fr_1I hM3
      refine Wn.run (tab := tb_m_operand) rfl 6 (c' := (114, [(3, .int (lfI (tKd T L mo st.1))), (2, .int (b2 (tKd T L mo st.1 = 8))), (1, .int (b2 (tKd T L mo st.1 = 27))), (0, .ref 114)], [], (mI M3 114 (upd (M3.1 114) 42 ((M3.1 114 42) + (nI 1)))))) (o := [shp 114 = (0, 10), shp 114 = (0, 10)]) rfl ⟨rfl, rfl⟩ ?_
      rw [show M3.1 114 42 = nI S.length from by rw [(f3 114 (by decide)).1]; exact e42, nI_add]
      generalize hM4 : (mI M3 114 (upd (M3.1 114) 42 (nI (S.length + 1)))) = M4
      have f4 := fr_1I hM4
      have g4 : M4.1 114 = upd (M2.1 114) 42 (nI (S.length + 1)) := by rw [mI_eq hM4, (f3 114 (by decide)).1]
      refine Wn.run (tab := tb_m_operand) rfl 6 (c' := (124, [(3, .int (lfI (tKd T L mo st.1))), (2, .int (b2 (tKd T L mo st.1 = 8))), (1, .int (b2 (tKd T L mo st.1 = 27))), (0, .ref 114)], [], (mI M4 114 (upd (M4.1 114) 43 ((M4.1 114 43) + (nI 1)))))) (o := [shp 114 = (0, 10), shp 114 = (0, 10)]) rfl ⟨rfl, rfl⟩ ?_
      rw [show M4.1 114 43 = nI (1 + cnS S) from by rw [g4, pk_un (by decide)]; exact k2.2.1, nI_add]
      generalize hM5 : (mI M4 114 (upd (M4.1 114) 43 (nI (1 + cnS S + 1)))) = M5
      have f5 := fr_1I hM5
      have g5 : M5.1 114 = upd (upd (M2.1 114) 42 (nI (S.length + 1))) 43 (nI (1 + cnS S + 1)) := by rw [mI_eq hM5, g4]
      have F5 : Fr [114, 129] M2 M5 := fr_tr (fr_tr (fr_up f3 (by decide)) f4 (by decide)) f5 (by decide)
      have x5 : Gx [42, 43] (M2.1 114) (M5.1 114) := by rw [g5]; exact Gx_up (Gx_up (Gx_rf _ _) (by decide)) (by decide)
      refine Wn.run (tab := tb_m_operand) rfl 1 (c' := (125, [(3, .int (lfI (tKd T L mo st.1))), (2, .int (b2 (tKd T L mo st.1 = 8))), (1, .int (b2 (tKd T L mo st.1 = 27))), (0, .ref 114)], [.int (nI 1)], M5)) (o := []) rfl trivial ?_
      refine Wn.zret rfl (Or.inr rfl) ⟨Gx_tr2 (Gx_sub x2 (by decide)) x5 (by decide), fr_tr (fr_up F2 (by decide)) F5 (by decide), rfl, ?_, ?_, ⟨?_, ?_, ⟨?_, ?_⟩, ⟨by omega, k2.2.2.2⟩⟩, ?_, ?_⟩
      · exact TkM_gx x5 (by decide) (by rw [← hM5, ← hM4, ← hM3]; rfl) ((F5 115 (by decide)).1) l1
      · exact ⟨(x5 40 (by decide)).trans s2.1, (x5 41 (by decide)).trans s2.2.1, by rw [(F5 118 (by decide)).1]; exact s2.2.2⟩
      · rw [g5, pk_un (by decide), pk_us]; rfl
      · rw [g5, pk_us, cnS_c, if_pos ha, Nat.add_assoc]
      · rw [(f5 129 (by decide)).1, (f4 129 (by decide)).1, mI_eq hM3, pk_us]
      · rw [(f5 129 (by decide)).1, (f4 129 (by decide)).1, mI_eq hM3]
        exact stk_up k2.2.2.1 (Nat.le_refl _)
      · exact (x5 44 (by decide)).trans ((x2 44 (by decide)).trans hw)
      · exact (x5 15 (by decide)).trans (x2 15 (by decide))
    by_cases c27 : tKd T L mo st.1 = 27
    · rw [if_pos (b2_n0.mpr c27)]
      refine Wn.run (tab := tb_m_operand) rfl 6 (c' := (if (b2 (tKd T L mo st.1 = 27)) = 0 then 101 else 96, [(3, .int (lfI (tKd T L mo st.1))), (2, .int (b2 (tKd T L mo st.1 = 8))), (1, .int (b2 (tKd T L mo st.1 = 27))), (0, .ref 114)], [.int (M2.1 114 42), .ref 129], M2)) (o := [shp 114 = (0, 10), shp 114 = (0, 10)]) rfl ⟨rfl, rfl⟩ ?_
      rw [if_neg (b2_n0.mpr c27)]
      refine Wn.run (tab := tb_m_operand) rfl 2 (c' := (103, [(3, .int (lfI (tKd T L mo st.1))), (2, .int (b2 (tKd T L mo st.1 = 8))), (1, .int (b2 (tKd T L mo st.1 = 27))), (0, .ref 114)], [.int (nI 20), .int (M2.1 114 42), .ref 129], M2)) (o := []) rfl trivial ?_
      exact push 27 c27 (Or.inl rfl)
    rw [if_neg (fun q => q (b2_e0.mpr c27))]
    refine Wn.run (tab := tb_m_operand) rfl 2 (c' := (if (b2 (tKd T L mo st.1 = 8)) = 0 then 126 else 84, [(3, .int (lfI (tKd T L mo st.1))), (2, .int (b2 (tKd T L mo st.1 = 8))), (1, .int (b2 (tKd T L mo st.1 = 27))), (0, .ref 114)], [], M2)) (o := []) rfl trivial ?_
    by_cases c8 : tKd T L mo st.1 = 8
    · rw [if_neg (b2_n0.mpr c8)]
      refine Wn.run (tab := tb_m_operand) rfl 6 (c' := (if (b2 (tKd T L mo st.1 = 27)) = 0 then 101 else 96, [(3, .int (lfI (tKd T L mo st.1))), (2, .int (b2 (tKd T L mo st.1 = 8))), (1, .int (b2 (tKd T L mo st.1 = 27))), (0, .ref 114)], [.int (M2.1 114 42), .ref 129], M2)) (o := [shp 114 = (0, 10), shp 114 = (0, 10)]) rfl ⟨rfl, rfl⟩ ?_
      rw [if_pos (b2_e0.mpr c27)]
      refine Wn.run (tab := tb_m_operand) rfl 1 (c' := (103, [(3, .int (lfI (tKd T L mo st.1))), (2, .int (b2 (tKd T L mo st.1 = 8))), (1, .int (b2 (tKd T L mo st.1 = 27))), (0, .ref 114)], [.int (nI 23), .int (M2.1 114 42), .ref 129], M2)) (o := []) rfl trivial ?_
      exact push 8 c8 (Or.inr rfl)
    rw [if_pos (b2_e0.mpr c8)]
    have e : opS T L mo ν np S st = match leafS T L mo ν np (tKd T L mo st.1) (tNx T L st.1, st.2.1, st.2.2.1 + 1, st.2.2.2) with
      | .inl e => .inl e
      | .inr s2 => .inr (true, S, s2) := by unfold opS; rw [if_neg (fun q => q hbk), if_neg c12, if_neg (fun q => q.elim c27 c8)]; rfl
    rw [e]
    exact c_m_operand_126 d M M2 T L mo S st (tNx T L st.1, st.2.1, st.2.2.1 + 1, st.2.2.2) l1 s2 k2 (by show st.2.1 < 45; omega) (by unfold begK at hbk; unfold leK; omega) (Rsv_fr F2 (by decide) hv) np hnp (by rw [(F2 116 (by decide)).1]; exact h116) ν (by rw [(F2 119 (by decide)).2.1]; exact hN) (Gx_sub x2 (by decide)) (x2 15 (by decide)) (fr_up F2 (by decide))
  by_cases c27 : tKd T L mo st.1 = 27
  · rw [if_pos (b2_n0.mpr c27)]
    exact z38 (by unfold begK; omega)
  rw [if_neg (fun q => q (b2_e0.mpr c27))]
  refine Wn.run (tab := tb_m_operand) rfl 2 (c' := (if ¬ (b2 (tKd T L mo st.1 = 8)) = 0 then 38 else 28, [(3, .int (lfI (tKd T L mo st.1))), (2, .int (b2 (tKd T L mo st.1 = 8))), (1, .int (b2 (tKd T L mo st.1 = 27))), (0, .ref 114)], [], M)) (o := []) rfl trivial ?_
  by_cases c8 : tKd T L mo st.1 = 8
  · rw [if_pos (b2_n0.mpr c8)]
    exact z38 (by unfold begK; omega)
  rw [if_neg (fun q => q (b2_e0.mpr c8))]
  refine Wn.run (tab := tb_m_operand) rfl 2 (c' := (if 0 ≤ (lfI (tKd T L mo st.1)) then 38 else 32, [(3, .int (lfI (tKd T L mo st.1))), (2, .int (b2 (tKd T L mo st.1 = 8))), (1, .int (b2 (tKd T L mo st.1 = 27))), (0, .ref 114)], [], M)) (o := []) rfl trivial ?_
  by_cases cl : leK (tKd T L mo st.1)
  · have lf : lfI (tKd T L mo st.1) = nI (cdW (tKd T L mo st.1)) := if_pos cl
    have cw := cdW_le (tKd T L mo st.1)
    rw [if_pos (show 0 ≤ lfI (tKd T L mo st.1) by rw [lf]; exact nI_ge0 (by omega))]
    exact z38 (by unfold leK at cl; unfold begK; omega)
  rw [if_neg (show ¬ 0 ≤ lfI (tKd T L mo st.1) by rw [show lfI (tKd T L mo st.1) = -1 from if_neg cl]; decide)]
  have e : opS T L mo ν np S st = .inl (1, tAt T L mo st.1) := by unfold opS; rw [if_pos (by unfold leK at cl; unfold begK; omega)]
  rw [e]
  refine Wn.run (tab := tb_m_operand) rfl 2 (c' := (34, [(3, .int (lfI (tKd T L mo st.1))), (2, .int (b2 (tKd T L mo st.1 = 8))), (1, .int (b2 (tKd T L mo st.1 = 27))), (0, .ref 114)], [.int (nI 1), .ref 114], M)) (o := []) rfl trivial ?_
  refine Wn.callV (p := 114) (n := 2) (ix := 188) (ci := (10)) (PBd M (M.1 114) (nI 1) (nI (tAt T L mo st.1))) [.int (nI 1)] [] rfl rfl rfl rfl (Nat.le_of_ble_eq_true rfl) (Nat.le_of_ble_eq_true rfl) (c_m_bad _ M _ T L mo st.1 rfl hK (nI 1)) ?_
  rintro r0 M2 ⟨rfl, q1, q2, q3⟩
  exact Wn.zret rfl (Or.inl rfl) ⟨by rw [q1]; exact Gx_up (Gx_up (Gx_rf _ _) (by decide)) (by decide), fr_up q3 (by decide), rfl, by rw [q1, pk_un (by decide), pk_us], by rw [q1, pk_us]⟩
