/-- what tokens there are -/
theorem tKd_cases {T : Nat → Nat} {L mo p : Nat} (hT : ∀ k, k < L → T k < 256) :
    (mn L mo ≤ sk T L p ∧ ((tKd T L mo p = 36 ∧ mo < L) ∨ (tKd T L mo p = 0 ∧ ¬ mo < L))) ∨
    (sk T L p < mn L mo ∧ ((tRl T L p = 0 ∧ (tKd T L mo p = 1 ∨ (4 ≤ tKd T L mo p ∧ tKd T L mo p ≤ 9)) ∧ tKd T L mo p = kc (nI (T (sk T L p))).toInt64 1) ∨
      (¬ tRl T L p = 0 ∧ nDg T (sk T L p) (tRl T L p) = 0 ∧ nLt T (sk T L p) (tRl T L p) ≤ 7 ∧ (tKd T L mo p = 3 ∨ (10 ≤ tKd T L mo p ∧ tKd T L mo p < 36)) ∧ tKd T L mo p = kc (tNm T L p) 3) ∨
      (¬ tRl T L p = 0 ∧ tKd T L mo p = 2 ∧ nLt T (sk T L p) (tRl T L p) = 0 ∧ nDg T (sk T L p) (tRl T L p) ≤ 3) ∨
      (¬ tRl T L p = 0 ∧ tKd T L mo p = 1 ∧ ¬ (nDg T (sk T L p) (tRl T L p) = 0 ∧ nLt T (sk T L p) (tRl T L p) ≤ 7) ∧ ¬ (nLt T (sk T L p) (tRl T L p) = 0 ∧ nDg T (sk T L p) (tRl T L p) ≤ 3)))) := by
  by_cases hb : mn L mo ≤ sk T L p
  · refine Or.inl ⟨hb, ?_⟩
    unfold tKd
    rw [if_pos hb]
    by_cases h7 : mo < L
    · rw [if_pos h7]; exact Or.inl ⟨rfl, h7⟩
    · rw [if_neg h7]; exact Or.inr ⟨rfl, h7⟩
  · refine Or.inr ⟨by omega, ?_⟩
    have h4 := mn_le L mo
    by_cases h0 : tRl T L p = 0
    · left
      have e : tKd T L mo p = kc (nI (T (sk T L p))).toInt64 1 := by unfold tKd; rw [if_neg hb, if_pos h0]
      have := tok_sign (T := T) (s := sk T L p) (hT _ (by omega))
      exact ⟨h0, by rw [e]; exact this, e⟩
    · right
      by_cases h1 : nDg T (sk T L p) (tRl T L p) = 0 ∧ nLt T (sk T L p) (tRl T L p) ≤ 7
      · left
        have e : tKd T L mo p = kc (tNm T L p) 3 := by unfold tKd; rw [if_neg hb, if_neg h0, if_pos h1]
        have h5 := tok_word (T := T) (L := L) (s := sk T L p) h0 h1.1 h1.2
        have h6 := kc_lt (tNm T L p) 3 (by decide)
        refine ⟨h0, h1.1, h1.2, ?_, e⟩
        rw [e]
        unfold tNm tRl at h6 ⊢
        omega
      · right
        by_cases h2 : nLt T (sk T L p) (tRl T L p) = 0 ∧ nDg T (sk T L p) (tRl T L p) ≤ 3
        · left
          exact ⟨h0, by unfold tKd; rw [if_neg hb, if_neg h0, if_neg h1, if_pos h2], h2.1, h2.2⟩
        · right
          exact ⟨h0, by unfold tKd; rw [if_neg hb, if_neg h0, if_neg h1, if_neg h2], h1, h2⟩
set_option maxRecDepth 20000 in
theorem c_rd_takePersonD (d : Nat) (M : Mm) (fk fp : Nat) (hR : RdD M fk fp) (pL : Nat) (σ : Nat → Nat) (hL : LkC M pL σ) (c9_2 : σ 2 ≤ 6) (ν : Nat → Int64) (hN : NmC M pL ν (σ 2)) (hpL : ¬ pL = 77 ∧ ¬ pL + 1 = 77 ∧ ¬ pL + 2 = 77) : Wn (d + 2) 180 (fun r0 M9 => r0 = (some (.int (nI 0))) ∧ M9 = M) (0, lv_args 0 [.ref 77, .ref pL], [], M) := by
  refine Wn.run (tab := tb_rd_takePerson) rfl 6 (c' := (if ((M.2.2 77 10) = 100003) = (true = true) then 20 else 12, [(2, .int (-1 : Int32)), (0, .ref 77), (1, .ref pL)], [], M)) (o := [shp 77 = (0, 3), isK (M.2.2 77 10), isK 100003]) rfl ⟨rfl, (hR.2.2.2), ⟨by decide, by decide⟩⟩ ?_
  refine Wn.br (fun h1 => ?_) (fun h1 => ?_)
  · show Wn _ 180 _ (20, [(2, .int (-1 : Int32)), (0, .ref 77), (1, .ref pL)], [], M)
    refine Wn.run (tab := tb_rd_takePerson) rfl 3 (c' := (25, [(2, .int (-1 : Int32)), (0, .ref 77), (1, .ref pL)], [.long (M.2.1 77 7), .ref pL], M)) (o := [shp 77 = (0, 3)]) rfl rfl ?_
    refine Wn.callV (p := pL) (n := 2) (ix := 96) (ci := (2)) (fun r0 M0 => r0 = some (.int (oI (pcl ν (M.2.1 77 7) (σ 2)))) ∧ M = M0) [.long (M.2.1 77 7)] [] rfl rfl rfl hL.1 (Nat.le_of_ble_eq_true rfl) (Nat.le_of_ble_eq_true rfl) (w_lk_personCalled _ M pL σ hL (by omega) ν hN (M.2.1 77 7) _ ⟨rfl, rfl⟩) ?_
    rintro _ _ ⟨rfl, rfl⟩
    show Wn _ 180 _ (28, [(2, .int (-1 : Int32)), (0, .ref 77), (1, .ref pL)], [.int (oI (pcl ν (M.2.1 77 7) (σ 2)))], M)
    cases hb1 : pcl ν (M.2.1 77 7) (σ 2) with
    | none =>
      show Wn _ 180 _ (28, [(2, .int (-1 : Int32)), (0, .ref 77), (1, .ref pL)], [.int (-1 : Int32)], M)
      refine Wn.run (tab := tb_rd_takePerson) rfl 4 (c' := (if ¬ (-1 : Int32) = (-1 : Int32) then 39 else 34, [(2, .int (-1 : Int32)), (0, .ref 77), (1, .ref pL)], [], M)) (o := []) rfl trivial ?_
      rw [if_neg (show ¬ (¬ (-1 : Int32) = (-1 : Int32)) by decide)]
      show Wn _ 180 _ (34, [(2, .int (-1 : Int32)), (0, .ref 77), (1, .ref pL)], [], M)
      refine Wn.run (tab := tb_rd_takePerson) rfl 2 (c' := (36, [(2, .int (-1 : Int32)), (0, .ref 77), (1, .ref pL)], [.int (nI 3), .ref 77], M)) (o := []) rfl trivial ?_
      refine Wn.callV (p := 77) (n := 2) (ix := 92) (ci := (3)) (fun r0 M9 => r0 = none ∧ M9 = M) [.int (nI 3)] [] rfl rfl rfl rfl (Nat.le_of_ble_eq_true rfl) (Nat.le_of_ble_eq_true rfl) (c_rd_failD _ M fk fp hR (nI 3)) ?_
      rintro _ M9 ⟨rfl, hsm⟩
      obtain rfl := hsm.symm
      show Wn _ 180 _ (39, [(2, .int (-1 : Int32)), (0, .ref 77), (1, .ref pL)], [], M)
      refine Wn.run (tab := tb_rd_takePerson) rfl 1 (c' := (40, [(2, .int (-1 : Int32)), (0, .ref 77), (1, .ref pL)], [.ref 77], M)) (o := []) rfl trivial ?_
      refine Wn.callV (p := 77) (n := 1) (ix := 88) (ci := (3)) (fun r0 M0 => r0 = some (.int (nI 1)) ∧ M = M0) [] [] rfl rfl rfl rfl (Nat.le_of_ble_eq_true rfl) (Nat.le_of_ble_eq_true rfl) (w_rd_failedD _ M fk hR.1 hR.2.2.1 _ ⟨rfl, rfl⟩) ?_
      rintro _ _ ⟨rfl, rfl⟩
      show Wn _ 180 _ (43, [(2, .int (-1 : Int32)), (0, .ref 77), (1, .ref pL)], [.int (nI 1)], M)
      refine Wn.run (tab := tb_rd_takePerson) rfl 1 (c' := (if (nI 1) = 0 then 48 else 46, [(2, .int (-1 : Int32)), (0, .ref 77), (1, .ref pL)], [], M)) (o := []) rfl trivial ?_
      rw [if_neg (show ¬ ((nI 1) = 0) by decide)]
      show Wn _ 180 _ (46, [(2, .int (-1 : Int32)), (0, .ref 77), (1, .ref pL)], [], M)
      refine Wn.run (tab := tb_rd_takePerson) rfl 1 (c' := (47, [(2, .int (-1 : Int32)), (0, .ref 77), (1, .ref pL)], [.int (nI 0)], M)) (o := []) rfl trivial ?_
      exact Wn.iret rfl ⟨rfl, rfl⟩
    | some k1 =>
      have hk1 : k1 < 6 := by have q9 := til_lt _ _ _ hb1; omega
      show Wn _ 180 _ (28, [(2, .int (-1 : Int32)), (0, .ref 77), (1, .ref pL)], [.int (nI k1)], M)
      refine Wn.run (tab := tb_rd_takePerson) rfl 4 (c' := (if ¬ (nI k1) = (-1 : Int32) then 39 else 34, [(2, .int (nI k1)), (0, .ref 77), (1, .ref pL)], [], M)) (o := []) rfl trivial ?_
      rw [if_pos (nI_m1 (by omega))]
      show Wn _ 180 _ (39, [(2, .int (nI k1)), (0, .ref 77), (1, .ref pL)], [], M)
      refine Wn.run (tab := tb_rd_takePerson) rfl 1 (c' := (40, [(2, .int (nI k1)), (0, .ref 77), (1, .ref pL)], [.ref 77], M)) (o := []) rfl trivial ?_
      refine Wn.callV (p := 77) (n := 1) (ix := 88) (ci := (3)) (fun r0 M0 => r0 = some (.int (nI 1)) ∧ M = M0) [] [] rfl rfl rfl rfl (Nat.le_of_ble_eq_true rfl) (Nat.le_of_ble_eq_true rfl) (w_rd_failedD _ M fk hR.1 hR.2.2.1 _ ⟨rfl, rfl⟩) ?_
      rintro _ _ ⟨rfl, rfl⟩
      show Wn _ 180 _ (43, [(2, .int (nI k1)), (0, .ref 77), (1, .ref pL)], [.int (nI 1)], M)
      refine Wn.run (tab := tb_rd_takePerson) rfl 1 (c' := (if (nI 1) = 0 then 48 else 46, [(2, .int (nI k1)), (0, .ref 77), (1, .ref pL)], [], M)) (o := []) rfl trivial ?_
      rw [if_neg (show ¬ ((nI 1) = 0) by decide)]
      show Wn _ 180 _ (46, [(2, .int (nI k1)), (0, .ref 77), (1, .ref pL)], [], M)
      refine Wn.run (tab := tb_rd_takePerson) rfl 1 (c' := (47, [(2, .int (nI k1)), (0, .ref 77), (1, .ref pL)], [.int (nI 0)], M)) (o := []) rfl trivial ?_
      exact Wn.iret rfl ⟨rfl, rfl⟩
  · show Wn _ 180 _ (12, [(2, .int (-1 : Int32)), (0, .ref 77), (1, .ref pL)], [], M)
    refine Wn.run (tab := tb_rd_takePerson) rfl 2 (c' := (14, [(2, .int (-1 : Int32)), (0, .ref 77), (1, .ref pL)], [.int (nI 1), .ref 77], M)) (o := []) rfl trivial ?_
    refine Wn.callV (p := 77) (n := 2) (ix := 92) (ci := (3)) (fun r0 M9 => r0 = none ∧ M9 = M) [.int (nI 1)] [] rfl rfl rfl rfl (Nat.le_of_ble_eq_true rfl) (Nat.le_of_ble_eq_true rfl) (c_rd_failD _ M fk fp hR (nI 1)) ?_
    rintro _ M9 ⟨rfl, hsm⟩
    obtain rfl := hsm.symm
    show Wn _ 180 _ (17, [(2, .int (-1 : Int32)), (0, .ref 77), (1, .ref pL)], [], M)
    refine Wn.run (tab := tb_rd_takePerson) rfl 4 (c' := (if ¬ (-1 : Int32) = (-1 : Int32) then 39 else 34, [(2, .int (-1 : Int32)), (0, .ref 77), (1, .ref pL)], [], M)) (o := []) rfl trivial ?_
    rw [if_neg (show ¬ (¬ (-1 : Int32) = (-1 : Int32)) by decide)]
    show Wn _ 180 _ (34, [(2, .int (-1 : Int32)), (0, .ref 77), (1, .ref pL)], [], M)
    refine Wn.run (tab := tb_rd_takePerson) rfl 2 (c' := (36, [(2, .int (-1 : Int32)), (0, .ref 77), (1, .ref pL)], [.int (nI 3), .ref 77], M)) (o := []) rfl trivial ?_
    refine Wn.callV (p := 77) (n := 2) (ix := 92) (ci := (3)) (fun r0 M9 => r0 = none ∧ M9 = M) [.int (nI 3)] [] rfl rfl rfl rfl (Nat.le_of_ble_eq_true rfl) (Nat.le_of_ble_eq_true rfl) (c_rd_failD _ M fk fp hR (nI 3)) ?_
    rintro _ M9 ⟨rfl, hsm⟩
    obtain rfl := hsm.symm
    show Wn _ 180 _ (39, [(2, .int (-1 : Int32)), (0, .ref 77), (1, .ref pL)], [], M)
    refine Wn.run (tab := tb_rd_takePerson) rfl 1 (c' := (40, [(2, .int (-1 : Int32)), (0, .ref 77), (1, .ref pL)], [.ref 77], M)) (o := []) rfl trivial ?_
    refine Wn.callV (p := 77) (n := 1) (ix := 88) (ci := (3)) (fun r0 M0 => r0 = some (.int (nI 1)) ∧ M = M0) [] [] rfl rfl rfl rfl (Nat.le_of_ble_eq_true rfl) (Nat.le_of_ble_eq_true rfl) (w_rd_failedD _ M fk hR.1 hR.2.2.1 _ ⟨rfl, rfl⟩) ?_
    rintro _ _ ⟨rfl, rfl⟩
    show Wn _ 180 _ (43, [(2, .int (-1 : Int32)), (0, .ref 77), (1, .ref pL)], [.int (nI 1)], M)
    refine Wn.run (tab := tb_rd_takePerson) rfl 1 (c' := (if (nI 1) = 0 then 48 else 46, [(2, .int (-1 : Int32)), (0, .ref 77), (1, .ref pL)], [], M)) (o := []) rfl trivial ?_
    rw [if_neg (show ¬ ((nI 1) = 0) by decide)]
    show Wn _ 180 _ (46, [(2, .int (-1 : Int32)), (0, .ref 77), (1, .ref pL)], [], M)
    refine Wn.run (tab := tb_rd_takePerson) rfl 1 (c' := (47, [(2, .int (-1 : Int32)), (0, .ref 77), (1, .ref pL)], [.int (nI 0)], M)) (o := []) rfl trivial ?_
    exact Wn.iret rfl ⟨rfl, rfl⟩
theorem w_rd_atEndT (d : Nat) (M : Mm) (T : Nat → Nat) (L mo p ta : Nat) (hR : RdL M T L mo p ta) (hk : tKd T L mo p = 0) (Q : Po) (hQ : Q (some (.int (nI 1))) M) : Wn (d + 0) 172 Q (0, lv_args 0 [.ref 77], [], M) := by
  obtain ⟨⟨q1, q2, q3, q4, q5, q6, q7, q8⟩, hT, hL9, hm9, hp⟩ := hR
  have q7 : M.2.2 77 10 = kR T L mo p := q7
  refine Wn.run (tab := tb_rd_atEnd) rfl 4 (c' := (if ((M.2.2 77 10) = 100000) = (false = true) then 25 else 10, [(0, .ref 77)], [], M)) (o := [shp 77 = (0, 3), isK (M.2.2 77 10), isK 100000]) rfl ⟨rfl, by rw [q7]; exact isK_kR T L mo p, ⟨by decide, by decide⟩⟩ ?_
  refine Wn.br (fun h1 => ?_) (fun h1 => ?_)
  · have h1 := ac_f.mp h1
    rw [q7, kR_0] at h1
    refine Wn.run (tab := tb_rd_atEnd) rfl 1 (c' := (26, [(0, .ref 77)], [.int (nI 0)], M)) (o := []) rfl trivial ?_
    exact absurd (Or.inl hk) h1
  · have h1 := Classical.not_not.mp (mt ac_f.mpr h1)
    rw [q7, kR_0] at h1
    refine Wn.run (tab := tb_rd_atEnd) rfl 5 (c' := (if (M.1 77 2) < (M.1 77 1) then 25 else 21, [(0, .ref 77)], [], M)) (o := [shp 77 = (0, 3), shp 77 = (0, 3)]) rfl ⟨rfl, rfl⟩ ?_
    rw [q1, q2]
    refine Wn.br (fun h2 => ?_) (fun h2 => ?_)
    · have h2 := (n_lt rfl rfl (by omega) (by omega)).mp h2
      refine Wn.run (tab := tb_rd_atEnd) rfl 1 (c' := (26, [(0, .ref 77)], [.int (nI 0)], M)) (o := []) rfl trivial ?_
      have q9 := tKd_cases (mo := mo) (p := p) (fun k hk => (hT k hk).2); omega
    · have h2 := mt (n_lt rfl rfl (by omega) (by omega)).mpr h2
      refine Wn.run (tab := tb_rd_atEnd) rfl 2 (c' := (26, [(0, .ref 77)], [.int (nI 1)], M)) (o := []) rfl trivial ?_
      exact Wn.zret rfl (Or.inr rfl) hQ
theorem w_rd_atEndF (d : Nat) (M : Mm) (T : Nat → Nat) (L mo p ta : Nat) (hR : RdL M T L mo p ta) (hk : ¬ tKd T L mo p = 0) (Q : Po) (hQ : Q (some (.int (nI 0))) M) : Wn (d + 0) 172 Q (0, lv_args 0 [.ref 77], [], M) := by
  obtain ⟨⟨q1, q2, q3, q4, q5, q6, q7, q8⟩, hT, hL9, hm9, hp⟩ := hR
  have q7 : M.2.2 77 10 = kR T L mo p := q7
  refine Wn.run (tab := tb_rd_atEnd) rfl 4 (c' := (if ((M.2.2 77 10) = 100000) = (false = true) then 25 else 10, [(0, .ref 77)], [], M)) (o := [shp 77 = (0, 3), isK (M.2.2 77 10), isK 100000]) rfl ⟨rfl, by rw [q7]; exact isK_kR T L mo p, ⟨by decide, by decide⟩⟩ ?_
  refine Wn.br (fun h1 => ?_) (fun h1 => ?_)
  · have h1 := ac_f.mp h1
    rw [q7, kR_0] at h1
    refine Wn.run (tab := tb_rd_atEnd) rfl 1 (c' := (26, [(0, .ref 77)], [.int (nI 0)], M)) (o := []) rfl trivial ?_
    exact Wn.zret rfl (Or.inl rfl) hQ
  · have h1 := Classical.not_not.mp (mt ac_f.mpr h1)
    rw [q7, kR_0] at h1
    refine Wn.run (tab := tb_rd_atEnd) rfl 5 (c' := (if (M.1 77 2) < (M.1 77 1) then 25 else 21, [(0, .ref 77)], [], M)) (o := [shp 77 = (0, 3), shp 77 = (0, 3)]) rfl ⟨rfl, rfl⟩ ?_
    rw [q1, q2]
    refine Wn.br (fun h2 => ?_) (fun h2 => ?_)
    · have h2 := (n_lt rfl rfl (by omega) (by omega)).mp h2
      refine Wn.run (tab := tb_rd_atEnd) rfl 1 (c' := (26, [(0, .ref 77)], [.int (nI 0)], M)) (o := []) rfl trivial ?_
      exact Wn.zret rfl (Or.inl rfl) hQ
    · have h2 := mt (n_lt rfl rfl (by omega) (by omega)).mpr h2
      refine Wn.run (tab := tb_rd_atEnd) rfl 2 (c' := (26, [(0, .ref 77)], [.int (nI 1)], M)) (o := []) rfl trivial ?_
      have q9 := tKd_cases (mo := mo) (p := p) (fun k hk => (hT k hk).2); omega
theorem mn_940 {L : Nat} (h : L ≤ 940) : mn L 940 = L := by unfold mn; split <;> omega
def POp (M0 : Mm) (T : Nat → Nat) (L mo : Nat) : Po := fun r0 M' => r0 = none ∧ RdL M' T L mo 0 0 ∧ Fr [77] M0 M'
set_option maxRecDepth 20000 in
theorem c_rd_open (d : Nat) (M : Mm) (g u : Nat → Int32) (T : Nat → Nat) (L mo : Nat) (hg : M.1 77 = g) (hu : M.1 1 = u) (hT : TB u T L) (hL9 : L ≤ 940) (hm9 : mo ≤ 940) : Wn (d + 2) 170 (POp M T L mo) (0, lv_args 0 [.ref 77, .int (nI L), .int (nI mo)], [], M) := by
  have hF := fr_rf [77] M
  refine Wn.run (tab := tb_rd_open) rfl 7 (c' := (13, [(0, .ref 77), (1, .int (nI L)), (2, .int (nI mo))], [], (mI M 77 (upd (M.1 77) 1 (if (nI (shp 1).2) < (nI L) then (nI (shp 1).2) else (nI L)))))) (o := [shp 77 = (0, 3), (shp 1).1 = 1, ct [.ref 77] ≤ 8, shp 77 = (0, 3)]) rfl ⟨rfl, rfl, (Nat.le_of_ble_eq_true rfl), rfl⟩ ?_
  rw [show (if (nI (shp 1).2) < (nI L) then (nI (shp 1).2) else (nI L)) = (nI (mn L 940)) from (n_minM rfl rfl (by omega) (by omega))]
  generalize hM2 : (mI M 77 (upd (M.1 77) 1 (nI (mn L 940)))) = M1
  have hk3 := fI_up hM2 hg
  have hu4 := fI_ne hM2 (by decide) hu
  have hF5 := fr_sI hF hM2 (by decide)
  show Wn _ 170 _ (13, [(0, .ref 77), (1, .int (nI L)), (2, .int (nI mo))], [], M1)
  refine Wn.run (tab := tb_rd_open) rfl 3 (c' := (18, [(0, .ref 77), (1, .int (nI L)), (2, .int (nI mo))], [], (mI M1 77 (upd (M1.1 77) 2 (nI mo))))) (o := [shp 77 = (0, 3)]) rfl rfl ?_
  generalize hM7 : (mI M1 77 (upd (M1.1 77) 2 (nI mo))) = M6
  have hk8 := fI_up hM7 hk3
  have hu9 := fI_ne hM7 (by decide) hu4
  have hF10 := fr_sI hF5 hM7 (by decide)
  show Wn _ 170 _ (18, [(0, .ref 77), (1, .int (nI L)), (2, .int (nI mo))], [], M6)
  refine Wn.run (tab := tb_rd_open) rfl 3 (c' := (23, [(0, .ref 77), (1, .int (nI L)), (2, .int (nI mo))], [], (mI M6 77 (upd (M6.1 77) 3 (nI 0))))) (o := [shp 77 = (0, 3)]) rfl rfl ?_
  generalize hM12 : (mI M6 77 (upd (M6.1 77) 3 (nI 0))) = M11
  have hk13 := fI_up hM12 hk8
  have hu14 := fI_ne hM12 (by decide) hu9
  have hF15 := fr_sI hF10 hM12 (by decide)
  show Wn _ 170 _ (23, [(0, .ref 77), (1, .int (nI L)), (2, .int (nI mo))], [], M11)
  refine Wn.run (tab := tb_rd_open) rfl 3 (c' := (28, [(0, .ref 77), (1, .int (nI L)), (2, .int (nI mo))], [], (mI M11 77 (upd (M11.1 77) 4 (nI 0))))) (o := [shp 77 = (0, 3)]) rfl rfl ?_
  generalize hM17 : (mI M11 77 (upd (M11.1 77) 4 (nI 0))) = M16
  have hk18 := fI_up hM17 hk13
  have hu19 := fI_ne hM17 (by decide) hu14
  have hF20 := fr_sI hF15 hM17 (by decide)
  show Wn _ 170 _ (28, [(0, .ref 77), (1, .int (nI L)), (2, .int (nI mo))], [], M16)
  refine Wn.run (tab := tb_rd_open) rfl 3 (c' := (33, [(0, .ref 77), (1, .int (nI L)), (2, .int (nI mo))], [], (mI M16 77 (upd (M16.1 77) 11 (nI 0))))) (o := [shp 77 = (0, 3)]) rfl rfl ?_
  generalize hM22 : (mI M16 77 (upd (M16.1 77) 11 (nI 0))) = M21
  have hk23 := fI_up hM22 hk18
  have hu24 := fI_ne hM22 (by decide) hu19
  have hF25 := fr_sI hF20 hM22 (by decide)
  show Wn _ 170 _ (33, [(0, .ref 77), (1, .int (nI L)), (2, .int (nI mo))], [], M21)
  refine Wn.run (tab := tb_rd_open) rfl 3 (c' := (38, [(0, .ref 77), (1, .int (nI L)), (2, .int (nI mo))], [], (mI M21 77 (upd (M21.1 77) 12 (nI 0))))) (o := [shp 77 = (0, 3)]) rfl rfl ?_
  generalize hM27 : (mI M21 77 (upd (M21.1 77) 12 (nI 0))) = M26
  have hk28 := fI_up hM27 hk23
  have hu29 := fI_ne hM27 (by decide) hu24
  have hF30 := fr_sI hF25 hM27 (by decide)
  show Wn _ 170 _ (38, [(0, .ref 77), (1, .int (nI L)), (2, .int (nI mo))], [], M26)
  refine Wn.run (tab := tb_rd_open) rfl 1 (c' := (39, [(0, .ref 77), (1, .int (nI L)), (2, .int (nI mo))], [.ref 77], M26)) (o := []) rfl trivial ?_
  refine Wn.callV (p := 77) (n := 1) (ix := 49) (ci := (3)) (PAd M26 T L mo 0 0 0 0) [] [] rfl rfl rfl rfl (Nat.le_of_ble_eq_true rfl) (Nat.le_of_ble_eq_true rfl) (c_rd_advance _ M26 (upd (upd (upd (upd (upd (upd g 1 (nI (mn L 940))) 2 (nI mo)) 3 (nI 0)) 4 (nI 0)) 11 (nI 0)) 12 (nI 0)) u T L mo 0 0 0 0 hk28 ((show (upd (upd (upd (upd (upd (upd g 1 (nI (mn L 940))) 2 (nI mo)) 3 (nI 0)) 4 (nI 0)) 11 (nI 0)) 12 (nI 0)) 1 = nI (mn L 940) from ((pk_un (by decide)).trans ((pk_un (by decide)).trans ((pk_un (by decide)).trans ((pk_un (by decide)).trans ((pk_un (by decide)).trans pk_us)))))).trans (by rw [mn_940 hL9])) ((pk_un (by decide)).trans ((pk_un (by decide)).trans ((pk_un (by decide)).trans ((pk_un (by decide)).trans pk_us)))) ((pk_un (by decide)).trans ((pk_un (by decide)).trans ((pk_un (by decide)).trans pk_us))) ((pk_un (by decide)).trans ((pk_un (by decide)).trans pk_us)) ((pk_un (by decide)).trans pk_us) pk_us hu29 hT hL9 hm9 (by omega)) ?_
  rintro _ M31 ⟨rfl, hq32, hF33⟩
  show Wn _ 170 _ (42, [(0, .ref 77), (1, .int (nI L)), (2, .int (nI mo))], [], M31)
  have hu34 := frI_fun hF33 (by decide) hu29
  have hF35 := fr_tr hF30 hF33 (by decide)
  exact Wn.vret rfl ⟨rfl, ⟨hq32, by rw [hu34]; exact hT, hL9, hm9, by omega⟩, hF35⟩
def POT (M0 : Mm) (T : Nat → Nat) (L mo : Nat) : Po := fun r0 M' => r0 = none ∧ RdL M' T L mo 0 0 ∧ M'.1 0 1 = nI 0 ∧ Gx [1] (M0.1 0) (M'.1 0) ∧ Fr [0, 77] M0 M'
set_option maxRecDepth 20000 in
theorem c_i_openTape (d : Nat) (M : Mm) (T : Nat → Nat) (L mo : Nat) (hL : M.1 0 1 = nI L) (hT : TB (M.1 1) T L) (hL9 : L ≤ 940) (hm9 : mo ≤ 940) : Wn (d + 3) 4 (POT M T L mo) (0, lv_args 0 [.ref 0, .int (nI mo)], [], M) := by
  have hF := fr_rf [0, 77] M
  obtain ⟨g, hg⟩ : ∃ g, M.1 0 = g := ⟨_, rfl⟩
  obtain ⟨u, hu⟩ : ∃ u, M.1 1 = u := ⟨_, rfl⟩
  rw [hg] at hL
  rw [hu] at hT
  refine Wn.run (tab := tb_i_openTape) rfl 5 (c' := (9, [(0, .ref 0), (1, .int (nI mo))], [.int (nI mo), .int (M.1 0 1), .ref 77], M)) (o := [shp 0 = (0, 9), shp 0 = (0, 9)]) rfl ⟨rfl, rfl⟩ ?_
  rw [show (M.1 0 1) = (nI L) from (fr_eq hg (show g 1 = (nI L) from hL))]
  refine Wn.callV (p := 77) (n := 3) (ix := 129) (ci := (3)) (POp M T L mo) [.int (nI L), .int (nI mo)] [] rfl rfl rfl rfl (Nat.le_of_ble_eq_true rfl) (Nat.le_of_ble_eq_true rfl) (c_rd_open _ M _ u T L mo rfl hu hT hL9 hm9) ?_
  rintro _ M1 ⟨rfl, hq2, hF3⟩
  show Wn _ 4 _ (12, [(0, .ref 0), (1, .int (nI mo))], [], M1)
  have hk4 := frI_fun hF3 (by decide) hg
  have hu5 := frI_fun hF3 (by decide) hu
  have hF6 := fr_tr hF hF3 (by decide)
  refine Wn.run (tab := tb_i_openTape) rfl 3 (c' := (17, [(0, .ref 0), (1, .int (nI mo))], [], (mI M1 0 (upd (M1.1 0) 1 (nI 0))))) (o := [shp 0 = (0, 9)]) rfl rfl ?_
  generalize hM8 : (mI M1 0 (upd (M1.1 0) 1 (nI 0))) = M7
  have hk9 := fI_up hM8 hk4
  have hu10 := fI_ne hM8 (by decide) hu5
  have hF11 := fr_sI hF6 hM8 (by decide)
  have hq12 := RdL_fr (fr_1I hM8) (by decide) hq2
  show Wn _ 4 _ (17, [(0, .ref 0), (1, .int (nI mo))], [], M7)
  exact Wn.vret rfl ⟨rfl, hq12, by rw [hk9]; exact pk_us, by rw [hg, hk9]; exact (Gx_up (Gx_rf _ _) (by decide)), hF11⟩
