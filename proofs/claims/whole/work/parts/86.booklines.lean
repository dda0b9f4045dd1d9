/-! The lines of a book. -/
def suB (E : Nat → Bke) (k : Nat) (e : Bke) : Nat → Bke := fun i => if i = k then e else E i
def bkS (T : Nat → Nat) (L mo : Nat) (ν : Nat → Int64) (np : Nat) : Nat → Nat → (Nat → Bke) → Nat → Flt ⊕ (Nat × (Nat → Bke))
  | 0, k, E, _ => .inr (k, E)
  | n + 1, k, E, p => if tKd T L mo p = 0 then .inr (k, E) else
    match rdB T L mo p ν np k with
    | .inl f => .inl f
    | .inr (p2, e) => if tKd T L mo p2 = 4 then bkS T L mo ν np n (k + 1) (suB E k e) (tNx T L p2) else .inl (1, tAt T L mo p2)
def BkC (M : Mm) (n : Nat) (E : Nat → Bke) : Prop := ∀ i, i < n → M.2.2 80 i = 100000 + bkK (E i) ∧ M.1 81 i = nI (bkD (E i)) ∧ M.1 82 i = nI (bkO (E i))
def EOk (np : Nat) (e : Bke) : Prop := e.1 ≤ 4 ∧ (e.1 = 4 → 1 ≤ e.2.1 ∧ e.2.1 ≤ 60) ∧ (¬ e.1 = 4 → e.2.1 < np) ∧ (e.1 = 0 → e.2.2 < 4) ∧ (e.1 = 2 → e.2.2 < np)
theorem pcl_lt {ν : Nat → Int64} {w : Int64} {n q : Nat} (h : pcl ν w n = some q) : q < n := by have := til_lt _ _ _ h; omega
theorem rdB1_ok {T : Nat → Nat} {L mo p : Nat} {ν : Nat → Int64} {np q p2 : Nat} {e : Bke} (hp : p ≤ L) (hq : q < np) (h : rdB1 T L mo p ν np q = .inr (p2, e)) : EOk np e ∧ p2 ≤ L ∧ p < p2 := by
  unfold rdB1 at h
  by_cases h1 : 17 ≤ tKd T L mo p ∧ tKd T L mo p ≤ 20
  · rw [if_pos h1] at h
    have hn := tNx_le (T := T) (mo := mo) hp (by omega) (by omega)
    cases h
    exact ⟨⟨by simp, fun q => absurd q (by simp), fun _ => hq, fun _ => by show tKd T L mo p - 17 < 4; omega, fun q => absurd q (by simp)⟩, hn⟩
  rw [if_neg h1] at h
  by_cases h2 : tKd T L mo p = 21
  · rw [if_pos h2] at h
    have hn := tNx_le (T := T) (mo := mo) hp (by omega) (by omega)
    cases h
    exact ⟨⟨by simp, fun q => absurd q (by simp), fun _ => hq, fun q => absurd q (by simp), fun q => absurd q (by simp)⟩, hn⟩
  rw [if_neg h2] at h
  by_cases h3 : tKd T L mo p = 23
  · rw [if_pos h3] at h
    have hn := tNx_le (T := T) (mo := mo) hp (by omega) (by omega)
    cases h
    exact ⟨⟨by simp, fun q => absurd q (by simp), fun _ => hq, fun q => absurd q (by simp), fun q => absurd q (by simp)⟩, hn⟩
  rw [if_neg h3] at h
  by_cases h4 : tKd T L mo p = 22
  · rw [if_pos h4] at h
    have hn := tNx_le (T := T) (mo := mo) hp (by omega) (by omega)
    by_cases h5 : ¬ tKd T L mo (tNx T L p) = 3
    · rw [if_pos h5] at h; cases h
    rw [if_neg h5] at h
    have hm := tNx_le (T := T) (mo := mo) hn.1 (by omega) (by omega)
    cases hc : pcl ν (tNm T L (tNx T L p)) np with
    | none => rw [hc] at h; cases h
    | some r =>
      rw [hc] at h; cases h
      exact ⟨⟨by simp, fun q => absurd q (by simp), fun _ => hq, fun q => absurd q (by simp), fun _ => pcl_lt hc⟩, hm.1, by omega⟩
  rw [if_neg h4] at h
  cases h
theorem rdB_ok {T : Nat → Nat} {L mo p : Nat} {ν : Nat → Int64} {np k p2 : Nat} {e : Bke} (hp : p ≤ L) (h : rdB T L mo p ν np k = .inr (p2, e)) : EOk np e ∧ p2 ≤ L ∧ p < p2 ∧ ¬ k = 40 := by
  unfold rdB at h
  by_cases h1 : tKd T L mo p = 24
  · rw [if_pos h1] at h
    by_cases hk : k = 40
    · rw [if_pos hk] at h; cases h
    rw [if_neg hk] at h
    have hn := tNx_le (T := T) (mo := mo) hp (by omega) (by omega)
    cases h2 : tkN T L mo (tNx T L p) 1 60 with
    | inl f => rw [h2] at h; cases h
    | inr v =>
      obtain ⟨x, p1⟩ := v
      rw [h2] at h; dsimp only at h
      have t1 := tkN_ok hn.1 h2
      cases h
      exact ⟨⟨by simp, fun _ => t1.1, fun q => absurd rfl q, fun q => absurd q (by simp), fun q => absurd q (by simp)⟩, t1.2.1, by omega, hk⟩
  rw [if_neg h1] at h
  by_cases h3 : ¬ tKd T L mo p = 3
  · rw [if_pos h3] at h; cases h
  rw [if_neg h3] at h
  have hn := tNx_le (T := T) (mo := mo) hp (by omega) (by omega)
  cases hc : pcl ν (tNm T L p) np with
  | none => rw [hc] at h; cases h
  | some q =>
    rw [hc] at h; dsimp only at h
    by_cases hk : k = 40
    · rw [if_pos hk] at h; cases h
    rw [if_neg hk] at h
    have r := rdB1_ok hn.1 (pcl_lt hc) h
    exact ⟨r.1, r.2.1, by omega, hk⟩
theorem rdB_40 {T : Nat → Nat} {L mo p : Nat} {ν : Nat → Int64} {np : Nat} : ∃ f, rdB T L mo p ν np 40 = .inl f := by
  cases h : rdB T L mo p ν np 40 with
  | inl f => exact ⟨f, rfl⟩
  | inr v =>
    exfalso
    unfold rdB at h
    by_cases h1 : tKd T L mo p = 24
    · rw [if_pos h1, if_pos rfl] at h; cases h
    rw [if_neg h1] at h
    by_cases h3 : ¬ tKd T L mo p = 3
    · rw [if_pos h3] at h; cases h
    rw [if_neg h3] at h
    cases hc : pcl ν (tNm T L p) np with
    | none => rw [hc] at h; cases h
    | some q => rw [hc] at h; dsimp only at h; rw [if_pos rfl] at h; cases h
theorem bkS_ok {T : Nat → Nat} {L mo : Nat} {ν : Nat → Int64} {np : Nat} : ∀ (n k : Nat) (E : Nat → Bke) (p : Nat) {k2 : Nat} {E2 : Nat → Bke}, p ≤ L → k ≤ 40 → (∀ i, i < k → EOk np (E i)) → bkS T L mo ν np n k E p = .inr (k2, E2) → k2 ≤ 40 ∧ ∀ i, i < k2 → EOk np (E2 i)
  | 0, k, E, p, k2, E2, _, hk, hE, h => by cases h; exact ⟨hk, hE⟩
  | n + 1, k, E, p, k2, E2, hp, hk, hE, h => by
    unfold bkS at h
    by_cases h0 : tKd T L mo p = 0
    · rw [if_pos h0] at h; cases h; exact ⟨hk, hE⟩
    rw [if_neg h0] at h
    cases hq : rdB T L mo p ν np k with
    | inl f => rw [hq] at h; cases h
    | inr v =>
      obtain ⟨p2, e⟩ := v
      rw [hq] at h; dsimp only at h
      by_cases h4 : tKd T L mo p2 = 4
      · rw [if_pos h4] at h
        have ok := rdB_ok hp hq
        have tn := tNx_le (T := T) (mo := mo) ok.2.1 (by omega) (by omega)
        refine bkS_ok n (k + 1) (suB E k e) (tNx T L p2) tn.1 (by omega) (fun i hi => ?_) h
        unfold suB
        by_cases ei : i = k
        · rw [if_pos ei]; exact ok.1
        · rw [if_neg ei]; exact hE i (by omega)
      · rw [if_neg h4] at h; cases h
theorem c_bk_readLine (d : Nat) (M : Mm) (T : Nat → Nat) (L mo p ta : Nat) (hR : RdL M T L mo p ta) (σ : Nat → Nat) (hL : LkC M 3 σ) (c9_2 : σ 2 ≤ 6) (ν : Nat → Int64) (hN : NmC M 3 ν (σ 2)) (k : Nat) (hk40 : k < 40) (hsz : M.1 79 3 = nI k) (h0 : ¬ tKd T L mo p = 0) : Wn (d + 3) 153 (PBk M T L mo k (rdB T L mo p ν (σ 2) k)) (0, lv_args 0 [.ref 79, .ref 77, .ref 3], [], M) := by
  by_cases hk : tKd T L mo p = 24
  · exact c_bk_readLine_h (d + 0) M T L mo p ta hR σ hL c9_2 ν hN k hk40 hsz hk
  · exact c_bk_readLine_n (d + 0) M T L mo p ta hR σ hL c9_2 ν hN k hk40 hsz hk h0
set_option maxRecDepth 20000 in
theorem c_bk_fbl_h (d : Nat) (M : Mm) (T : Nat → Nat) (L mo p ta : Nat) (hR : RdL M T L mo p ta) (σ : Nat → Nat) (hL : LkC M 3 σ) (c9_2 : σ 2 ≤ 6) (ν : Nat → Int64) (hN : NmC M 3 ν (σ 2)) (f : Flt) (hf : rdB T L mo p ν (σ 2) 40 = .inl f) (hk : tKd T L mo p = 24) : Wn (d + 2) 152 (PFl M f.1 f.2 none) (0, lv_args 0 [.ref 79, .ref 77, .ref 3], [], M) := by
  have hF := fr_rf [77] M
  refine Wn.run (tab := tb_bk_failBehindLast) rfl 4 (c' := (if ((M.2.2 77 10) = 100024) = (true = true) then 21 else 10, [(0, .ref 79), (1, .ref 77), (2, .ref 3)], [], M)) (o := [shp 77 = (0, 3), isK (M.2.2 77 10), isK 100024]) rfl ⟨rfl, (by rw [hR.1.2.2.2.2.2.2.1]; exact isK_kR _ _ _ _), ⟨by decide, by decide⟩⟩ ?_
  rw [if_pos (ac_t.mpr (by rw [hR.1.2.2.2.2.2.2.1]; exact (kR_iff (c := 24) (by omega) (by omega)).mpr (by omega)))]
  show Wn _ 152 _ (21, [(0, .ref 79), (1, .ref 77), (2, .ref 3)], [], M)
  refine Wn.run (tab := tb_bk_failBehindLast) rfl 2 (c' := (23, [(0, .ref 79), (1, .ref 77), (2, .ref 3)], [.int (nI 4), .ref 77], M)) (o := []) rfl trivial ?_
  refine Wn.callV (p := 77) (n := 2) (ix := 69) (ci := (3)) (PFl M 4 (tAt T L mo p) none) [.int (nI 4)] [] rfl rfl rfl rfl (Nat.le_of_ble_eq_true rfl) (Nat.le_of_ble_eq_true rfl) (c_rd_fail _ M T L mo p ta hR.1 4 (by omega)) ?_
  rintro _ M1 ⟨rfl, hd2, hF3⟩
  show Wn _ 152 _ (26, [(0, .ref 79), (1, .ref 77), (2, .ref 3)], [], M1)
  have hF4 := fr_tr hF hF3 (by decide)
  have e9 : rdB T L mo p ν (σ 2) 40 = .inl (4, tAt T L mo p) := by unfold rdB; rw [if_pos hk, if_pos rfl]
  rw [e9] at hf
  cases hf
  exact Wn.vret rfl ⟨rfl, hd2, hF4⟩
set_option maxRecDepth 20000 in
theorem c_bk_fbl_n (d : Nat) (M : Mm) (T : Nat → Nat) (L mo p ta : Nat) (hR : RdL M T L mo p ta) (σ : Nat → Nat) (hL : LkC M 3 σ) (c9_2 : σ 2 ≤ 6) (ν : Nat → Int64) (hN : NmC M 3 ν (σ 2)) (f : Flt) (hf : rdB T L mo p ν (σ 2) 40 = .inl f) (hk : ¬ tKd T L mo p = 24) : Wn (d + 3) 152 (PFl M f.1 f.2 none) (0, lv_args 0 [.ref 79, .ref 77, .ref 3], [], M) := by
  have hF := fr_rf [77] M
  refine Wn.run (tab := tb_bk_failBehindLast) rfl 4 (c' := (if ((M.2.2 77 10) = 100024) = (true = true) then 21 else 10, [(0, .ref 79), (1, .ref 77), (2, .ref 3)], [], M)) (o := [shp 77 = (0, 3), isK (M.2.2 77 10), isK 100024]) rfl ⟨rfl, (by rw [hR.1.2.2.2.2.2.2.1]; exact isK_kR _ _ _ _), ⟨by decide, by decide⟩⟩ ?_
  rw [if_neg (fun q9 => absurd (ac_t.mp q9) (by rw [hR.1.2.2.2.2.2.2.1]; exact mt (kR_iff (c := 24) (by omega) (by omega)).mp (by omega)))]
  show Wn _ 152 _ (10, [(0, .ref 79), (1, .ref 77), (2, .ref 3)], [], M)
  refine Wn.run (tab := tb_bk_failBehindLast) rfl 2 (c' := (12, [(0, .ref 79), (1, .ref 77), (2, .ref 3)], [.ref 3, .ref 77], M)) (o := []) rfl trivial ?_
  by_cases hk1_3 : tKd T L mo p = 3
  · cases hpc1 : pcl ν (tNm T L p) (σ 2) with
    | some q1 =>
      have q1_6 : q1 < 6 := by have t9 := til_lt _ _ _ hpc1; omega
      have q1_s : q1 < σ 2 := by have t9 := til_lt _ _ _ hpc1; omega
      refine Wn.callV (p := 77) (n := 2) (ix := 61) (ci := (3)) (PLv M T L mo (tNx T L p) (tAt T L mo p) (some (.int (nI q1)))) [.ref 3] [] rfl rfl rfl rfl (Nat.le_of_ble_eq_true rfl) (Nat.le_of_ble_eq_true rfl) (c_rd_takePerson_ok _ M T L mo p ta hR 3 σ (LkC_fr hL (hF 3 (by decide)).1 (hF 5 (by decide)).1) c9_2 ν (NmC_fr hF (by decide) hN) (by decide) hk1_3 q1 q1_6 hpc1) ?_
      rintro _ M3 ⟨rfl, hq1, hF2⟩
      show Wn _ 152 _ (15, [(0, .ref 79), (1, .ref 77), (2, .ref 3)], [.int (nI q1)], M3)
      have hF4 := fr_tr hF hF2 (by decide)
      refine Wn.run (tab := tb_bk_failBehindLast) rfl 3 (c' := (18, [(0, .ref 79), (1, .ref 77), (2, .ref 3)], [.int (nI 4), .ref 77], M3)) (o := []) rfl trivial ?_
      refine Wn.callV (p := 77) (n := 2) (ix := 65) (ci := (3)) (PFl M3 4 (tAt T L mo p) none) [.int (nI 4)] [] rfl rfl rfl rfl (Nat.le_of_ble_eq_true rfl) (Nat.le_of_ble_eq_true rfl) (c_rd_failTaken _ M3 T L mo (tNx T L p) (tAt T L mo p) hq1.1 4 (by omega)) ?_
      rintro _ M5 ⟨rfl, hd6, hF7⟩
      show Wn _ 152 _ (21, [(0, .ref 79), (1, .ref 77), (2, .ref 3)], [], M5)
      have hF8 := fr_tr hF4 hF7 (by decide)
      refine Wn.run (tab := tb_bk_failBehindLast) rfl 2 (c' := (23, [(0, .ref 79), (1, .ref 77), (2, .ref 3)], [.int (nI 4), .ref 77], M5)) (o := []) rfl trivial ?_
      refine Wn.callV (p := 77) (n := 2) (ix := 69) (ci := (3)) (fun r0 M9 => r0 = none ∧ M9 = M5) [.int (nI 4)] [] rfl rfl rfl rfl (Nat.le_of_ble_eq_true rfl) (Nat.le_of_ble_eq_true rfl) (c_rd_failD _ M5 4 (tAt T L mo p) hd6 (nI 4)) ?_
      rintro _ M9 ⟨rfl, hsm⟩
      obtain rfl := hsm.symm
      show Wn _ 152 _ (26, [(0, .ref 79), (1, .ref 77), (2, .ref 3)], [], M5)
      have e9 : rdB T L mo p ν (σ 2) 40 = .inl (4, tAt T L mo p) := by unfold rdB; rw [if_neg hk, if_neg (fun q9 => q9 hk1_3)]; simp only [hpc1]; rw [if_pos trivial]
      rw [e9] at hf
      cases hf
      exact Wn.vret rfl ⟨rfl, hd6, hF8⟩
    | none =>
      refine Wn.callV (p := 77) (n := 2) (ix := 61) (ci := (3)) (PFl M 3 (tAt T L mo p) (some (.int (nI 0)))) [.ref 3] [] rfl rfl rfl rfl (Nat.le_of_ble_eq_true rfl) (Nat.le_of_ble_eq_true rfl) (c_rd_takePerson_no3 _ M T L mo p ta hR 3 σ (LkC_fr hL (hF 3 (by decide)).1 (hF 5 (by decide)).1) c9_2 ν (NmC_fr hF (by decide) hN) (by decide) hk1_3 hpc1) ?_
      rintro _ M11 ⟨rfl, hq9, hF10⟩
      show Wn _ 152 _ (15, [(0, .ref 79), (1, .ref 77), (2, .ref 3)], [.int (nI 0)], M11)
      have hF12 := fr_tr hF hF10 (by decide)
      refine Wn.run (tab := tb_bk_failBehindLast) rfl 3 (c' := (18, [(0, .ref 79), (1, .ref 77), (2, .ref 3)], [.int (nI 4), .ref 77], M11)) (o := []) rfl trivial ?_
      refine Wn.callV (p := 77) (n := 2) (ix := 65) (ci := (3)) (fun r0 M9 => r0 = none ∧ M9 = M11) [.int (nI 4)] [] rfl rfl rfl rfl (Nat.le_of_ble_eq_true rfl) (Nat.le_of_ble_eq_true rfl) (c_rd_failTakenD _ M11 3 (tAt T L mo p) hq9 (nI 4)) ?_
      rintro _ M9 ⟨rfl, hsm⟩
      obtain rfl := hsm.symm
      show Wn _ 152 _ (21, [(0, .ref 79), (1, .ref 77), (2, .ref 3)], [], M11)
      refine Wn.run (tab := tb_bk_failBehindLast) rfl 2 (c' := (23, [(0, .ref 79), (1, .ref 77), (2, .ref 3)], [.int (nI 4), .ref 77], M11)) (o := []) rfl trivial ?_
      refine Wn.callV (p := 77) (n := 2) (ix := 69) (ci := (3)) (fun r0 M9 => r0 = none ∧ M9 = M11) [.int (nI 4)] [] rfl rfl rfl rfl (Nat.le_of_ble_eq_true rfl) (Nat.le_of_ble_eq_true rfl) (c_rd_failD _ M11 3 (tAt T L mo p) hq9 (nI 4)) ?_
      rintro _ M9 ⟨rfl, hsm⟩
      obtain rfl := hsm.symm
      show Wn _ 152 _ (26, [(0, .ref 79), (1, .ref 77), (2, .ref 3)], [], M11)
      have e9 : rdB T L mo p ν (σ 2) 40 = .inl (3, tAt T L mo p) := by unfold rdB; rw [if_neg hk, if_neg (fun q9 => q9 hk1_3)]; simp only [hpc1]
      rw [e9] at hf
      cases hf
      exact Wn.vret rfl ⟨rfl, hq9, hF12⟩
  · refine Wn.callV (p := 77) (n := 2) (ix := 61) (ci := (3)) (PFl M 1 (tAt T L mo p) (some (.int (nI 0)))) [.ref 3] [] rfl rfl rfl rfl (Nat.le_of_ble_eq_true rfl) (Nat.le_of_ble_eq_true rfl) (c_rd_takePerson_no1 _ M T L mo p ta hR 3 σ (LkC_fr hL (hF 3 (by decide)).1 (hF 5 (by decide)).1) c9_2 ν (NmC_fr hF (by decide) hN) (by decide) hk1_3) ?_
    rintro _ M15 ⟨rfl, hq13, hF14⟩
    show Wn _ 152 _ (15, [(0, .ref 79), (1, .ref 77), (2, .ref 3)], [.int (nI 0)], M15)
    have hF16 := fr_tr hF hF14 (by decide)
    refine Wn.run (tab := tb_bk_failBehindLast) rfl 3 (c' := (18, [(0, .ref 79), (1, .ref 77), (2, .ref 3)], [.int (nI 4), .ref 77], M15)) (o := []) rfl trivial ?_
    refine Wn.callV (p := 77) (n := 2) (ix := 65) (ci := (3)) (fun r0 M9 => r0 = none ∧ M9 = M15) [.int (nI 4)] [] rfl rfl rfl rfl (Nat.le_of_ble_eq_true rfl) (Nat.le_of_ble_eq_true rfl) (c_rd_failTakenD _ M15 1 (tAt T L mo p) hq13 (nI 4)) ?_
    rintro _ M9 ⟨rfl, hsm⟩
    obtain rfl := hsm.symm
    show Wn _ 152 _ (21, [(0, .ref 79), (1, .ref 77), (2, .ref 3)], [], M15)
    refine Wn.run (tab := tb_bk_failBehindLast) rfl 2 (c' := (23, [(0, .ref 79), (1, .ref 77), (2, .ref 3)], [.int (nI 4), .ref 77], M15)) (o := []) rfl trivial ?_
    refine Wn.callV (p := 77) (n := 2) (ix := 69) (ci := (3)) (fun r0 M9 => r0 = none ∧ M9 = M15) [.int (nI 4)] [] rfl rfl rfl rfl (Nat.le_of_ble_eq_true rfl) (Nat.le_of_ble_eq_true rfl) (c_rd_failD _ M15 1 (tAt T L mo p) hq13 (nI 4)) ?_
    rintro _ M9 ⟨rfl, hsm⟩
    obtain rfl := hsm.symm
    show Wn _ 152 _ (26, [(0, .ref 79), (1, .ref 77), (2, .ref 3)], [], M15)
    have e9 : rdB T L mo p ν (σ 2) 40 = .inl (1, tAt T L mo p) := by unfold rdB; rw [if_neg hk, if_pos hk1_3]
    rw [e9] at hf
    cases hf
    exact Wn.vret rfl ⟨rfl, hq13, hF16⟩
/-- the class's book behind all its lines -/
def PBl (M0 : Mm) (T : Nat → Nat) (L mo : Nat) (res : Flt ⊕ (Nat × (Nat → Bke))) : Po := fun r0 M' => r0 = none ∧ Fr [77, 79, 80, 81, 82] M0 M' ∧ match res with
  | .inl f => RdD M' f.1 f.2
  | .inr (k, E) => (∃ p ta, RdL M' T L mo p ta) ∧ M'.1 79 3 = nI k ∧ BkC M' k E
theorem c_bk_fbl (d : Nat) (M : Mm) (T : Nat → Nat) (L mo p ta : Nat) (hR : RdL M T L mo p ta) (σ : Nat → Nat) (hL : LkC M 3 σ) (c9_2 : σ 2 ≤ 6) (ν : Nat → Int64) (hN : NmC M 3 ν (σ 2)) (f : Flt) (hf : rdB T L mo p ν (σ 2) 40 = .inl f) : Wn (d + 3) 152 (PFl M f.1 f.2 none) (0, lv_args 0 [.ref 79, .ref 77, .ref 3], [], M) := by
  by_cases hk : tKd T L mo p = 24
  · exact c_bk_fbl_h (d + 1) M T L mo p ta hR σ hL c9_2 ν hN f hf hk
  · exact c_bk_fbl_n (d + 0) M T L mo p ta hR σ hL c9_2 ν hN f hf hk
theorem c_bk_54D (d : Nat) (M0 M : Mm) (T : Nat → Nat) (L mo : Nat) (f : Flt) (hd : RdD M f.1 f.2) (hF : Fr [77, 79, 80, 81, 82] M0 M) : Wn (d + 4) 151 (PBl M0 T L mo (.inl f)) (54, [(0, .ref 79), (1, .ref 77), (2, .ref 3)], [], M) := by
  refine Wn.run (tab := tb_bk_readLines) rfl 1 (c' := (55, [(0, .ref 79), (1, .ref 77), (2, .ref 3)], [.ref 77], M)) (o := []) rfl trivial ?_
  refine Wn.callV (p := 77) (n := 1) (ix := 32) (ci := (3)) (fun r0 M0 => r0 = some (.int (nI 1)) ∧ M = M0) [] [] rfl rfl rfl rfl (Nat.le_of_ble_eq_true rfl) (Nat.le_of_ble_eq_true rfl) (w_rd_failedD _ M f.1 hd.1 hd.2.2.1 _ ⟨rfl, rfl⟩) ?_
  rintro _ _ ⟨rfl, rfl⟩
  show Wn _ 151 _ (58, [(0, .ref 79), (1, .ref 77), (2, .ref 3)], [.int (nI 1)], M)
  refine Wn.run (tab := tb_bk_readLines) rfl 1 (c' := (if ¬ (nI 1) = 0 then 74 else 61, [(0, .ref 79), (1, .ref 77), (2, .ref 3)], [], M)) (o := []) rfl trivial ?_
  rw [if_pos (show ¬ nI 1 = 0 by decide)]
  exact Wn.vret rfl ⟨rfl, hF, hd⟩
theorem c_bk_5D (d : Nat) (M0 M : Mm) (T : Nat → Nat) (L mo k : Nat) (hk : k < 1000) (hsz : M.1 79 3 = nI k) (f : Flt) (hd : RdD M f.1 f.2) (hF : Fr [77, 79, 80, 81, 82] M0 M) : Wn (d + 4) 151 (PBl M0 T L mo (.inl f)) (5, [(0, .ref 79), (1, .ref 77), (2, .ref 3)], [], M) := by
  refine Wn.run (tab := tb_bk_readLines) rfl 4 (c' := (if (nI 40) ≤ (M.1 79 3) then 54 else 14, [(0, .ref 79), (1, .ref 77), (2, .ref 3)], [], M)) (o := [shp 79 = (0, 0)]) rfl rfl ?_
  refine Wn.br (fun _ => c_bk_54D d M0 M T L mo f hd hF) (fun _ => ?_)
  refine Wn.run (tab := tb_bk_readLines) rfl 1 (c' := (15, [(0, .ref 79), (1, .ref 77), (2, .ref 3)], [.ref 77], M)) (o := []) rfl trivial ?_
  refine Wn.callV (p := 77) (n := 1) (ix := 32) (ci := (3)) (fun r0 M0 => r0 = some (.int (nI 1)) ∧ M = M0) [] [] rfl rfl rfl rfl (Nat.le_of_ble_eq_true rfl) (Nat.le_of_ble_eq_true rfl) (w_rd_failedD _ M f.1 hd.1 hd.2.2.1 _ ⟨rfl, rfl⟩) ?_
  rintro _ _ ⟨rfl, rfl⟩
  show Wn _ 151 _ (18, [(0, .ref 79), (1, .ref 77), (2, .ref 3)], [.int (nI 1)], M)
  refine Wn.run (tab := tb_bk_readLines) rfl 1 (c' := (if ¬ (nI 1) = 0 then 54 else 21, [(0, .ref 79), (1, .ref 77), (2, .ref 3)], [], M)) (o := []) rfl trivial ?_
  rw [if_pos (show ¬ nI 1 = 0 by decide)]
  exact c_bk_54D d M0 M T L mo f hd hF
set_option maxRecDepth 20000 in
theorem c_bk_5 (d : Nat) (M0 : Mm) (T : Nat → Nat) (L mo : Nat) (σ : Nat → Nat) (hL0 : LkC M0 3 σ) (c9_2 : σ 2 ≤ 6) (ν : Nat → Int64) (hN0 : NmC M0 3 ν (σ 2)) : ∀ (n k : Nat) (E : Nat → Bke) (p ta : Nat) (M : Mm), L < p + n → k ≤ 40 → RdL M T L mo p ta → M.1 79 3 = nI k → BkC M k E → Fr [77, 79, 80, 81, 82] M0 M → Wn (d + 4) 151 (PBl M0 T L mo (bkS T L mo ν (σ 2) n k E p)) (5, [(0, .ref 79), (1, .ref 77), (2, .ref 3)], [], M) := by
  intro n
  induction n with
  | zero => intro k E p ta M h1 _ h2; have := h2.2.2.2.2; omega
  | succ n ih =>
    intro k E p ta M hn hk hR hsz hE hF
    have hpL := hR.2.2.2.2
    have hL : LkC M 3 σ := LkC_fr hL0 (hF 3 (by decide)).1 (hF 5 (by decide)).1
    have hN : NmC M 3 ν (σ 2) := NmC_fr hF (by decide) hN0
    have bend : tKd T L mo p = 0 → Wn (d + 4) 151 (PBl M0 T L mo (.inr (k, E))) (54, [(0, .ref 79), (1, .ref 77), (2, .ref 3)], [], M) := by
      intro hz
      refine Wn.run (tab := tb_bk_readLines) rfl 1 (c' := (55, [(0, .ref 79), (1, .ref 77), (2, .ref 3)], [.ref 77], M)) (o := []) rfl trivial ?_
      refine Wn.callV (p := 77) (n := 1) (ix := 32) (ci := (3)) (fun r0 M0 => r0 = some (.int (nI 0)) ∧ M = M0) [] [] rfl rfl rfl rfl (Nat.le_of_ble_eq_true rfl) (Nat.le_of_ble_eq_true rfl) (w_rd_failedL _ M hR.1.2.2.2.2.1 _ ⟨rfl, rfl⟩) ?_
      rintro _ _ ⟨rfl, rfl⟩
      show Wn _ 151 _ (58, [(0, .ref 79), (1, .ref 77), (2, .ref 3)], [.int (nI 0)], M)
      refine Wn.run (tab := tb_bk_readLines) rfl 1 (c' := (if ¬ (nI 0) = 0 then 74 else 61, [(0, .ref 79), (1, .ref 77), (2, .ref 3)], [], M)) (o := []) rfl trivial ?_
      rw [if_neg (show ¬ ¬ nI 0 = 0 by decide)]
      refine Wn.run (tab := tb_bk_readLines) rfl 1 (c' := (62, [(0, .ref 79), (1, .ref 77), (2, .ref 3)], [.ref 77], M)) (o := []) rfl trivial ?_
      refine Wn.callV (p := 77) (n := 1) (ix := 38) (ci := (3)) (fun r0 M0 => r0 = some (.int (nI 1)) ∧ M = M0) [] [] rfl rfl rfl rfl (Nat.le_of_ble_eq_true rfl) (Nat.le_of_ble_eq_true rfl) (w_rd_atEndT _ M T L mo p ta hR hz _ ⟨rfl, rfl⟩) ?_
      rintro _ _ ⟨rfl, rfl⟩
      show Wn _ 151 _ (65, [(0, .ref 79), (1, .ref 77), (2, .ref 3)], [.int (nI 1)], M)
      refine Wn.run (tab := tb_bk_readLines) rfl 1 (c' := (if ¬ (nI 1) = 0 then 74 else 68, [(0, .ref 79), (1, .ref 77), (2, .ref 3)], [], M)) (o := []) rfl trivial ?_
      rw [if_pos (show ¬ nI 1 = 0 by decide)]
      exact Wn.vret rfl ⟨rfl, hF, ⟨p, ta, hR⟩, hsz, hE⟩
    refine Wn.run (tab := tb_bk_readLines) rfl 4 (c' := (if (nI 40) ≤ (M.1 79 3) then 54 else 14, [(0, .ref 79), (1, .ref 77), (2, .ref 3)], [], M)) (o := [shp 79 = (0, 0)]) rfl rfl ?_
    rw [hsz]
    by_cases hk4 : k = 40
    · rw [if_pos ((n_le rfl rfl (by omega) (by omega)).mpr (show 40 ≤ k by omega))]
      by_cases hz : tKd T L mo p = 0
      · rw [show bkS T L mo ν (σ 2) (n + 1) k E p = .inr (k, E) from if_pos hz]
        exact bend hz
      · obtain ⟨f, hf⟩ := rdB_40 (T := T) (L := L) (mo := mo) (p := p) (ν := ν) (np := σ 2)
        rw [show bkS T L mo ν (σ 2) (n + 1) k E p = .inl f from by unfold bkS; rw [if_neg hz, hk4, hf]]
        refine Wn.run (tab := tb_bk_readLines) rfl 1 (c' := (55, [(0, .ref 79), (1, .ref 77), (2, .ref 3)], [.ref 77], M)) (o := []) rfl trivial ?_
        refine Wn.callV (p := 77) (n := 1) (ix := 32) (ci := (3)) (fun r0 M0 => r0 = some (.int (nI 0)) ∧ M = M0) [] [] rfl rfl rfl rfl (Nat.le_of_ble_eq_true rfl) (Nat.le_of_ble_eq_true rfl) (w_rd_failedL _ M hR.1.2.2.2.2.1 _ ⟨rfl, rfl⟩) ?_
        rintro _ _ ⟨rfl, rfl⟩
        show Wn _ 151 _ (58, [(0, .ref 79), (1, .ref 77), (2, .ref 3)], [.int (nI 0)], M)
        refine Wn.run (tab := tb_bk_readLines) rfl 1 (c' := (if ¬ (nI 0) = 0 then 74 else 61, [(0, .ref 79), (1, .ref 77), (2, .ref 3)], [], M)) (o := []) rfl trivial ?_
        rw [if_neg (show ¬ ¬ nI 0 = 0 by decide)]
        refine Wn.run (tab := tb_bk_readLines) rfl 1 (c' := (62, [(0, .ref 79), (1, .ref 77), (2, .ref 3)], [.ref 77], M)) (o := []) rfl trivial ?_
        refine Wn.callV (p := 77) (n := 1) (ix := 38) (ci := (3)) (fun r0 M0 => r0 = some (.int (nI 0)) ∧ M = M0) [] [] rfl rfl rfl rfl (Nat.le_of_ble_eq_true rfl) (Nat.le_of_ble_eq_true rfl) (w_rd_atEndF _ M T L mo p ta hR hz _ ⟨rfl, rfl⟩) ?_
        rintro _ _ ⟨rfl, rfl⟩
        show Wn _ 151 _ (65, [(0, .ref 79), (1, .ref 77), (2, .ref 3)], [.int (nI 0)], M)
        refine Wn.run (tab := tb_bk_readLines) rfl 1 (c' := (if ¬ (nI 0) = 0 then 74 else 68, [(0, .ref 79), (1, .ref 77), (2, .ref 3)], [], M)) (o := []) rfl trivial ?_
        rw [if_neg (show ¬ ¬ nI 0 = 0 by decide)]
        refine Wn.run (tab := tb_bk_readLines) rfl 3 (c' := (71, [(0, .ref 79), (1, .ref 77), (2, .ref 3)], [.ref 3, .ref 77, .ref 79], M)) (o := []) rfl trivial ?_
        refine Wn.callV (p := 79) (n := 3) (ix := 52) (ci := (0)) (PFl M f.1 f.2 none) [.ref 77, .ref 3] [] rfl rfl rfl rfl (Nat.le_of_ble_eq_true rfl) (Nat.le_of_ble_eq_true rfl) (c_bk_fbl (d + 0) M T L mo p ta hR σ hL c9_2 ν hN f hf) ?_
        rintro _ M1 ⟨rfl, b1, b2⟩
        show Wn _ 151 _ (74, [(0, .ref 79), (1, .ref 77), (2, .ref 3)], [], M1)
        exact Wn.vret rfl ⟨rfl, fr_tr hF b2 (by decide), b1⟩
    · rw [if_neg (mt (n_le rfl rfl (by omega) (by omega)).mp (show ¬ 40 ≤ k by omega))]
      refine Wn.run (tab := tb_bk_readLines) rfl 1 (c' := (15, [(0, .ref 79), (1, .ref 77), (2, .ref 3)], [.ref 77], M)) (o := []) rfl trivial ?_
      refine Wn.callV (p := 77) (n := 1) (ix := 32) (ci := (3)) (fun r0 M0 => r0 = some (.int (nI 0)) ∧ M = M0) [] [] rfl rfl rfl rfl (Nat.le_of_ble_eq_true rfl) (Nat.le_of_ble_eq_true rfl) (w_rd_failedL _ M hR.1.2.2.2.2.1 _ ⟨rfl, rfl⟩) ?_
      rintro _ _ ⟨rfl, rfl⟩
      show Wn _ 151 _ (18, [(0, .ref 79), (1, .ref 77), (2, .ref 3)], [.int (nI 0)], M)
      refine Wn.run (tab := tb_bk_readLines) rfl 1 (c' := (if ¬ (nI 0) = 0 then 54 else 21, [(0, .ref 79), (1, .ref 77), (2, .ref 3)], [], M)) (o := []) rfl trivial ?_
      rw [if_neg (show ¬ ¬ nI 0 = 0 by decide)]
      refine Wn.run (tab := tb_bk_readLines) rfl 1 (c' := (22, [(0, .ref 79), (1, .ref 77), (2, .ref 3)], [.ref 77], M)) (o := []) rfl trivial ?_
      by_cases hz : tKd T L mo p = 0
      · rw [show bkS T L mo ν (σ 2) (n + 1) k E p = .inr (k, E) from if_pos hz]
        refine Wn.callV (p := 77) (n := 1) (ix := 38) (ci := (3)) (fun r0 M0 => r0 = some (.int (nI 1)) ∧ M = M0) [] [] rfl rfl rfl rfl (Nat.le_of_ble_eq_true rfl) (Nat.le_of_ble_eq_true rfl) (w_rd_atEndT _ M T L mo p ta hR hz _ ⟨rfl, rfl⟩) ?_
        rintro _ _ ⟨rfl, rfl⟩
        show Wn _ 151 _ (25, [(0, .ref 79), (1, .ref 77), (2, .ref 3)], [.int (nI 1)], M)
        refine Wn.run (tab := tb_bk_readLines) rfl 1 (c' := (if ¬ (nI 1) = 0 then 54 else 28, [(0, .ref 79), (1, .ref 77), (2, .ref 3)], [], M)) (o := []) rfl trivial ?_
        rw [if_pos (show ¬ nI 1 = 0 by decide)]
        exact bend hz
      · have e1 : bkS T L mo ν (σ 2) (n + 1) k E p = match rdB T L mo p ν (σ 2) k with
          | .inl f => .inl f
          | .inr (p2, e) => if tKd T L mo p2 = 4 then bkS T L mo ν (σ 2) n (k + 1) (suB E k e) (tNx T L p2) else .inl (1, tAt T L mo p2) := if_neg hz
        refine Wn.callV (p := 77) (n := 1) (ix := 38) (ci := (3)) (fun r0 M0 => r0 = some (.int (nI 0)) ∧ M = M0) [] [] rfl rfl rfl rfl (Nat.le_of_ble_eq_true rfl) (Nat.le_of_ble_eq_true rfl) (w_rd_atEndF _ M T L mo p ta hR hz _ ⟨rfl, rfl⟩) ?_
        rintro _ _ ⟨rfl, rfl⟩
        show Wn _ 151 _ (25, [(0, .ref 79), (1, .ref 77), (2, .ref 3)], [.int (nI 0)], M)
        refine Wn.run (tab := tb_bk_readLines) rfl 1 (c' := (if ¬ (nI 0) = 0 then 54 else 28, [(0, .ref 79), (1, .ref 77), (2, .ref 3)], [], M)) (o := []) rfl trivial ?_
        rw [if_neg (show ¬ ¬ nI 0 = 0 by decide)]
        refine Wn.run (tab := tb_bk_readLines) rfl 3 (c' := (31, [(0, .ref 79), (1, .ref 77), (2, .ref 3)], [.ref 3, .ref 77, .ref 79], M)) (o := []) rfl trivial ?_
        refine Wn.callV (p := 79) (n := 3) (ix := 41) (ci := (0)) (PBk M T L mo k (rdB T L mo p ν (σ 2) k)) [.ref 77, .ref 3] [] rfl rfl rfl rfl (Nat.le_of_ble_eq_true rfl) (Nat.le_of_ble_eq_true rfl) (c_bk_readLine (d + 0) M T L mo p ta hR σ hL c9_2 ν hN k (by omega) hsz hz) ?_
        rintro _ M1 ⟨rfl, a1, hres⟩
        show Wn _ 151 _ (34, [(0, .ref 79), (1, .ref 77), (2, .ref 3)], [], M1)
        have hF1 : Fr [77, 79, 80, 81, 82] M0 M1 := fr_tr hF a1 (by decide)
        have hsz1 : M1.1 79 3 = nI k := by rw [(a1 79 (by decide)).1]; exact hsz
        refine Wn.run (tab := tb_bk_readLines) rfl 2 (c' := (38, [(0, .ref 79), (1, .ref 77), (2, .ref 3)], [.ref 100004, .ref 77], M1)) (o := []) rfl trivial ?_
        have inc : ∀ (N : Mm) (Q : Po), N.1 79 3 = nI k → Wn (d + 4) 151 Q (5, [(0, .ref 79), (1, .ref 77), (2, .ref 3)], [], mI N 79 (upd (N.1 79) 3 (nI (k + 1)))) → Wn (d + 4) 151 Q (41, [(0, .ref 79), (1, .ref 77), (2, .ref 3)], [], N) := by
          intro N Q hN3 hw
          refine Wn.run (tab := tb_bk_readLines) rfl 6 (c' := (51, [(0, .ref 79), (1, .ref 77), (2, .ref 3)], [], (mI N 79 (upd (N.1 79) 3 ((N.1 79 3) + (nI 1)))))) (o := [shp 79 = (0, 0), shp 79 = (0, 0)]) rfl ⟨rfl, rfl⟩ ?_
          rw [hN3, nI_add]
          refine Wn.run (tab := tb_bk_readLines) rfl 1 (c' := (5, [(0, .ref 79), (1, .ref 77), (2, .ref 3)], [], (mI N 79 (upd (N.1 79) 3 (nI (k + 1)))))) (o := []) rfl trivial ?_
          exact hw
        have deadn : ∀ (N : Mm) (f : Flt), N.1 79 3 = nI k → RdD N f.1 f.2 → Fr [77, 79, 80, 81, 82] M0 N → Wn (d + 4) 151 (PBl M0 T L mo (.inl f)) (41, [(0, .ref 79), (1, .ref 77), (2, .ref 3)], [], N) := by
          intro N f hN3 hd hFN
          refine inc N _ hN3 ?_
          generalize hM3 : (mI N 79 (upd (N.1 79) 3 (nI (k + 1)))) = N3
          exact c_bk_5D d M0 N3 T L mo (k + 1) (by omega) (by rw [mI_eq hM3, pk_us]) f (RdD_fr (fr_1I hM3) (by decide) hd) (fr_tr hFN (fr_1I hM3) (by decide))
        cases hq : rdB T L mo p ν (σ 2) k with
        | inl f =>
          rw [hq] at hres e1
          rw [e1]
          refine Wn.callV (p := 77) (n := 2) (ix := 48) (ci := (3)) (fun r0 M9 => r0 = none ∧ M9 = M1) [.ref 100004] [] rfl rfl rfl rfl (Nat.le_of_ble_eq_true rfl) (Nat.le_of_ble_eq_true rfl) (c_rd_takeD _ M1 f.1 f.2 hres 100004) ?_
          rintro _ M9 ⟨rfl, hsm⟩
          obtain rfl := hsm.symm
          exact deadn M1 f hsz1 hres hF1
        | inr v =>
          obtain ⟨p2, e⟩ := v
          rw [hq] at hres e1
          obtain ⟨⟨ta1, r1⟩, ⟨r2, r3, r4⟩, r5⟩ := hres
          rw [e1]
          dsimp only
          have ok := rdB_ok hpL hq
          by_cases h4 : tKd T L mo p2 = 4
          · rw [if_pos h4]
            refine Wn.callV (p := 77) (n := 2) (ix := 48) (ci := (3)) (PLv M1 T L mo (tNx T L p2) (tAt T L mo p2) none) [.ref 100004] [] rfl rfl rfl rfl (Nat.le_of_ble_eq_true rfl) (Nat.le_of_ble_eq_true rfl) (c_rd_take_ok (d + 1) M1 T L mo p2 ta1 r1 4 (by decide) h4) ?_
            rintro _ M2 ⟨rfl, b1, b2⟩
            show Wn _ 151 _ (41, [(0, .ref 79), (1, .ref 77), (2, .ref 3)], [], M2)
            refine inc M2 _ (by rw [(b2 79 (by decide)).1]; exact hsz1) ?_
            generalize hM3 : (mI M2 79 (upd (M2.1 79) 3 (nI (k + 1)))) = M3
            have f3 := fr_1I hM3
            have tn := tNx_le (T := T) (mo := mo) ok.2.1 (by omega) (by omega)
            refine ih (k + 1) (suB E k e) (tNx T L p2) (tAt T L mo p2) M3 (by omega) (by omega) (RdL_fr f3 (by decide) b1) (by rw [mI_eq hM3, pk_us]) (fun i hi => ?_) (fr_tr (fr_tr hF1 b2 (by decide)) f3 (by decide))
            rw [(f3 80 (by decide)).2.2, (f3 81 (by decide)).1, (f3 82 (by decide)).1, (b2 80 (by decide)).2.2, (b2 81 (by decide)).1, (b2 82 (by decide)).1]
            unfold suB
            by_cases ei : i = k
            · rw [if_pos ei, ei]; exact ⟨r2, r3, r4⟩
            · rw [if_neg ei, (r5 i ei).1, (r5 i ei).2.1, (r5 i ei).2.2]; exact hE i (by omega)
          · rw [if_neg h4]
            refine Wn.callV (p := 77) (n := 2) (ix := 48) (ci := (3)) (PFl M1 1 (tAt T L mo p2) none) [.ref 100004] [] rfl rfl rfl rfl (Nat.le_of_ble_eq_true rfl) (Nat.le_of_ble_eq_true rfl) (c_rd_take_no (d + 1) M1 T L mo p2 ta1 r1 4 (by decide) h4) ?_
            rintro _ M2 ⟨rfl, b1, b2⟩
            show Wn _ 151 _ (41, [(0, .ref 79), (1, .ref 77), (2, .ref 3)], [], M2)
            exact deadn M2 (1, tAt T L mo p2) (by rw [(b2 79 (by decide)).1]; exact hsz1) b1 (fr_tr hF1 b2 (by decide))
def bk0 : Nat → Bke := fun _ => (0, 0, 0)
set_option maxRecDepth 20000 in
theorem c_bk_readLines (d : Nat) (M : Mm) (T : Nat → Nat) (L mo ta : Nat) (hR : RdL M T L mo 0 ta) (σ : Nat → Nat) (hL : LkC M 3 σ) (c9_2 : σ 2 ≤ 6) (ν : Nat → Int64) (hN : NmC M 3 ν (σ 2)) : Wn (d + 4) 151 (PBl M T L mo (bkS T L mo ν (σ 2) (L + 1) 0 bk0 0)) (0, lv_args 0 [.ref 79, .ref 77, .ref 3], [], M) := by
  refine Wn.run (tab := tb_bk_readLines) rfl 3 (c' := (5, [(0, .ref 79), (1, .ref 77), (2, .ref 3)], [], (mI M 79 (upd (M.1 79) 3 (nI 0))))) (o := [shp 79 = (0, 0)]) rfl rfl ?_
  generalize hM1 : (mI M 79 (upd (M.1 79) 3 (nI 0))) = M1
  exact c_bk_5 d M T L mo σ hL c9_2 ν hN (L + 1) 0 bk0 0 ta M1 (by omega) (by omega) (RdL_fr (fr_1I hM1) (by decide) hR) (by rw [mI_eq hM1, pk_us]) (fun i hi => absurd hi (by omega)) (fr_up (fr_1I hM1) (by decide))
