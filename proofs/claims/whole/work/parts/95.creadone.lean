/-! The class reads one part of a sentence. -/
def PTs (M0 : Mm) (T : Nat → Nat) (L mo p : Nat) : Po := fun r0 M' => r0 = some (.ref (kR T L mo p)) ∧ Fr [77] M0 M' ∧ (5 ≤ tKd T L mo p ∧ tKd T L mo p ≤ 7 → RdL M' T L mo (tNx T L p) (tAt T L mo p)) ∧ (¬ (5 ≤ tKd T L mo p ∧ tKd T L mo p ≤ 7) → RdD M' 1 (tAt T L mo p))
set_option maxRecDepth 20000 in
theorem c_sn_takeSign (d : Nat) (M : Mm) (T : Nat → Nat) (L mo p ta : Nat) (hR : RdL M T L mo p ta) : Wn (d + 2) 192 (PTs M T L mo p) (0, lv_args 0 [.ref 77], [], M) := by
  have kr : M.2.2 77 10 = kR T L mo p := hR.1.2.2.2.2.2.2.1
  refine Wn.run (tab := tb_sn_takeSign) rfl 3 (c' := (5, [(1, .ref (M.2.2 77 10)), (0, .ref 77)], [], M)) (o := [shp 77 = (0, 3)]) rfl rfl ?_
  rw [kr]
  have z26 : 5 ≤ tKd T L mo p ∧ tKd T L mo p ≤ 7 → Wn (d + 2) 192 (PTs M T L mo p) (26, [(1, .ref (kR T L mo p)), (0, .ref 77)], [], M) := by
    intro hc
    refine Wn.run (tab := tb_sn_takeSign) rfl 1 (c' := (27, [(1, .ref (kR T L mo p)), (0, .ref 77)], [.ref 77], M)) (o := []) rfl trivial ?_
    refine Wn.callV (p := 77) (n := 1) (ix := 64) (ci := (3)) (PLv M T L mo (tNx T L p) (tAt T L mo p) none) [] [] rfl rfl rfl rfl (Nat.le_of_ble_eq_true rfl) (Nat.le_of_ble_eq_true rfl) (c_rd_adv d M T L mo p ta hR (by omega) (by omega)) ?_
    rintro _ N ⟨rfl, a1, a2⟩
    show Wn _ 192 _ (30, [(1, .ref (kR T L mo p)), (0, .ref 77)], [], N)
    refine Wn.run (tab := tb_sn_takeSign) rfl 2 (c' := (39, [(1, .ref (kR T L mo p)), (0, .ref 77)], [.ref (kR T L mo p)], N)) (o := []) rfl trivial ?_
    exact Wn.aret rfl ⟨rfl, a2, fun _ => a1, fun q => absurd hc q⟩
  have z33 : ¬ (5 ≤ tKd T L mo p ∧ tKd T L mo p ≤ 7) → Wn (d + 2) 192 (PTs M T L mo p) (33, [(1, .ref (kR T L mo p)), (0, .ref 77)], [], M) := by
    intro hc
    refine Wn.run (tab := tb_sn_takeSign) rfl 2 (c' := (35, [(1, .ref (kR T L mo p)), (0, .ref 77)], [.int (nI 1), .ref 77], M)) (o := []) rfl trivial ?_
    refine Wn.callV (p := 77) (n := 2) (ix := 48) (ci := (3)) (PFl M 1 (tAt T L mo p) none) [.int (nI 1)] [] rfl rfl rfl rfl (Nat.le_of_ble_eq_true rfl) (Nat.le_of_ble_eq_true rfl) (c_rd_fail d M T L mo p ta hR.1 1 (by omega)) ?_
    rintro _ N ⟨rfl, a1, a2⟩
    show Wn _ 192 _ (38, [(1, .ref (kR T L mo p)), (0, .ref 77)], [], N)
    refine Wn.run (tab := tb_sn_takeSign) rfl 1 (c' := (39, [(1, .ref (kR T L mo p)), (0, .ref 77)], [.ref (kR T L mo p)], N)) (o := []) rfl trivial ?_
    exact Wn.aret rfl ⟨rfl, a2, fun q => absurd q hc, fun _ => a1⟩
  refine Wn.run (tab := tb_sn_takeSign) rfl 3 (c' := (if ((kR T L mo p) = 100005) = (true = true) then 26 else 12, [(1, .ref (kR T L mo p)), (0, .ref 77)], [], M)) (o := [isK (kR T L mo p), isK 100005]) rfl ⟨(isK_kR _ _ _ _), ⟨by decide, by decide⟩⟩ ?_
  by_cases c5 : tKd T L mo p = 5
  · rw [if_pos (ac_t.mpr ((kR_iff (c := 5) (by decide) (by decide)).mpr c5))]; exact z26 (by omega)
  rw [if_neg (fun q9 => absurd (ac_t.mp q9) (mt (kR_iff (c := 5) (by decide) (by decide)).mp c5))]
  refine Wn.run (tab := tb_sn_takeSign) rfl 3 (c' := (if ((kR T L mo p) = 100006) = (true = true) then 26 else 19, [(1, .ref (kR T L mo p)), (0, .ref 77)], [], M)) (o := [isK (kR T L mo p), isK 100006]) rfl ⟨(isK_kR _ _ _ _), ⟨by decide, by decide⟩⟩ ?_
  by_cases c6 : tKd T L mo p = 6
  · rw [if_pos (ac_t.mpr ((kR_iff (c := 6) (by decide) (by decide)).mpr c6))]; exact z26 (by omega)
  rw [if_neg (fun q9 => absurd (ac_t.mp q9) (mt (kR_iff (c := 6) (by decide) (by decide)).mp c6))]
  refine Wn.run (tab := tb_sn_takeSign) rfl 3 (c' := (if ((kR T L mo p) = 100007) = (false = true) then 33 else 26, [(1, .ref (kR T L mo p)), (0, .ref 77)], [], M)) (o := [isK (kR T L mo p), isK 100007]) rfl ⟨(isK_kR _ _ _ _), ⟨by decide, by decide⟩⟩ ?_
  by_cases c7 : tKd T L mo p = 7
  · rw [if_neg (fun q9 => ac_f.mp q9 ((kR_iff (c := 7) (by decide) (by decide)).mpr c7))]; exact z26 (by omega)
  rw [if_pos (ac_f.mpr (mt (kR_iff (c := 7) (by decide) (by decide)).mp c7))]
  exact z33 (by omega)
set_option maxRecDepth 20000 in
theorem c_sn_readOne_dead (d : Nat) (M N : Mm) (T : Nat → Nat) (L mo : Nat) (st : Sst) (x : Int32) (e : Flt) (hd : RdD N e.1 e.2) (hn : ∃ n, n ≤ 40 ∧ N.1 24 3 = nI n) (hF : Fr [24, 25, 26, 27, 77] M N) : Wn (d + 3) 190 (PSo M T L mo (.inl e)) (42, [(4, .ref (kR T L mo st.1)), (0, .ref 24), (1, .ref 77), (2, .ref 3), (3, .int x)], [], N) := by
  refine Wn.run (tab := tb_sn_readOne) rfl 1 (c' := (43, [(4, .ref (kR T L mo st.1)), (0, .ref 24), (1, .ref 77), (2, .ref 3), (3, .int x)], [.ref 77], N)) (o := []) rfl trivial ?_
  refine Wn.callV (p := 77) (n := 1) (ix := 61) (ci := (3)) (fun r0 M0 => r0 = some (.int (nI 1)) ∧ N = M0) [] [] rfl rfl rfl rfl (Nat.le_of_ble_eq_true rfl) (Nat.le_of_ble_eq_true rfl) (w_rd_failedD _ N e.1 hd.1 hd.2.2.1 _ ⟨rfl, rfl⟩) ?_
  rintro _ _ ⟨rfl, rfl⟩
  show Wn _ 190 _ (46, [(4, .ref (kR T L mo st.1)), (0, .ref 24), (1, .ref 77), (2, .ref 3), (3, .int x)], [.int (nI 1)], N)
  refine Wn.run (tab := tb_sn_readOne) rfl 1 (c' := (if (nI 1) = 0 then 50 else 49, [(4, .ref (kR T L mo st.1)), (0, .ref 24), (1, .ref 77), (2, .ref 3), (3, .int x)], [], N)) (o := []) rfl trivial ?_
  rw [if_neg (show ¬ nI 1 = 0 by decide)]
  exact Wn.vret rfl ⟨rfl, hF, hd, hn⟩
set_option maxRecDepth 20000 in
theorem c_sn_readOne_in {T : Nat → Nat} {L mo : Nat} (d : Nat) (M : Mm) (st : Sst) (ta dd : Nat) (hdd : dd < 100) (hR : RdL M T L mo st.1 ta) (hS : SN M st) (hn : st.2.1 ≤ 2 * st.2.2.1) (ho20 : st.2.2.1 ≤ 20) (Q : Po) (h1 : ¬ begK (tKd T L mo st.1) → Q = PSo M T L mo (.inl (1, tAt T L mo st.1))) (h4 : begK (tKd T L mo st.1) → (20 ≤ st.2.2.1 ∨ 8 < dd) → Q = PSo M T L mo (.inl (4, tAt T L mo st.1))) (hc : begK (tKd T L mo st.1) → st.2.2.1 < 20 → dd ≤ 8 → Wn (d + 3) 190 Q (50, [(4, .ref (kR T L mo st.1)), (0, .ref 24), (1, .ref 77), (2, .ref 3), (3, .int (nI dd))], [], M)) : Wn (d + 3) 190 Q (0, lv_args 0 [.ref 24, .ref 77, .ref 3, .int (nI dd)], [], M) := by
  have kr : M.2.2 77 10 = kR T L mo st.1 := hR.1.2.2.2.2.2.2.1
  have hn40 : ∃ n, n ≤ 40 ∧ M.1 24 3 = nI n := ⟨st.2.1, by omega, hS.1⟩
  refine Wn.run (tab := tb_sn_readOne) rfl 4 (c' := (8, [(4, .ref (M.2.2 77 10)), (0, .ref 24), (1, .ref 77), (2, .ref 3), (3, .int (nI dd))], [.ref (M.2.2 77 10)], M)) (o := [shp 77 = (0, 3)]) rfl rfl ?_
  rw [kr]
  refine Wn.callS (n := 1) (ix := 77) (fun r0 M0 => r0 = some (.int (b2 (begK (kR T L mo st.1 - 100000)))) ∧ M = M0) [.ref (kR T L mo st.1)] [] rfl rfl rfl (Nat.le_of_ble_eq_true rfl) (Nat.le_of_ble_eq_true rfl) (w_sn_beginsOne _ _ (isK_kR _ _ _ _) M _ ⟨rfl, rfl⟩) ?_
  rintro _ _ ⟨rfl, rfl⟩
  show Wn _ 190 _ (11, [(4, .ref (kR T L mo st.1)), (0, .ref 24), (1, .ref 77), (2, .ref 3), (3, .int (nI dd))], [.int (b2 (begK (kR T L mo st.1 - 100000)))], M)
  refine Wn.run (tab := tb_sn_readOne) rfl 1 (c' := (if ¬ (b2 (begK (kR T L mo st.1 - 100000))) = 0 then 22 else 14, [(4, .ref (kR T L mo st.1)), (0, .ref 24), (1, .ref 77), (2, .ref 3), (3, .int (nI dd))], [], M)) (o := []) rfl trivial ?_
  by_cases c0 : begK (tKd T L mo st.1)
  · rw [if_pos (b2_n0.mpr (begK_kR.mpr c0))]
    refine Wn.run (tab := tb_sn_readOne) rfl 4 (c' := (if (nI 20) ≤ (M.1 24 4) then 37 else 31, [(4, .ref (kR T L mo st.1)), (0, .ref 24), (1, .ref 77), (2, .ref 3), (3, .int (nI dd))], [], M)) (o := [shp 24 = (0, 4)]) rfl rfl ?_
    rw [hS.2.1]
    have f4 : (20 ≤ st.2.2.1 ∨ 8 < dd) → Wn (d + 3) 190 Q (37, [(4, .ref (kR T L mo st.1)), (0, .ref 24), (1, .ref 77), (2, .ref 3), (3, .int (nI dd))], [], M) := by
      intro c1
      rw [h4 c0 c1]
      refine Wn.run (tab := tb_sn_readOne) rfl 2 (c' := (39, [(4, .ref (kR T L mo st.1)), (0, .ref 24), (1, .ref 77), (2, .ref 3), (3, .int (nI dd))], [.int (nI 4), .ref 77], M)) (o := []) rfl trivial ?_
      refine Wn.callV (p := 77) (n := 2) (ix := 48) (ci := (3)) (PFl M 4 (tAt T L mo st.1) none) [.int (nI 4)] [] rfl rfl rfl rfl (Nat.le_of_ble_eq_true rfl) (Nat.le_of_ble_eq_true rfl) (c_rd_fail (d + 1) M T L mo st.1 ta hR.1 4 (by omega)) ?_
      rintro _ N ⟨rfl, a1, a2⟩
      show Wn _ 190 _ (42, [(4, .ref (kR T L mo st.1)), (0, .ref 24), (1, .ref 77), (2, .ref 3), (3, .int (nI dd))], [], N)
      exact c_sn_readOne_dead d M N T L mo st (nI dd) (4, tAt T L mo st.1) a1 (by rw [(a2 24 (by decide)).1]; exact hn40) (fr_up a2 (by decide))
    by_cases c1 : 20 ≤ st.2.2.1
    · rw [if_pos ((n_le rfl rfl (by omega) (by omega)).mpr c1)]
      exact f4 (Or.inl c1)
    rw [if_neg (mt (n_le rfl rfl (by omega) (by omega)).mp c1)]
    refine Wn.run (tab := tb_sn_readOne) rfl 3 (c' := (if (nI dd) ≤ (nI 8) then 42 else 37, [(4, .ref (kR T L mo st.1)), (0, .ref 24), (1, .ref 77), (2, .ref 3), (3, .int (nI dd))], [], M)) (o := []) rfl trivial ?_
    by_cases c2 : dd ≤ 8
    · rw [if_pos ((n_le rfl rfl (by omega) (by omega)).mpr c2)]
      refine Wn.run (tab := tb_sn_readOne) rfl 1 (c' := (43, [(4, .ref (kR T L mo st.1)), (0, .ref 24), (1, .ref 77), (2, .ref 3), (3, .int (nI dd))], [.ref 77], M)) (o := []) rfl trivial ?_
      refine Wn.callV (p := 77) (n := 1) (ix := 61) (ci := (3)) (fun r0 M0 => r0 = some (.int (nI 0)) ∧ M = M0) [] [] rfl rfl rfl rfl (Nat.le_of_ble_eq_true rfl) (Nat.le_of_ble_eq_true rfl) (w_rd_failedL _ M hR.1.2.2.2.2.1 _ ⟨rfl, rfl⟩) ?_
      rintro _ _ ⟨rfl, rfl⟩
      show Wn _ 190 _ (46, [(4, .ref (kR T L mo st.1)), (0, .ref 24), (1, .ref 77), (2, .ref 3), (3, .int (nI dd))], [.int (nI 0)], M)
      refine Wn.run (tab := tb_sn_readOne) rfl 1 (c' := (if (nI 0) = 0 then 50 else 49, [(4, .ref (kR T L mo st.1)), (0, .ref 24), (1, .ref 77), (2, .ref 3), (3, .int (nI dd))], [], M)) (o := []) rfl trivial ?_
      rw [if_pos (show nI 0 = 0 by decide)]
      exact hc c0 (by omega) c2
    · rw [if_neg (mt (n_le rfl rfl (by omega) (by omega)).mp c2)]
      exact f4 (Or.inr (by omega))
  · rw [if_neg (fun q => q (b2_e0.mpr (mt begK_kR.mp c0))), h1 c0]
    refine Wn.run (tab := tb_sn_readOne) rfl 2 (c' := (16, [(4, .ref (kR T L mo st.1)), (0, .ref 24), (1, .ref 77), (2, .ref 3), (3, .int (nI dd))], [.int (nI 1), .ref 77], M)) (o := []) rfl trivial ?_
    refine Wn.callV (p := 77) (n := 2) (ix := 48) (ci := (3)) (PFl M 1 (tAt T L mo st.1) none) [.int (nI 1)] [] rfl rfl rfl rfl (Nat.le_of_ble_eq_true rfl) (Nat.le_of_ble_eq_true rfl) (c_rd_fail (d + 1) M T L mo st.1 ta hR.1 1 (by omega)) ?_
    rintro _ N ⟨rfl, a1, a2⟩
    show Wn _ 190 _ (19, [(4, .ref (kR T L mo st.1)), (0, .ref 24), (1, .ref 77), (2, .ref 3), (3, .int (nI dd))], [], N)
    refine Wn.run (tab := tb_sn_readOne) rfl 1 (c' := (42, [(4, .ref (kR T L mo st.1)), (0, .ref 24), (1, .ref 77), (2, .ref 3), (3, .int (nI dd))], [], N)) (o := []) rfl trivial ?_
    exact c_sn_readOne_dead d M N T L mo st (nI dd) (1, tAt T L mo st.1) a1 (by rw [(a2 24 (by decide)).1]; exact hn40) (fr_up a2 (by decide))
theorem c_sn_readOne_0 {T : Nat → Nat} {L mo : Nat} {σ : Nat → Nat} {ν : Nat → Int64} : CC T L mo σ ν 190 3 (nI 9) (oneS T L mo ν (σ 2) 0) := by
  intro d M st ta hR hS hn ho20 hL hN
  refine c_sn_readOne_in d M st ta 9 (by decide) hR hS hn ho20 _ (fun c => ?_) (fun c _ => ?_) (fun _ _ c => absurd c (by decide))
  · unfold oneS; rw [if_pos c]
  · unfold oneS; rw [if_neg (fun q => q c)]
set_option maxRecDepth 20000 in
theorem c_sn_readOne_s {T : Nat → Nat} {L mo : Nat} {σ : Nat → Nat} {ν : Nat → Int64} (b : Nat) (hb : b < 8) (h26 : σ 2 ≤ 6) (h : CC T L mo σ ν 190 (3 * b + 3) (nI (9 - b)) (oneS T L mo ν (σ 2) b)) (hs : CC T L mo σ ν 188 (3 * b + 5) (nI (9 - b)) (someS T L mo (oneS T L mo ν (σ 2) b))) : CC T L mo σ ν 190 (3 * (b + 1) + 3) (nI (9 - (b + 1))) (oneS T L mo ν (σ 2) (b + 1)) := by
  intro d M st ta hR hS hn ho20 hL hN
  rw [show d + (3 * (b + 1) + 3) = (d + (3 * b + 3)) + 3 by omega]
  refine c_sn_readOne_in (d + (3 * b + 3)) M st ta (9 - (b + 1)) (by omega) hR hS hn ho20 _ (fun c => ?_) (fun c c2 => ?_) (fun hk ho hdd => ?_)
  · unfold oneS; rw [if_pos c]
  · unfold oneS; rw [if_neg (fun q => q c), if_pos (by omega)]
  have kR36 : tKd T L mo st.1 < 36 := by unfold begK at hk; omega
  have kre : kR T L mo st.1 = 100000 + tKd T L mo st.1 := (kR_iff (by unfold begK at hk; omega) kR36).mpr rfl
  have e0 : oneS T L mo ν (σ 2) (b + 1) st = if tKd T L mo st.1 = 27 then (match oneS T L mo ν (σ 2) b (tNx T L st.1, st.2.1, st.2.2.1 + 1, st.2.2.2) with
      | .inl e => .inl e
      | .inr s2 => .inr (sAdd 27 0 0 s2))
    else if tKd T L mo st.1 = 8 then (match someS T L mo (oneS T L mo ν (σ 2) b) (tNx T L st.1, st.2.1, st.2.2.1 + 1, st.2.2.2) with
      | .inl e => .inl e
      | .inr s2 => if tKd T L mo s2.1 = 9 then .inr (tNx T L s2.1, s2.2) else .inl (1, tAt T L mo s2.1))
    else leafS T L mo ν (σ 2) (tKd T L mo st.1) (tNx T L st.1, st.2.1, st.2.2.1 + 1, st.2.2.2) := by
    show (if ¬ begK (tKd T L mo st.1) then _ else if 20 ≤ st.2.2.1 then _ else _) = _
    rw [if_neg (fun q => q hk), if_neg (by omega)]
    rfl
  rw [e0]
  refine Wn.run (tab := tb_sn_readOne) rfl 6 (c' := (60, [(4, .ref (kR T L mo st.1)), (0, .ref 24), (1, .ref 77), (2, .ref 3), (3, .int (nI (9 - (b + 1))))], [], (mI M 24 (upd (M.1 24) 4 ((M.1 24 4) + (nI 1)))))) (o := [shp 24 = (0, 4), shp 24 = (0, 4)]) rfl ⟨rfl, rfl⟩ ?_
  rw [hS.2.1, nI_add]
  generalize hM1 : (mI M 24 (upd (M.1 24) 4 (nI (st.2.2.1 + 1)))) = M1
  have f1 := fr_1I hM1
  have hR1 : RdL M1 T L mo st.1 ta := RdL_fr f1 (by decide) hR
  refine Wn.run (tab := tb_sn_readOne) rfl 1 (c' := (61, [(4, .ref (kR T L mo st.1)), (0, .ref 24), (1, .ref 77), (2, .ref 3), (3, .int (nI (9 - (b + 1))))], [.ref 77], M1)) (o := []) rfl trivial ?_
  refine Wn.callV (p := 77) (n := 1) (ix := 64) (ci := (3)) (PLv M1 T L mo (tNx T L st.1) (tAt T L mo st.1) none) [] [] rfl rfl rfl rfl (Nat.le_of_ble_eq_true rfl) (Nat.le_of_ble_eq_true rfl) (c_rd_adv (d + (3 * b + 4)) M1 T L mo st.1 ta hR1 (by unfold begK at hk; omega) (by omega)) ?_
  rintro _ M2 ⟨rfl, r1, r2⟩
  show Wn _ 190 _ (64, [(4, .ref (kR T L mo st.1)), (0, .ref 24), (1, .ref 77), (2, .ref 3), (3, .int (nI (9 - (b + 1))))], [], M2)
  have F2 : Fr [24, 25, 26, 27, 77] M M2 := fr_tr (fr_up f1 (by decide)) r2 (by decide)
  have hL2 : LkC M2 3 σ := lk_3 F2 (by decide) hL
  have hN2 : NmC M2 3 ν (σ 2) := NmC_fr F2 (by decide) hN
  have S2 : SN M2 (tNx T L st.1, st.2.1, st.2.2.1 + 1, st.2.2.2) := by
    refine ⟨?_, ?_, ?_⟩
    · rw [(r2 24 (by decide)).1, mI_eq hM1, pk_un (by decide)]; exact hS.1
    · rw [(r2 24 (by decide)).1, mI_eq hM1, pk_us]
    · rw [(r2 25 (by decide)).2.2, (r2 26 (by decide)).2.2, (r2 27 (by decide)).1, (f1 25 (by decide)).2.2, (f1 26 (by decide)).2.2, (f1 27 (by decide)).1]; exact hS.2.2
  have hpL := r1.2.2.2.2
  refine Wn.run (tab := tb_sn_readOne) rfl 5 (c' := (tsw [16, 21, 183, 112, 134, 153, 153, 166, 166] (Int32.ofInt (([0, 0, 0, 0, 0, 0, 0, 0, 17, 0, 5, 6, 7, 8, 9, 10, 11, 1, 2, 3, 4, 13, 14, 15, 12, 27, 26, 16, 18, 19, 20, 21, 22, 23, 24, 25] : List Int).getD ((nI ((kR T L mo st.1) - 100000))).toNatClampNeg 0)), [(4, .ref (kR T L mo st.1)), (0, .ref 24), (1, .ref 77), (2, .ref 3), (3, .int (nI (9 - (b + 1))))], [], M2)) (o := [isK (kR T L mo st.1), ct [.ref 200003] ≤ 8, 200003 = 200003, vp_in (nI ((kR T L mo st.1) - 100000)) 36]) rfl ⟨(isK_kR _ _ _ _), (Nat.le_of_ble_eq_true rfl), rfl, (vp_in_nI (kR_ix _ _ _ _) (by decide))⟩ ?_
  rw [ro_sw (kR T L mo st.1 - 100000) (kR_ix _ _ _ _) (begK_kR.mpr hk), show kR T L mo st.1 - 100000 = tKd T L mo st.1 by rw [kre]; omega]
  have fin : ∀ (N : Mm) (st2 : Sst) (a s u : Nat), (∃ ta, RdL N T L mo st2.1 ta) → SN N st2 → Fr [24, 25, 26, 27, 77] M N → ∀ r0 N2, PAn N st2.2.1 (100000 + a) (100000 + s) (nI u) r0 N2 → PSo M T L mo (.inr (sAdd a s u st2)) none N2 := by
    intro N st2 a s u hR9 hS9 hF9 r0 N2 hA
    obtain ⟨ta9, hR9⟩ := hR9
    have hA2 := SN_add hS9 hA
    obtain ⟨_, b1, b2, b3, b4, b5⟩ := hA
    exact ⟨rfl, fr_tr hF9 b5 (by decide), ⟨ta9, RdL_fr b5 (by decide) hR9⟩, hA2⟩
  by_cases c27 : tKd T L mo st.1 = 27
  · rw [if_pos c27, if_pos c27]
    refine Wn.run (tab := tb_sn_readOne) rfl 6 (c' := (118, [(4, .ref (kR T L mo st.1)), (0, .ref 24), (1, .ref 77), (2, .ref 3), (3, .int (nI (9 - (b + 1))))], [.int ((nI (9 - (b + 1))) + (nI 1)), .ref 3, .ref 77, .ref 24], M2)) (o := []) rfl trivial ?_
    rw [nI_add, show 9 - (b + 1) + 1 = 9 - b by omega]
    refine Wn.callV (p := 24) (n := 4) (ix := 71) (ci := (4)) (PSo M2 T L mo (oneS T L mo ν (σ 2) b (tNx T L st.1, st.2.1, st.2.2.1 + 1, st.2.2.2))) [.ref 77, .ref 3, .int (nI (9 - b))] [] rfl rfl rfl rfl (Nat.le_of_ble_eq_true rfl) (Nat.le_of_ble_eq_true rfl) (by have q9 := h (d + 2) M2 (tNx T L st.1, st.2.1, st.2.2.1 + 1, st.2.2.2) _ r1 S2 (by show st.2.1 ≤ 2 * (st.2.2.1 + 1); omega) (by show st.2.2.1 + 1 ≤ 20; omega) hL2 hN2; rw [show d + 2 + (3 * b + 3) = d + (3 * b + 3) + 2 by omega] at q9; exact q9) ?_
    rintro _ N ⟨rfl, a1, hres⟩
    show Wn _ 190 _ (121, [(4, .ref (kR T L mo st.1)), (0, .ref 24), (1, .ref 77), (2, .ref 3), (3, .int (nI (9 - (b + 1))))], [], N)
    refine Wn.run (tab := tb_sn_readOne) rfl 4 (c' := (128, [(4, .ref (kR T L mo st.1)), (0, .ref 24), (1, .ref 77), (2, .ref 3), (3, .int (nI (9 - (b + 1))))], [.int (nI 0), .ref 100000, .ref (kR T L mo st.1), .ref 24], N)) (o := []) rfl trivial ?_
    have FN : Fr [24, 25, 26, 27, 77] M N := fr_tr F2 a1 (by decide)
    cases hq : oneS T L mo ν (σ 2) b (tNx T L st.1, st.2.1, st.2.2.1 + 1, st.2.2.2) with
    | inl e =>
      rw [hq] at hres
      refine Wn.callV (p := 24) (n := 4) (ix := 67) (ci := (4)) (PAx N) [.ref (kR T L mo st.1), .ref 100000, .int (nI 0)] [] rfl rfl rfl rfl (Nat.le_of_ble_eq_true rfl) (Nat.le_of_ble_eq_true rfl) (c_sn_add_D _ N hres.2 _ _ (isK_kR _ _ _ _) ⟨by decide, by decide⟩ _) ?_
      rintro _ N2 ⟨rfl, b1, b2⟩
      show Wn _ 190 _ (131, [(4, .ref (kR T L mo st.1)), (0, .ref 24), (1, .ref 77), (2, .ref 3), (3, .int (nI (9 - (b + 1))))], [], N2)
      refine Wn.run (tab := tb_sn_readOne) rfl 1 (c' := (205, [(4, .ref (kR T L mo st.1)), (0, .ref 24), (1, .ref 77), (2, .ref 3), (3, .int (nI (9 - (b + 1))))], [], N2)) (o := []) rfl trivial ?_
      exact Wn.vret rfl ⟨rfl, fr_tr FN b2 (by decide), RdD_fr b2 (by decide) hres.1, b1⟩
    | inr s2 =>
      rw [hq] at hres
      obtain ⟨⟨ta2, r3⟩, r4⟩ := hres
      obtain ⟨_, ⟨g1, g2⟩, ⟨_, g3⟩, _⟩ := oneS_go b _ _ hpL hq
      dsimp only at g1 g3
      rw [kre]
      refine Wn.callV (p := 24) (n := 4) (ix := 67) (ci := (4)) (PAn N s2.2.1 (100000 + (tKd T L mo st.1)) (100000 + 0) (nI 0)) [.ref (100000 + (tKd T L mo st.1)), .ref (100000 + 0), .int (nI 0)] [] rfl rfl rfl rfl (Nat.le_of_ble_eq_true rfl) (Nat.le_of_ble_eq_true rfl) (c_sn_add_ok _ N s2.2.1 r4.1 (by omega) _ _ ⟨by omega, by omega⟩ ⟨by omega, by omega⟩ _) ?_
      intro r0 N2 hA
      have hp9 := fin N s2 (tKd T L mo st.1) 0 0 ⟨ta2, r3⟩ r4 FN r0 N2 hA
      obtain rfl := hA.1
      show Wn _ 190 _ (131, [(4, .ref (100000 + (tKd T L mo st.1))), (0, .ref 24), (1, .ref 77), (2, .ref 3), (3, .int (nI (9 - (b + 1))))], [], N2)
      refine Wn.run (tab := tb_sn_readOne) rfl 1 (c' := (205, [(4, .ref (100000 + (tKd T L mo st.1))), (0, .ref 24), (1, .ref 77), (2, .ref 3), (3, .int (nI (9 - (b + 1))))], [], N2)) (o := []) rfl trivial ?_
      rw [c27] at hp9
      exact Wn.vret rfl hp9
  rw [if_neg c27, if_neg c27]
  by_cases c8 : tKd T L mo st.1 = 8
  · rw [if_pos c8, if_pos c8]
    refine Wn.run (tab := tb_sn_readOne) rfl 6 (c' := (140, [(4, .ref (kR T L mo st.1)), (0, .ref 24), (1, .ref 77), (2, .ref 3), (3, .int (nI (9 - (b + 1))))], [.int ((nI (9 - (b + 1))) + (nI 1)), .ref 3, .ref 77, .ref 24], M2)) (o := []) rfl trivial ?_
    rw [nI_add, show 9 - (b + 1) + 1 = 9 - b by omega]
    refine Wn.callV (p := 24) (n := 4) (ix := 38) (ci := (4)) (PSo M2 T L mo (someS T L mo (oneS T L mo ν (σ 2) b) (tNx T L st.1, st.2.1, st.2.2.1 + 1, st.2.2.2))) [.ref 77, .ref 3, .int (nI (9 - b))] [] rfl rfl rfl rfl (Nat.le_of_ble_eq_true rfl) (Nat.le_of_ble_eq_true rfl) (hs d M2 (tNx T L st.1, st.2.1, st.2.2.1 + 1, st.2.2.2) _ r1 S2 (by show st.2.1 ≤ 2 * (st.2.2.1 + 1); omega) (by show st.2.2.1 + 1 ≤ 20; omega) hL2 hN2) ?_
    rintro _ N ⟨rfl, a1, hres⟩
    show Wn _ 190 _ (143, [(4, .ref (kR T L mo st.1)), (0, .ref 24), (1, .ref 77), (2, .ref 3), (3, .int (nI (9 - (b + 1))))], [], N)
    refine Wn.run (tab := tb_sn_readOne) rfl 2 (c' := (147, [(4, .ref (kR T L mo st.1)), (0, .ref 24), (1, .ref 77), (2, .ref 3), (3, .int (nI (9 - (b + 1))))], [.ref 100009, .ref 77], N)) (o := []) rfl trivial ?_
    have FN : Fr [24, 25, 26, 27, 77] M N := fr_tr F2 a1 (by decide)
    cases hq : someS T L mo (oneS T L mo ν (σ 2) b) (tNx T L st.1, st.2.1, st.2.2.1 + 1, st.2.2.2) with
    | inl e =>
      rw [hq] at hres
      refine Wn.callV (p := 77) (n := 2) (ix := 93) (ci := (3)) (fun r0 M9 => r0 = none ∧ M9 = N) [.ref 100009] [] rfl rfl rfl rfl (Nat.le_of_ble_eq_true rfl) (Nat.le_of_ble_eq_true rfl) (c_rd_takeD _ N e.1 e.2 hres.1 100009) ?_
      rintro _ M9 ⟨rfl, hsm⟩
      obtain rfl := hsm.symm
      show Wn _ 190 _ (150, [(4, .ref (kR T L mo st.1)), (0, .ref 24), (1, .ref 77), (2, .ref 3), (3, .int (nI (9 - (b + 1))))], [], N)
      refine Wn.run (tab := tb_sn_readOne) rfl 1 (c' := (205, [(4, .ref (kR T L mo st.1)), (0, .ref 24), (1, .ref 77), (2, .ref 3), (3, .int (nI (9 - (b + 1))))], [], N)) (o := []) rfl trivial ?_
      exact Wn.vret rfl ⟨rfl, FN, hres.1, hres.2⟩
    | inr s2 =>
      rw [hq] at hres
      obtain ⟨⟨ta2, r3⟩, r4⟩ := hres
      obtain ⟨_, ⟨g1, g2⟩, ⟨_, g3⟩, _⟩ := someS_go (oneS_go b) _ _ hpL hq
      dsimp only at g1 g3 ⊢
      by_cases c9 : tKd T L mo s2.1 = 9
      · rw [if_pos c9]
        refine Wn.callV (p := 77) (n := 2) (ix := 93) (ci := (3)) (PLv N T L mo (tNx T L s2.1) (tAt T L mo s2.1) none) [.ref 100009] [] rfl rfl rfl rfl (Nat.le_of_ble_eq_true rfl) (Nat.le_of_ble_eq_true rfl) (c_rd_take_ok (d + (3 * b + 3)) N T L mo s2.1 ta2 r3 9 (by decide) c9) ?_
        rintro _ N2 ⟨rfl, b1, b2⟩
        show Wn _ 190 _ (150, [(4, .ref (kR T L mo st.1)), (0, .ref 24), (1, .ref 77), (2, .ref 3), (3, .int (nI (9 - (b + 1))))], [], N2)
        refine Wn.run (tab := tb_sn_readOne) rfl 1 (c' := (205, [(4, .ref (kR T L mo st.1)), (0, .ref 24), (1, .ref 77), (2, .ref 3), (3, .int (nI (9 - (b + 1))))], [], N2)) (o := []) rfl trivial ?_
        exact Wn.vret rfl ⟨rfl, fr_tr FN b2 (by decide), ⟨_, b1⟩, SN_fr b2 (by decide) r4⟩
      · rw [if_neg c9]
        refine Wn.callV (p := 77) (n := 2) (ix := 93) (ci := (3)) (PFl N 1 (tAt T L mo s2.1) none) [.ref 100009] [] rfl rfl rfl rfl (Nat.le_of_ble_eq_true rfl) (Nat.le_of_ble_eq_true rfl) (c_rd_take_no (d + (3 * b + 3)) N T L mo s2.1 ta2 r3 9 (by decide) c9) ?_
        rintro _ N2 ⟨rfl, b1, b2⟩
        show Wn _ 190 _ (150, [(4, .ref (kR T L mo st.1)), (0, .ref 24), (1, .ref 77), (2, .ref 3), (3, .int (nI (9 - (b + 1))))], [], N2)
        refine Wn.run (tab := tb_sn_readOne) rfl 1 (c' := (205, [(4, .ref (kR T L mo st.1)), (0, .ref 24), (1, .ref 77), (2, .ref 3), (3, .int (nI (9 - (b + 1))))], [], N2)) (o := []) rfl trivial ?_
        exact Wn.vret rfl ⟨rfl, fr_tr FN b2 (by decide), b1, ⟨s2.2.1, by omega, by rw [(b2 24 (by decide)).1]; exact r4.1⟩⟩
  rw [if_neg c8, if_neg c8]
  unfold leafS
  dsimp only
  by_cases c2 : tKd T L mo st.1 = 28 ∨ tKd T L mo st.1 = 29
  · rw [if_pos c2, if_pos c2]
    refine Wn.run (tab := tb_sn_readOne) rfl 4 (c' := (160, [(4, .ref (kR T L mo st.1)), (0, .ref 24), (1, .ref 77), (2, .ref 3), (3, .int (nI (9 - (b + 1))))], [.int (nI 0), .ref 100000, .ref (kR T L mo st.1), .ref 24], M2)) (o := []) rfl trivial ?_
    obtain ⟨N, hN9⟩ : ∃ N, M2 = N := ⟨_, rfl⟩
    rw [hN9] at S2 r1 F2 ⊢
    rw [kre]
    refine Wn.callV (p := 24) (n := 4) (ix := 67) (ci := (4)) (PAn N (tNx T L st.1, st.2.1, st.2.2.1 + 1, st.2.2.2).2.1 (100000 + (tKd T L mo st.1)) (100000 + 0) (nI 0)) [.ref (100000 + (tKd T L mo st.1)), .ref (100000 + 0), .int (nI 0)] [] rfl rfl rfl rfl (Nat.le_of_ble_eq_true rfl) (Nat.le_of_ble_eq_true rfl) (c_sn_add_ok _ N (tNx T L st.1, st.2.1, st.2.2.1 + 1, st.2.2.2).2.1 S2.1 (by show st.2.1 < 40; omega) _ _ ⟨by omega, by omega⟩ ⟨by omega, by omega⟩ _) ?_
    intro r0 N2 hA
    have hp9 := fin N (tNx T L st.1, st.2.1, st.2.2.1 + 1, st.2.2.2) (tKd T L mo st.1) 0 0 ⟨_, r1⟩ S2 F2 r0 N2 hA
    obtain rfl := hA.1
    show Wn _ 190 _ (163, [(4, .ref (100000 + (tKd T L mo st.1))), (0, .ref 24), (1, .ref 77), (2, .ref 3), (3, .int (nI (9 - (b + 1))))], [], N2)
    refine Wn.run (tab := tb_sn_readOne) rfl 1 (c' := (205, [(4, .ref (100000 + (tKd T L mo st.1))), (0, .ref 24), (1, .ref 77), (2, .ref 3), (3, .int (nI (9 - (b + 1))))], [], N2)) (o := []) rfl trivial ?_
    exact Wn.vret rfl hp9
  rw [if_neg c2, if_neg c2]
  by_cases c3 : tKd T L mo st.1 = 30 ∨ tKd T L mo st.1 = 31
  · rw [if_pos c3, if_pos c3]
    refine Wn.run (tab := tb_sn_readOne) rfl 5 (c' := (174, [(4, .ref (kR T L mo st.1)), (0, .ref 24), (1, .ref 77), (2, .ref 3), (3, .int (nI (9 - (b + 1))))], [.ref 3, .ref 77, .ref 100000, .ref (kR T L mo st.1), .ref 24], M2)) (o := []) rfl trivial ?_
    by_cases k3 : tKd T L mo (tNx T L st.1) = 3
    · rw [if_neg (fun q => q k3)]
      cases hpc : pcl ν (tNm T L (tNx T L st.1)) (σ 2) with
      | some q =>
        have q6 : q < 6 := by have := pcl_lt hpc; omega
        dsimp only
        refine Wn.callV (p := 77) (n := 2) (ix := 97) (ci := (3)) (PLv M2 T L mo (tNx T L (tNx T L st.1)) (tAt T L mo (tNx T L st.1)) (some (.int (nI q)))) [.ref 3] [.ref 100000, .ref (kR T L mo st.1), .ref 24] rfl rfl rfl rfl (Nat.le_of_ble_eq_true rfl) (Nat.le_of_ble_eq_true rfl) (c_rd_takePerson_ok (d + (3 * b + 3)) M2 T L mo (tNx T L st.1) (tAt T L mo st.1) r1 3 σ hL2 h26 ν hN2 (by decide) k3 q q6 hpc) ?_
        rintro _ N ⟨rfl, a1, a2⟩
        show Wn _ 190 _ (177, [(4, .ref (kR T L mo st.1)), (0, .ref 24), (1, .ref 77), (2, .ref 3), (3, .int (nI (9 - (b + 1))))], [.int (nI q), .ref 100000, .ref (kR T L mo st.1), .ref 24], N)
        rw [kre]
        refine Wn.callV (p := 24) (n := 4) (ix := 67) (ci := (4)) (PAn N (tNx T L (tNx T L st.1), st.2.1, st.2.2.1 + 1, st.2.2.2).2.1 (100000 + (tKd T L mo st.1)) (100000 + 0) (nI q)) [.ref (100000 + (tKd T L mo st.1)), .ref (100000 + 0), .int (nI q)] [] rfl rfl rfl rfl (Nat.le_of_ble_eq_true rfl) (Nat.le_of_ble_eq_true rfl) (c_sn_add_ok _ N (tNx T L (tNx T L st.1), st.2.1, st.2.2.1 + 1, st.2.2.2).2.1 (SN_fr a2 (by decide) S2).1 (by show st.2.1 < 40; omega) _ _ ⟨by omega, by omega⟩ ⟨by omega, by omega⟩ _) ?_
        intro r0 N2 hA
        have hp9 := fin N (tNx T L (tNx T L st.1), st.2.1, st.2.2.1 + 1, st.2.2.2) (tKd T L mo st.1) 0 q ⟨_, a1⟩ (SN_fr a2 (by decide) S2) (fr_tr F2 a2 (by decide)) r0 N2 hA
        obtain rfl := hA.1
        show Wn _ 190 _ (180, [(4, .ref (100000 + (tKd T L mo st.1))), (0, .ref 24), (1, .ref 77), (2, .ref 3), (3, .int (nI (9 - (b + 1))))], [], N2)
        refine Wn.run (tab := tb_sn_readOne) rfl 1 (c' := (205, [(4, .ref (100000 + (tKd T L mo st.1))), (0, .ref 24), (1, .ref 77), (2, .ref 3), (3, .int (nI (9 - (b + 1))))], [], N2)) (o := []) rfl trivial ?_
        exact Wn.vret rfl hp9
      | none =>
        dsimp only
        refine Wn.callV (p := 77) (n := 2) (ix := 97) (ci := (3)) (PFl M2 3 (tAt T L mo (tNx T L st.1)) (some (.int (nI 0)))) [.ref 3] [.ref 100000, .ref (kR T L mo st.1), .ref 24] rfl rfl rfl rfl (Nat.le_of_ble_eq_true rfl) (Nat.le_of_ble_eq_true rfl) (c_rd_takePerson_no3 (d + (3 * b + 3)) M2 T L mo (tNx T L st.1) (tAt T L mo st.1) r1 3 σ hL2 h26 ν hN2 (by decide) k3 hpc) ?_
        rintro _ N ⟨rfl, a1, a2⟩
        show Wn _ 190 _ (177, [(4, .ref (kR T L mo st.1)), (0, .ref 24), (1, .ref 77), (2, .ref 3), (3, .int (nI (9 - (b + 1))))], [.int (nI 0), .ref 100000, .ref (kR T L mo st.1), .ref 24], N)
        refine Wn.callV (p := 24) (n := 4) (ix := 67) (ci := (4)) (PAx N) [.ref (kR T L mo st.1), .ref 100000, .int (nI 0)] [] rfl rfl rfl rfl (Nat.le_of_ble_eq_true rfl) (Nat.le_of_ble_eq_true rfl) (c_sn_add_D _ N ⟨st.2.1, by omega, by rw [(a2 24 (by decide)).1]; exact S2.1⟩ _ _ (isK_kR _ _ _ _) ⟨by decide, by decide⟩ _) ?_
        rintro _ N2 ⟨rfl, b1, b2⟩
        show Wn _ 190 _ (180, [(4, .ref (kR T L mo st.1)), (0, .ref 24), (1, .ref 77), (2, .ref 3), (3, .int (nI (9 - (b + 1))))], [], N2)
        refine Wn.run (tab := tb_sn_readOne) rfl 1 (c' := (205, [(4, .ref (kR T L mo st.1)), (0, .ref 24), (1, .ref 77), (2, .ref 3), (3, .int (nI (9 - (b + 1))))], [], N2)) (o := []) rfl trivial ?_
        exact Wn.vret rfl ⟨rfl, fr_tr (fr_tr F2 a2 (by decide)) b2 (by decide), RdD_fr b2 (by decide) a1, b1⟩
    · rw [if_pos k3]
      refine Wn.callV (p := 77) (n := 2) (ix := 97) (ci := (3)) (PFl M2 1 (tAt T L mo (tNx T L st.1)) (some (.int (nI 0)))) [.ref 3] [.ref 100000, .ref (kR T L mo st.1), .ref 24] rfl rfl rfl rfl (Nat.le_of_ble_eq_true rfl) (Nat.le_of_ble_eq_true rfl) (c_rd_takePerson_no1 (d + (3 * b + 3)) M2 T L mo (tNx T L st.1) (tAt T L mo st.1) r1 3 σ hL2 h26 ν hN2 (by decide) k3) ?_
      rintro _ N ⟨rfl, a1, a2⟩
      show Wn _ 190 _ (177, [(4, .ref (kR T L mo st.1)), (0, .ref 24), (1, .ref 77), (2, .ref 3), (3, .int (nI (9 - (b + 1))))], [.int (nI 0), .ref 100000, .ref (kR T L mo st.1), .ref 24], N)
      refine Wn.callV (p := 24) (n := 4) (ix := 67) (ci := (4)) (PAx N) [.ref (kR T L mo st.1), .ref 100000, .int (nI 0)] [] rfl rfl rfl rfl (Nat.le_of_ble_eq_true rfl) (Nat.le_of_ble_eq_true rfl) (c_sn_add_D _ N ⟨st.2.1, by omega, by rw [(a2 24 (by decide)).1]; exact S2.1⟩ _ _ (isK_kR _ _ _ _) ⟨by decide, by decide⟩ _) ?_
      rintro _ N2 ⟨rfl, b1, b2⟩
      show Wn _ 190 _ (180, [(4, .ref (kR T L mo st.1)), (0, .ref 24), (1, .ref 77), (2, .ref 3), (3, .int (nI (9 - (b + 1))))], [], N2)
      refine Wn.run (tab := tb_sn_readOne) rfl 1 (c' := (205, [(4, .ref (kR T L mo st.1)), (0, .ref 24), (1, .ref 77), (2, .ref 3), (3, .int (nI (9 - (b + 1))))], [], N2)) (o := []) rfl trivial ?_
      exact Wn.vret rfl ⟨rfl, fr_tr (fr_tr F2 a2 (by decide)) b2 (by decide), RdD_fr b2 (by decide) a1, b1⟩
  rw [if_neg c3, if_neg c3]
  refine Wn.run (tab := tb_sn_readOne) rfl 1 (c' := (184, [(4, .ref (kR T L mo st.1)), (0, .ref 24), (1, .ref 77), (2, .ref 3), (3, .int (nI (9 - (b + 1))))], [.ref 77], M2)) (o := []) rfl trivial ?_
  refine Wn.callS (n := 1) (ix := 101) (PTs M2 T L mo (tNx T L st.1)) [.ref 77] [] rfl rfl rfl (Nat.le_of_ble_eq_true rfl) (Nat.le_of_ble_eq_true rfl) (c_sn_takeSign (d + (3 * b + 3)) M2 T L mo (tNx T L st.1) _ r1) ?_
  rintro _ N ⟨rfl, a2, a3, a4⟩
  show Wn _ 190 _ (187, [(4, .ref (kR T L mo st.1)), (0, .ref 24), (1, .ref 77), (2, .ref 3), (3, .int (nI (9 - (b + 1))))], [.ref (kR T L mo (tNx T L st.1))], N)
  refine Wn.run (tab := tb_sn_readOne) rfl 7 (c' := (199, [(5, .ref (kR T L mo (tNx T L st.1))), (4, .ref (kR T L mo st.1)), (0, .ref 24), (1, .ref 77), (2, .ref 3), (3, .int (nI (9 - (b + 1))))], [.int (nI 999), .int (nI 0), .ref 77, .ref (kR T L mo (tNx T L st.1)), .ref (kR T L mo st.1), .ref 24], N)) (o := []) rfl trivial ?_
  have FN : Fr [24, 25, 26, 27, 77] M N := fr_tr F2 a2 (by decide)
  by_cases c5 : 5 ≤ tKd T L mo (tNx T L st.1) ∧ tKd T L mo (tNx T L st.1) ≤ 7
  · rw [if_neg (fun q => q c5)]
    have a1 := a3 c5
    have ks : kR T L mo (tNx T L st.1) = 100000 + tKd T L mo (tNx T L st.1) := (kR_iff (by omega) (by omega)).mpr rfl
    cases hq : tkN T L mo (tNx T L (tNx T L st.1)) 0 999 with
    | inl e =>
      dsimp only
      refine Wn.callV (p := 77) (n := 3) (ix := 105) (ci := (3)) (PFl N e.1 e.2 (some (.int (nI 0)))) [.int (nI 0), .int (nI 999)] [.ref (kR T L mo (tNx T L st.1)), .ref (kR T L mo st.1), .ref 24] rfl rfl rfl rfl (Nat.le_of_ble_eq_true rfl) (Nat.le_of_ble_eq_true rfl) (c_rd_takeE (d + (3 * b + 3)) N T L mo _ _ a1 0 999 (by omega) (by omega) e hq) ?_
      rintro _ N1 ⟨rfl, e1, e2⟩
      show Wn _ 190 _ (202, [(5, .ref (kR T L mo (tNx T L st.1))), (4, .ref (kR T L mo st.1)), (0, .ref 24), (1, .ref 77), (2, .ref 3), (3, .int (nI (9 - (b + 1))))], [.int (nI 0), .ref (kR T L mo (tNx T L st.1)), .ref (kR T L mo st.1), .ref 24], N1)
      refine Wn.callV (p := 24) (n := 4) (ix := 67) (ci := (4)) (PAx N1) [.ref (kR T L mo st.1), .ref (kR T L mo (tNx T L st.1)), .int (nI 0)] [] rfl rfl rfl rfl (Nat.le_of_ble_eq_true rfl) (Nat.le_of_ble_eq_true rfl) (c_sn_add_D _ N1 ⟨st.2.1, by omega, by rw [(e2 24 (by decide)).1, (a2 24 (by decide)).1]; exact S2.1⟩ _ _ (isK_kR _ _ _ _) (isK_kR _ _ _ _) _) ?_
      rintro _ N2 ⟨rfl, b1, b2⟩
      show Wn _ 190 _ (205, [(5, .ref (kR T L mo (tNx T L st.1))), (4, .ref (kR T L mo st.1)), (0, .ref 24), (1, .ref 77), (2, .ref 3), (3, .int (nI (9 - (b + 1))))], [], N2)
      exact Wn.vret rfl ⟨rfl, fr_tr (fr_tr FN e2 (by decide)) b2 (by decide), RdD_fr b2 (by decide) e1, b1⟩
    | inr v =>
      obtain ⟨xx, p3⟩ := v
      dsimp only
      have bx : 0 ≤ xx ∧ xx ≤ 999 := by obtain ⟨q1, q2, q3⟩ := tkN_inr hq; cases q3; exact q2
      refine Wn.callV (p := 77) (n := 3) (ix := 105) (ci := (3)) (PLv N T L mo p3 (tAt T L mo (tNx T L (tNx T L st.1))) (some (.int (nI xx)))) [.int (nI 0), .int (nI 999)] [.ref (kR T L mo (tNx T L st.1)), .ref (kR T L mo st.1), .ref 24] rfl rfl rfl rfl (Nat.le_of_ble_eq_true rfl) (Nat.le_of_ble_eq_true rfl) (c_rd_takeV (d + (3 * b + 3)) N T L mo _ _ a1 0 999 (by omega) (by omega) (xx, p3) hq) ?_
      rintro _ N1 ⟨rfl, e1, e2⟩
      show Wn _ 190 _ (202, [(5, .ref (kR T L mo (tNx T L st.1))), (4, .ref (kR T L mo st.1)), (0, .ref 24), (1, .ref 77), (2, .ref 3), (3, .int (nI (9 - (b + 1))))], [.int (nI xx), .ref (kR T L mo (tNx T L st.1)), .ref (kR T L mo st.1), .ref 24], N1)
      rw [kre, ks]
      refine Wn.callV (p := 24) (n := 4) (ix := 67) (ci := (4)) (PAn N1 (p3, st.2.1, st.2.2.1 + 1, st.2.2.2).2.1 (100000 + tKd T L mo st.1) (100000 + tKd T L mo (tNx T L st.1)) (nI xx)) [.ref (100000 + tKd T L mo st.1), .ref (100000 + tKd T L mo (tNx T L st.1)), .int (nI xx)] [] rfl rfl rfl rfl (Nat.le_of_ble_eq_true rfl) (Nat.le_of_ble_eq_true rfl) (c_sn_add_ok _ N1 (p3, st.2.1, st.2.2.1 + 1, st.2.2.2).2.1 (SN_fr e2 (by decide) (SN_fr a2 (by decide) S2)).1 (by show st.2.1 < 40; omega) _ _ ⟨by omega, by omega⟩ ⟨by omega, by omega⟩ _) ?_
      intro r0 N2 hA
      have hp9 := fin N1 (p3, st.2.1, st.2.2.1 + 1, st.2.2.2) (tKd T L mo st.1) (tKd T L mo (tNx T L st.1)) xx ⟨_, e1⟩ (SN_fr e2 (by decide) (SN_fr a2 (by decide) S2)) (fr_tr FN e2 (by decide)) r0 N2 hA
      obtain rfl := hA.1
      exact Wn.vret rfl hp9
  · rw [if_pos c5]
    have a1 := a4 c5
    refine Wn.callV (p := 77) (n := 3) (ix := 105) (ci := (3)) (fun r0 M9 => r0 = some (.int (nI 0)) ∧ M9 = N) [.int (nI 0), .int (nI 999)] [.ref (kR T L mo (tNx T L st.1)), .ref (kR T L mo st.1), .ref 24] rfl rfl rfl rfl (Nat.le_of_ble_eq_true rfl) (Nat.le_of_ble_eq_true rfl) (c_rd_takeNumberD _ N _ _ a1 (nI 0) (nI 999)) ?_
    rintro _ M9 ⟨rfl, hsm⟩
    obtain rfl := hsm.symm
    show Wn _ 190 _ (202, [(5, .ref (kR T L mo (tNx T L st.1))), (4, .ref (kR T L mo st.1)), (0, .ref 24), (1, .ref 77), (2, .ref 3), (3, .int (nI (9 - (b + 1))))], [.int (nI 0), .ref (kR T L mo (tNx T L st.1)), .ref (kR T L mo st.1), .ref 24], N)
    refine Wn.callV (p := 24) (n := 4) (ix := 67) (ci := (4)) (PAx N) [.ref (kR T L mo st.1), .ref (kR T L mo (tNx T L st.1)), .int (nI 0)] [] rfl rfl rfl rfl (Nat.le_of_ble_eq_true rfl) (Nat.le_of_ble_eq_true rfl) (c_sn_add_D _ N ⟨st.2.1, by omega, by rw [(a2 24 (by decide)).1]; exact S2.1⟩ _ _ (isK_kR _ _ _ _) (isK_kR _ _ _ _) _) ?_
    rintro _ N2 ⟨rfl, b1, b2⟩
    show Wn _ 190 _ (205, [(5, .ref (kR T L mo (tNx T L st.1))), (4, .ref (kR T L mo st.1)), (0, .ref 24), (1, .ref 77), (2, .ref 3), (3, .int (nI (9 - (b + 1))))], [], N2)
    exact Wn.vret rfl ⟨rfl, fr_tr FN b2 (by decide), RdD_fr b2 (by decide) a1, b1⟩
theorem c_sn_readOne {T : Nat → Nat} {L mo : Nat} {σ : Nat → Nat} {ν : Nat → Int64} (h26 : σ 2 ≤ 6) : ∀ b, b ≤ 8 → CC T L mo σ ν 190 (3 * b + 3) (nI (9 - b)) (oneS T L mo ν (σ 2) b)
  | 0, _ => c_sn_readOne_0
  | b + 1, hb => by
    have h := c_sn_readOne (T := T) (L := L) (mo := mo) (ν := ν) h26 b (by omega)
    have ha := c_sn_readAll (oneS_go b) (by omega) h
    have hs := c_sn_readSome (oneS_go b) (by omega) ha
    exact c_sn_readOne_s b (by omega) h26 h hs
theorem c_sn_readTop {T : Nat → Nat} {L mo : Nat} {σ : Nat → Nat} {ν : Nat → Int64} (h26 : σ 2 ≤ 6) : CC T L mo σ ν 188 29 (nI 1) (someS T L mo (oneS T L mo ν (σ 2) 8)) :=
  c_sn_readSome (oneS_go 8) (by omega) (c_sn_readAll (oneS_go 8) (by omega) (c_sn_readOne h26 8 (by omega)))
