/-! The lines of the class. -/
/-- the class behind the lines of a lake's text -/
def PRl (M0 : Mm) (T : Nat → Nat) (L : Nat) (res : Flt ⊕ (Nat × Dst)) : Po := fun r0 M' => Fr [16, 17, 18, 19, 20, 21, 22, 23, 24, 77, 78] M0 M' ∧ match res with
  | .inl f => (∃ x, r0 = some (.int x)) ∧ RdD M' f.1 f.2
  | .inr (k, st) => r0 = some (.int (nI k)) ∧ (∃ ta, RdL M' T L 900 st.1 ta) ∧ CD M' st.2.1 st.2.2.1 ∧ M'.1 24 3 = nI 0 ∧ M'.1 24 4 = nI 0
theorem CD_0 {M M' : Mm} (h16 : M'.1 16 = (upd (upd (upd (upd (upd (upd (upd (upd (M.1 16) 0 (nI 5)) 1 (nI 5)) 2 (nI 0)) 3 (nI 2)) 4 (nI 1)) 5 (nI 5)) 6 (nI 3)) 7 (nI 6))) (h19 : M'.1 19 = (upd (upd (upd (upd (upd (upd (M.1 19) 5 (nI 0)) 6 (nI 0)) 7 (nI 0)) 8 (nI 0)) 9 (nI 0)) 10 (nI 0))) (h20 : ∀ k, k < 64 → M'.1 20 k = nI ((fun _ => 5 : Nat → Nat) k)) (h23 : ∀ k, k < 6 → M'.1 23 k = nI ((fun _ => 0 : Nat → Nat) k)) (ν : Nat → Int64) : CD M' dl0 ν := by
  refine ⟨fun k hk => ?_, fun q hq => absurd hq (by show ¬ q < 0; omega), fun q hq => absurd hq (by show ¬ q < 0; omega), fun c hc hi => ?_, fun q hq => absurd hq (by show ¬ q < 0; omega), fun q hq => absurd hq (by show ¬ q < 0; omega), fun k h5 h11 => ?_, fun q hq => h23 q hq⟩
  · rw [h16]
    match k, hk with
    | 0, _ => rfl
    | 1, _ => rfl
    | 2, _ => rfl
    | 3, _ => rfl
    | 4, _ => rfl
    | 5, _ => rfl
    | 6, _ => rfl
    | 7, _ => rfl
  · rw [h20 c hc]
    have e : dl0 (8 + c) = 5 := by
      show (if 8 ≤ 8 + c ∧ 8 + c < 8 + 64 then (if (8 + c - 8) % 8 < 5 ∧ (8 + c - 8) / 8 < 5 then 5 else 0) else _) = 5
      rw [if_pos (by omega), show 8 + c - 8 = c by omega]
      exact if_pos hi
    rw [e]
  · rw [h19]
    match k, h5, h11 with
    | 5, _, _ => rfl
    | 6, _, _ => rfl
    | 7, _, _ => rfl
    | 8, _, _ => rfl
    | 9, _, _ => rfl
    | 10, _, _ => rfl
theorem CD_fr {K : List Nat} {M M' : Mm} {δ : Nat → Nat} {ν : Nat → Int64} (hF : Fr K M M') (hp : ∀ x, x ∈ K → ¬ x ∈ [16, 17, 18, 19, 20, 21, 22, 23]) (h : CD M δ ν) : CD M' δ ν := by
  have e : ∀ x, x ∈ [16, 17, 18, 19, 20, 21, 22, 23] → M'.1 x = M.1 x ∧ M'.2.1 x = M.2.1 x ∧ M'.2.2 x = M.2.2 x := fun x hx => hF x (fun q => hp x q hx)
  unfold CD
  rw [(e 16 (by decide)).1, (e 17 (by decide)).2.1, (e 18 (by decide)).1, (e 19 (by decide)).1, (e 20 (by decide)).1, (e 21 (by decide)).1, (e 22 (by decide)).1, (e 23 (by decide)).1]
  exact h
theorem CF_fr {K : List Nat} {M M' : Mm} {δ : Nat → Nat} {o : Nat} {ic : Int64} (hF : Fr K M M') (hp : ¬ 78 ∈ K) (h : CF M δ o ic) : CF M' δ o ic := by
  unfold CF
  rw [(hF 78 hp).1, (hF 78 hp).2.1]
  exact h
theorem sem_le {T : Nat → Nat} {L mo p : Nat} (hT : ∀ k, k < L → T k < 256) (h4 : tKd T L mo p = 4) : tNx T L p ≤ mo := by
  have tc := tKd_cases (mo := mo) (p := p) hT
  have m9 := mn_le L mo
  rcases tc with ⟨_, h1⟩ | ⟨h0, h1 | h1 | h1 | h1⟩
  · omega
  · have e : tNx T L p = sk T L p + 1 := by
      unfold tNx
      have := h1.1
      simp [this]
    omega
  · omega
  · omega
  · omega
def CInv (M : Mm) (T : Nat → Nat) (L k : Nat) (st : Dst) (N : Mm) : Prop := (∃ ta, RdL N T L 900 st.1 ta) ∧ CD N st.2.1 st.2.2.1 ∧ CF N st.2.1 st.2.2.2.1 st.2.2.2.2 ∧ DW st.2.1 ∧ st.2.2.2.1 < 32 ∧ k ≤ st.1 ∧ st.1 ≤ 900 ∧ N.1 24 3 = nI 0 ∧ N.1 24 4 = nI 0 ∧ Fr [16, 17, 18, 19, 20, 21, 22, 23, 24, 77, 78] M N
set_option maxRecDepth 20000 in
theorem c_tl_readLines_44 (d : Nat) (M : Mm) (T : Nat → Nat) (L : Nat) : ∀ (n k : Nat) (st : Dst) (N : Mm), L < st.1 + n → CInv M T L k st N → Wn (d + 6) 228 (PRl M T L (lnS T L 900 n k st)) (44, [(1, .int (nI k)), (0, .ref 78)], [], N) := by
  intro n
  induction n with
  | zero => intro k st N h1 ⟨⟨ta, h2⟩, _⟩; have := h2.2.2.2.2; omega
  | succ n ih =>
    intro k st N hn ⟨⟨ta, hR⟩, hD, hC, hδ, ho5, hkp, hp9, h243, h244, hF⟩
    obtain ⟨p, δ, ν, o, ic⟩ := st
    dsimp only at hR hD hC hδ ho5 hkp hp9 hn
    have hpL := hR.2.2.2.2
    have hT : ∀ k, k < L → T k < 256 := fun k hk => (hR.2.1 k hk).2
    refine Wn.run (tab := tb_tl_readLines) rfl 3 (c' := (if (nI 940) ≤ (nI k) then 91 else 51, [(1, .int (nI k)), (0, .ref 78)], [], N)) (o := []) rfl trivial ?_
    rw [if_neg (mt (n_le rfl rfl (by omega) (by omega)).mp (show ¬ 940 ≤ k by omega))]
    refine Wn.run (tab := tb_tl_readLines) rfl 2 (c' := (55, [(1, .int (nI k)), (0, .ref 78)], [.ref 77], N)) (o := [shp 78 = (0, 6)]) rfl rfl ?_
    refine Wn.callV (p := 77) (n := 1) (ix := 47) (ci := (3)) (fun r0 M0 => r0 = some (.int (nI 0)) ∧ N = M0) [] [] rfl rfl rfl rfl (Nat.le_of_ble_eq_true rfl) (Nat.le_of_ble_eq_true rfl) (w_rd_failedL _ N hR.1.2.2.2.2.1 _ ⟨rfl, rfl⟩) ?_
    rintro _ _ ⟨rfl, rfl⟩
    show Wn _ 228 _ (58, [(1, .int (nI k)), (0, .ref 78)], [.int (nI 0)], N)
    refine Wn.run (tab := tb_tl_readLines) rfl 1 (c' := (if ¬ (nI 0) = 0 then 91 else 61, [(1, .int (nI k)), (0, .ref 78)], [], N)) (o := []) rfl trivial ?_
    rw [if_neg (show ¬ ¬ nI 0 = 0 by decide)]
    refine Wn.run (tab := tb_tl_readLines) rfl 2 (c' := (65, [(1, .int (nI k)), (0, .ref 78)], [.ref 77], N)) (o := [shp 78 = (0, 6)]) rfl rfl ?_
    by_cases hz : tKd T L 900 p = 0
    · have e : lnS T L 900 (n + 1) k (p, δ, ν, o, ic) = .inr (k, (p, δ, ν, o, ic)) := if_pos hz
      rw [e]
      refine Wn.callV (p := 77) (n := 1) (ix := 53) (ci := (3)) (fun r0 M0 => r0 = some (.int (nI 1)) ∧ N = M0) [] [] rfl rfl rfl rfl (Nat.le_of_ble_eq_true rfl) (Nat.le_of_ble_eq_true rfl) (w_rd_atEndT _ N T L 900 p ta hR hz _ ⟨rfl, rfl⟩) ?_
      rintro _ _ ⟨rfl, rfl⟩
      show Wn _ 228 _ (68, [(1, .int (nI k)), (0, .ref 78)], [.int (nI 1)], N)
      refine Wn.run (tab := tb_tl_readLines) rfl 1 (c' := (if ¬ (nI 1) = 0 then 91 else 71, [(1, .int (nI k)), (0, .ref 78)], [], N)) (o := []) rfl trivial ?_
      rw [if_pos (show ¬ nI 1 = 0 by decide)]
      refine Wn.run (tab := tb_tl_readLines) rfl 1 (c' := (92, [(1, .int (nI k)), (0, .ref 78)], [.int (nI k)], N)) (o := []) rfl trivial ?_
      exact Wn.iret rfl ⟨hF, rfl, ⟨ta, hR⟩, hD, h243, h244⟩
    · have e1 : lnS T L 900 (n + 1) k (p, δ, ν, o, ic) = match rdLn T L 900 p δ ν o ic with
        | .inl f => .inl f
        | .inr s2 => if tKd T L 900 s2.1 = 4 then lnS T L 900 n (k + 1) (tNx T L s2.1, s2.2) else .inl (1, tAt T L 900 s2.1) := if_neg hz
      refine Wn.callV (p := 77) (n := 1) (ix := 53) (ci := (3)) (fun r0 M0 => r0 = some (.int (nI 0)) ∧ N = M0) [] [] rfl rfl rfl rfl (Nat.le_of_ble_eq_true rfl) (Nat.le_of_ble_eq_true rfl) (w_rd_atEndF _ N T L 900 p ta hR hz _ ⟨rfl, rfl⟩) ?_
      rintro _ _ ⟨rfl, rfl⟩
      show Wn _ 228 _ (68, [(1, .int (nI k)), (0, .ref 78)], [.int (nI 0)], N)
      refine Wn.run (tab := tb_tl_readLines) rfl 1 (c' := (if ¬ (nI 0) = 0 then 91 else 71, [(1, .int (nI k)), (0, .ref 78)], [], N)) (o := []) rfl trivial ?_
      rw [if_neg (show ¬ ¬ nI 0 = 0 by decide)]
      refine Wn.run (tab := tb_tl_readLines) rfl 1 (c' := (72, [(1, .int (nI k)), (0, .ref 78)], [.ref 78], N)) (o := []) rfl trivial ?_
      refine Wn.callV (p := 78) (n := 1) (ix := 56) (ci := (6)) (PRc N T L 900 (rdLn T L 900 p δ ν o ic)) [] [] rfl rfl rfl rfl (Nat.le_of_ble_eq_true rfl) (Nat.le_of_ble_eq_true rfl) (c_tl_readLine d N T L 900 p ta hR δ ν o ic hD hC hδ ho5) ?_
      rintro _ M1 ⟨rfl, a1, hres⟩
      show Wn _ 228 _ (75, [(1, .int (nI k)), (0, .ref 78)], [], M1)
      refine Wn.run (tab := tb_tl_readLines) rfl 3 (c' := (82, [(1, .int (nI k)), (0, .ref 78)], [.ref 100004, .ref 77], M1)) (o := [shp 78 = (0, 6)]) rfl rfl ?_
      have hF1 : Fr [16, 17, 18, 19, 20, 21, 22, 23, 24, 77, 78] M M1 := fr_tr hF a1 (by decide)
      -- behind a fault: one turn more
      have dead : ∀ (N2 : Mm) (f : Flt), RdD N2 f.1 f.2 → Fr [16, 17, 18, 19, 20, 21, 22, 23, 24, 77, 78] M N2 → Wn (d + 6) 228 (PRl M T L (.inl f)) (85, [(1, .int (nI k)), (0, .ref 78)], [], N2) := by
        intro N2 f hd hF2
        refine Wn.run (tab := tb_tl_readLines) rfl 2 (c' := (44, [(1, .int ((nI k) + (nI 1))), (0, .ref 78)], [], N2)) (o := []) rfl trivial ?_
        rw [nI_add]
        refine Wn.run (tab := tb_tl_readLines) rfl 3 (c' := (if (nI 940) ≤ (nI (k + 1)) then 91 else 51, [(1, .int (nI (k + 1))), (0, .ref 78)], [], N2)) (o := []) rfl trivial ?_
        rw [if_neg (mt (n_le rfl rfl (by omega) (by omega)).mp (show ¬ 940 ≤ k + 1 by omega))]
        refine Wn.run (tab := tb_tl_readLines) rfl 2 (c' := (55, [(1, .int (nI (k + 1))), (0, .ref 78)], [.ref 77], N2)) (o := [shp 78 = (0, 6)]) rfl rfl ?_
        refine Wn.callV (p := 77) (n := 1) (ix := 47) (ci := (3)) (fun r0 M0 => r0 = some (.int (nI 1)) ∧ N2 = M0) [] [] rfl rfl rfl rfl (Nat.le_of_ble_eq_true rfl) (Nat.le_of_ble_eq_true rfl) (w_rd_failedD _ N2 f.1 hd.1 hd.2.2.1 _ ⟨rfl, rfl⟩) ?_
        rintro _ _ ⟨rfl, rfl⟩
        show Wn _ 228 _ (58, [(1, .int (nI (k + 1))), (0, .ref 78)], [.int (nI 1)], N2)
        refine Wn.run (tab := tb_tl_readLines) rfl 1 (c' := (if ¬ (nI 1) = 0 then 91 else 61, [(1, .int (nI (k + 1))), (0, .ref 78)], [], N2)) (o := []) rfl trivial ?_
        rw [if_pos (show ¬ nI 1 = 0 by decide)]
        refine Wn.run (tab := tb_tl_readLines) rfl 1 (c' := (92, [(1, .int (nI (k + 1))), (0, .ref 78)], [.int (nI (k + 1))], N2)) (o := []) rfl trivial ?_
        exact Wn.iret rfl ⟨hF2, ⟨_, rfl⟩, hd⟩
      cases hq : rdLn T L 900 p δ ν o ic with
      | inl f =>
        rw [hq] at hres e1
        rw [e1]
        refine Wn.callV (p := 77) (n := 2) (ix := 65) (ci := (3)) (fun r0 M9 => r0 = none ∧ M9 = M1) [.ref 100004] [] rfl rfl rfl rfl (Nat.le_of_ble_eq_true rfl) (Nat.le_of_ble_eq_true rfl) (c_rd_takeD _ M1 f.1 f.2 hres 100004) ?_
        rintro _ M9 ⟨rfl, hsm⟩
        obtain rfl := hsm.symm
        exact dead M1 f hres hF1
      | inr s2 =>
        rw [hq] at hres e1
        obtain ⟨⟨ta1, r1⟩, r2, r3⟩ := hres
        rw [e1]
        have hok := rdLn_ok hpL hδ.1 ho5 hq
        have hw := rdLn_w hδ hq
        obtain ⟨p2, δ2, ν2, o2, ic2⟩ := s2
        obtain ⟨k1, k2, k3, k4⟩ := hok
        dsimp only at r1 r2 r3 k1 k2 k3 k4 hw ⊢
        by_cases h4 : tKd T L 900 p2 = 4
        · rw [if_pos h4]
          refine Wn.callV (p := 77) (n := 2) (ix := 65) (ci := (3)) (PLv M1 T L 900 (tNx T L p2) (tAt T L 900 p2) none) [.ref 100004] [] rfl rfl rfl rfl (Nat.le_of_ble_eq_true rfl) (Nat.le_of_ble_eq_true rfl) (c_rd_take_ok (d + 3) M1 T L 900 p2 ta1 r1 4 (by decide) h4) ?_
          rintro _ M2 ⟨rfl, b1, b2⟩
          show Wn _ 228 _ (85, [(1, .int (nI k)), (0, .ref 78)], [], M2)
          refine Wn.run (tab := tb_tl_readLines) rfl 2 (c' := (44, [(1, .int ((nI k) + (nI 1))), (0, .ref 78)], [], M2)) (o := []) rfl trivial ?_
          rw [nI_add]
          have tn := tNx_le (T := T) (mo := 900) k1 (by omega) (by omega)
          refine ih (k + 1) (tNx T L p2, δ2, ν2, o2, ic2) M2 (by dsimp only; omega) ⟨⟨_, b1⟩, CD_fr b2 (by decide) r2, CF_fr b2 (by decide) r3, hw, k4, (by dsimp only; omega), sem_le hT h4, ?_, ?_, fr_tr hF1 b2 (by decide)⟩
          · rw [(b2 24 (by decide)).1, (a1 24 (by decide)).1]; exact h243
          · rw [(b2 24 (by decide)).1, (a1 24 (by decide)).1]; exact h244
        · rw [if_neg h4]
          refine Wn.callV (p := 77) (n := 2) (ix := 65) (ci := (3)) (PFl M1 1 (tAt T L 900 p2) none) [.ref 100004] [] rfl rfl rfl rfl (Nat.le_of_ble_eq_true rfl) (Nat.le_of_ble_eq_true rfl) (c_rd_take_no (d + 3) M1 T L 900 p2 ta1 r1 4 (by decide) h4) ?_
          rintro _ M2 ⟨rfl, b1, b2⟩
          show Wn _ 228 _ (85, [(1, .int (nI k)), (0, .ref 78)], [], M2)
          exact dead M2 (1, tAt T L 900 p2) b1 (fr_tr hF1 b2 (by decide))
set_option maxRecDepth 20000 in
theorem c_tl_readLines (d : Nat) (M : Mm) (T : Nat → Nat) (L ta : Nat) (hR : RdL M T L 900 0 ta) : Wn (d + 6) 228 (PRl M T L (lnS T L 900 (L + 1) 0 lk0)) (0, lv_args 0 [.ref 78], [], M) := by
  refine Wn.run (tab := tb_tl_readLines) rfl 2 (c' := (4, [(0, .ref 78)], [.ref 15], M)) (o := [shp 78 = (0, 6)]) rfl rfl ?_
  refine Wn.callV (p := 15) (n := 1) (ix := 19) (ci := (8)) (PSc M) [] [] rfl rfl rfl rfl (Nat.le_of_ble_eq_true rfl) (Nat.le_of_ble_eq_true rfl) (c_sc_setUntold (d + 3) M) ?_
  rintro _ M1 ⟨rfl, s1, s2, s3, s4, s5, s6⟩
  show Wn _ 228 _ (7, [(0, .ref 78)], [], M1)
  refine Wn.run (tab := tb_tl_readLines) rfl 3 (c' := (12, [(0, .ref 78)], [], (mI M1 78 (upd (M1.1 78) 2 (nI 0))))) (o := [shp 78 = (0, 6), is01 (nI 0)]) rfl ⟨rfl, Or.inl rfl⟩ ?_
  generalize hM2 : (mI M1 78 (upd (M1.1 78) 2 (nI 0))) = M2
  refine Wn.run (tab := tb_tl_readLines) rfl 3 (c' := (17, [(0, .ref 78)], [], (mI M2 78 (upd (M2.1 78) 3 (nI 0))))) (o := [shp 78 = (0, 6), is01 (nI 0)]) rfl ⟨rfl, Or.inl rfl⟩ ?_
  generalize hM3 : (mI M2 78 (upd (M2.1 78) 3 (nI 0))) = M3
  refine Wn.run (tab := tb_tl_readLines) rfl 3 (c' := (22, [(0, .ref 78)], [], (mI M3 78 (upd (M3.1 78) 4 (nI 0))))) (o := [shp 78 = (0, 6), is01 (nI 0)]) rfl ⟨rfl, Or.inl rfl⟩ ?_
  generalize hM4 : (mI M3 78 (upd (M3.1 78) 4 (nI 0))) = M4
  refine Wn.run (tab := tb_tl_readLines) rfl 3 (c' := (27, [(0, .ref 78)], [], (mI M4 78 (upd (M4.1 78) 5 (nI 0))))) (o := [shp 78 = (0, 6), is01 (nI 0)]) rfl ⟨rfl, Or.inl rfl⟩ ?_
  generalize hM5 : (mI M4 78 (upd (M4.1 78) 5 (nI 0))) = M5
  refine Wn.run (tab := tb_tl_readLines) rfl 3 (c' := (32, [(0, .ref 78)], [], (mI M5 78 (upd (M5.1 78) 6 (nI 0))))) (o := [shp 78 = (0, 6), is01 (nI 0)]) rfl ⟨rfl, Or.inl rfl⟩ ?_
  generalize hM6 : (mI M5 78 (upd (M5.1 78) 6 (nI 0))) = M6
  refine Wn.run (tab := tb_tl_readLines) rfl 3 (c' := (37, [(0, .ref 78)], [], (mI M6 78 (upd (M6.1 78) 7 (nI 0))))) (o := [shp 78 = (0, 6), is01 (nI 0)]) rfl ⟨rfl, Or.inl rfl⟩ ?_
  generalize hM7 : (mI M6 78 (upd (M6.1 78) 7 (nI 0))) = M7
  refine Wn.run (tab := tb_tl_readLines) rfl 3 (c' := (42, [(0, .ref 78)], [], (mJ M7 78 (vp_updL (M7.2.1 78) 8 (0 : Int64))))) (o := [shp 78 = (0, 6)]) rfl rfl ?_
  generalize hM8 : (mJ M7 78 (vp_updL (M7.2.1 78) 8 (0 : Int64))) = M8
  refine Wn.run (tab := tb_tl_readLines) rfl 2 (c' := (44, [(1, .int (nI 0)), (0, .ref 78)], [], M8)) (o := []) rfl trivial ?_
  have e78 : M8.1 78 = upd (upd (upd (upd (upd (upd (M1.1 78) 2 (nI 0)) 3 (nI 0)) 4 (nI 0)) 5 (nI 0)) 6 (nI 0)) 7 (nI 0) := by
    have e : M8.1 = M7.1 := by rw [← hM8]; rfl
    rw [e, mI_eq hM7, mI_eq hM6, mI_eq hM5, mI_eq hM4, mI_eq hM3, mI_eq hM2]
  have f8 : Fr [78] M1 M8 := fr_tr (fr_tr (fr_tr (fr_tr (fr_tr (fr_tr (fr_1I hM2) (fr_1I hM3) (by decide)) (fr_1I hM4) (by decide)) (fr_1I hM5) (by decide)) (fr_1I hM6) (by decide)) (fr_1I hM7) (by decide)) (fr_1J hM8) (by decide)
  refine c_tl_readLines_44 d M T L (L + 1) 0 lk0 M8 (by show L < 0 + (L + 1); omega) ⟨⟨ta, RdL_fr f8 (by decide) (RdL_fr s6 (by decide) hR)⟩, CD_fr f8 (by decide) (CD_0 s1 s2 s4 s5 _), ?_, DW_0, (by decide), Nat.le_refl 0, (by decide), ?_, ?_, fr_tr (fr_up s6 (by decide)) f8 (by decide)⟩
  · unfold CF
    rw [e78, mJ_eq hM8]
    exact ⟨(b2_f (by decide)).symm, (b2_f (by decide)).symm, (b2_f (by decide)).symm, (b2_f (by decide)).symm, (b2_f (by decide)).symm, (b2_f (by decide)).symm, pk_uLs⟩
  · rw [(f8 24 (by decide)).1, s3, pk_un (by decide), pk_us]
  · rw [(f8 24 (by decide)).1, s3, pk_us]
