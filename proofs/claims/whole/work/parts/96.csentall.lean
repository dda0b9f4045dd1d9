/-! The class's sentence. -/
def PSm (M0 : Mm) (a b n : Nat) (A S N : Nat → Nat) : Po := fun r0 M' => r0 = none ∧ SnC M' a n A S N ∧ M'.1 a 4 = M0.1 b 4 ∧ Fr [a, a + 1, a + 2, a + 3] M0 M'
/-- the sentence of a text -/
def sn0 : Sst := (0, 0, 0, fun _ => 0, fun _ => 0, fun _ => 0)
def senS (T : Nat → Nat) (L mo : Nat) (ν : Nat → Int64) (np : Nat) : Flt ⊕ Sst := match someS T L mo (oneS T L mo ν np 8) sn0 with
  | .inl e => .inl e
  | .inr st => if tKd T L mo st.1 = 0 then .inr st else .inl (1, tAt T L mo st.1)
theorem senS_go {T : Nat → Nat} {L mo : Nat} {ν : Nat → Int64} {np : Nat} {st : Sst} (h : senS T L mo ν np = .inr st) : SGo L np 1 sn0 st := by
  unfold senS at h
  cases hq : someS T L mo (oneS T L mo ν np 8) sn0 with
  | inl e => rw [hq] at h; cases h
  | inr s2 =>
    rw [hq] at h; dsimp only at h
    by_cases c : tKd T L mo s2.1 = 0
    · rw [if_pos c] at h; cases h
      exact someS_go (oneS_go 8) _ _ (Nat.zero_le _) hq
    · rw [if_neg c] at h; cases h
theorem vlS_lt {np a s u : Nat} (h : vlS np a s u) : a < 36 ∧ s < 36 := by unfold vlS at h; omega
set_option maxRecDepth 20000 in
theorem c_sn_copyFrom4_11_24 (d : Nat) (M : Mm) (n : Nat) (A S U : Nat → Nat) (hS : SnC M 24 n A S U) : Wn (d + 0) 186 (PSm M 11 24 n A S U) (0, lv_args 0 [.ref 11, .ref 24], [], M) := by
  have hF := fr_rf [11, 12, 13, 14] M
  obtain ⟨ga, ha⟩ : ∃ g, M.1 11 = g := ⟨_, rfl⟩
  obtain ⟨gb, hb⟩ : ∃ g, M.1 24 = g := ⟨_, rfl⟩
  obtain ⟨pa, ha1⟩ : ∃ g, M.2.2 12 = g := ⟨_, rfl⟩
  obtain ⟨pb, hb1⟩ : ∃ g, M.2.2 25 = g := ⟨_, rfl⟩
  obtain ⟨sa, ha2⟩ : ∃ g, M.2.2 13 = g := ⟨_, rfl⟩
  obtain ⟨sb, hb2⟩ : ∃ g, M.2.2 26 = g := ⟨_, rfl⟩
  obtain ⟨na, ha3⟩ : ∃ g, M.1 14 = g := ⟨_, rfl⟩
  obtain ⟨nb, hb3⟩ : ∃ g, M.1 27 = g := ⟨_, rfl⟩
  have h3 : gb 3 = nI n := by rw [← hb]; exact hS.1
  have h40 := hS.2.1
  have hIK25 : ∀ i, i < n → isK (pb i) := fun i hi => by have q := hS.2.2 i hi; rw [show M.2.2 (24 + 1) = pb from hb1] at q; rw [q.1]; exact ⟨by omega, by omega⟩
  have hIK26 : ∀ i, i < n → isK (sb i) := fun i hi => by have q := hS.2.2 i hi; rw [show M.2.2 (24 + 2) = sb from hb2] at q; rw [q.2.1]; exact ⟨by omega, by omega⟩
  refine Wn.run (tab := tb_sn_copyFrom) rfl 4 (c' := (8, [(0, .ref 11), (1, .ref 24)], [], (mI M 11 (upd (M.1 11) 3 (M.1 24 3))))) (o := [shp 24 = (0, 4), shp 11 = (0, 4)]) rfl ⟨rfl, rfl⟩ ?_
  rw [show (M.1 24 3) = (nI n) from (fr_eq hb (show gb 3 = (nI n) from h3))]
  generalize hM2 : (mI M 11 (upd (M.1 11) 3 (nI n))) = M1
  have hk3 := fI_up hM2 ha
  have hk4 := fI_ne hM2 (by decide) hb
  have hk5 := fR_oI hM2 ha1
  have hk6 := fR_oI hM2 hb1
  have hk7 := fR_oI hM2 ha2
  have hk8 := fR_oI hM2 hb2
  have hk9 := fI_ne hM2 (by decide) ha3
  have hk10 := fI_ne hM2 (by decide) hb3
  have hF11 := fr_sI hF hM2 (by decide)
  show Wn _ 186 _ (8, [(0, .ref 11), (1, .ref 24)], [], M1)
  refine Wn.run (tab := tb_sn_copyFrom) rfl 4 (c' := (16, [(0, .ref 11), (1, .ref 24)], [], (mI M1 11 (upd (M1.1 11) 4 (M1.1 24 4))))) (o := [shp 24 = (0, 4), shp 11 = (0, 4)]) rfl ⟨rfl, rfl⟩ ?_
  rw [show (M1.1 24 4) = (gb 4) from (fr_eq hk4 (show gb 4 = (gb 4) from rfl))]
  generalize hM13 : (mI M1 11 (upd (M1.1 11) 4 (gb 4))) = M12
  have hk14 := fI_up hM13 hk3
  have hk15 := fI_ne hM13 (by decide) hk4
  have hk16 := fR_oI hM13 hk5
  have hk17 := fR_oI hM13 hk6
  have hk18 := fR_oI hM13 hk7
  have hk19 := fR_oI hM13 hk8
  have hk20 := fI_ne hM13 (by decide) hk9
  have hk21 := fI_ne hM13 (by decide) hk10
  have hF22 := fr_sI hF11 hM13 (by decide)
  show Wn _ 186 _ (16, [(0, .ref 11), (1, .ref 24)], [], M12)
  refine Wn.run (tab := tb_sn_copyFrom) rfl 2 (c' := (18, [(2, .int (nI 0)), (0, .ref 11), (1, .ref 24)], [], M12)) (o := []) rfl trivial ?_
  have loop : ∀ (m z : Nat) (N : Mm), n - z = m → z ≤ n → (N.1 11 = (upd (upd ga 3 (nI n)) 4 (gb 4))) → (N.1 24 = gb) → (N.2.2 12 = (cpG pa pb z)) → (N.2.2 25 = pb) → (N.2.2 13 = (cpG sa sb z)) → (N.2.2 26 = sb) → (N.1 14 = (cpG na nb z)) → (N.1 27 = nb) → (Fr [11, 12, 13, 14] M N) → Wn (d + 0) 186 (PSm M 11 24 n A S U) (18, [(2, .int (nI z)), (0, .ref 11), (1, .ref 24)], [], N) := by
    intro m
    induction m using Nat.strongRecOn with
    | _ m ih =>
      intro z N hm hz loop_0 loop_1 loop_2 loop_3 loop_4 loop_5 loop_6 loop_7 loop_8
      refine Wn.run (tab := tb_sn_copyFrom) rfl 4 (c' := (if (N.1 11 3) ≤ (nI z) then 68 else 26, [(2, .int (nI z)), (0, .ref 11), (1, .ref 24)], [], N)) (o := [shp 11 = (0, 4)]) rfl rfl ?_
      refine Wn.br (fun h1 => ?_) (fun h1 => ?_)
      · show Wn _ 186 _ (68, [(2, .int (nI z)), (0, .ref 11), (1, .ref 24)], [], N)
        have h1 := (n_le (fr_eq loop_0 (show (upd (upd ga 3 (nI n)) 4 (gb 4)) 3 = (nI n) from rfl)) rfl (by omega) (by omega)).mp h1
        have e9 : z = n := by omega
        subst e9
        refine Wn.vret rfl ⟨rfl, ⟨by rw [loop_0]; rfl, hS.2.1, fun i hi => ?_⟩, by rw [loop_0, hb]; rfl, loop_8⟩
        have hi3 := hS.2.2 i hi
        rw [show M.2.2 (24 + 1) = pb from hb1, show M.2.2 (24 + 2) = sb from hb2, show M.1 (24 + 3) = nb from hb3] at hi3
        rw [show N.2.2 (11 + 1) = _ from loop_2, show N.2.2 (11 + 2) = _ from loop_4, show N.1 (11 + 3) = _ from loop_6, cpG_at hi, cpG_at hi, cpG_at hi]
        exact hi3
      · show Wn _ 186 _ (26, [(2, .int (nI z)), (0, .ref 11), (1, .ref 24)], [], N)
        have h1 := mt (n_le (fr_eq loop_0 (show (upd (upd ga 3 (nI n)) 4 (gb 4)) 3 = (nI n) from rfl)) rfl (by omega) (by omega)).mpr h1
        refine Wn.run (tab := tb_sn_copyFrom) rfl 8 (c' := (38, [(2, .int (nI z)), (0, .ref 11), (1, .ref 24)], [], (mR N 12 (va_up (N.2.2 12) ((nI z)).toNatClampNeg (N.2.2 25 ((nI z)).toNatClampNeg))))) (o := [shp 11 = (0, 4), shp 24 = (0, 4), aok shp 25 4 (nI z), aok shp 12 4 (nI z), isK (N.2.2 25 ((nI z)).toNatClampNeg)]) rfl ⟨rfl, rfl, (ak1 (n := 40) rfl rfl rfl (by omega)), (ak1 (n := 40) rfl rfl rfl (by omega)), (by rw [nI_clamp (by omega), loop_3]; exact hIK25 z (by omega))⟩ ?_
        rw [show (N.2.2 25 ((nI z)).toNatClampNeg) = (pb z) from (fr_rdxR loop_3 rfl (by omega))]
        generalize hM24 : (mR N 12 (va_up (N.2.2 12) ((nI z)).toNatClampNeg (pb z))) = M23
        have hk25 := fI_oR hM24 loop_0
        have hk26 := fI_oR hM24 loop_1
        have hk27 := fR_upx hM24 loop_2 (cl1 rfl (by omega))
        have hk28 := fR_ne hM24 (by decide) loop_3
        have hk29 := fR_ne hM24 (by decide) loop_4
        have hk30 := fR_ne hM24 (by decide) loop_5
        have hk31 := fI_oR hM24 loop_6
        have hk32 := fI_oR hM24 loop_7
        have hF33 := fr_sR loop_8 hM24 (by decide)
        show Wn _ 186 _ (38, [(2, .int (nI z)), (0, .ref 11), (1, .ref 24)], [], M23)
        refine Wn.run (tab := tb_sn_copyFrom) rfl 8 (c' := (50, [(2, .int (nI z)), (0, .ref 11), (1, .ref 24)], [], (mR M23 13 (va_up (M23.2.2 13) ((nI z)).toNatClampNeg (M23.2.2 26 ((nI z)).toNatClampNeg))))) (o := [shp 11 = (0, 4), shp 24 = (0, 4), aok shp 26 4 (nI z), aok shp 13 4 (nI z), isK (M23.2.2 26 ((nI z)).toNatClampNeg)]) rfl ⟨rfl, rfl, (ak1 (n := 40) rfl rfl rfl (by omega)), (ak1 (n := 40) rfl rfl rfl (by omega)), (by rw [nI_clamp (by omega), hk30]; exact hIK26 z (by omega))⟩ ?_
        rw [show (M23.2.2 26 ((nI z)).toNatClampNeg) = (sb z) from (fr_rdxR hk30 rfl (by omega))]
        generalize hM35 : (mR M23 13 (va_up (M23.2.2 13) ((nI z)).toNatClampNeg (sb z))) = M34
        have hk36 := fI_oR hM35 hk25
        have hk37 := fI_oR hM35 hk26
        have hk38 := fR_ne hM35 (by decide) hk27
        have hk39 := fR_ne hM35 (by decide) hk28
        have hk40 := fR_upx hM35 hk29 (cl1 rfl (by omega))
        have hk41 := fR_ne hM35 (by decide) hk30
        have hk42 := fI_oR hM35 hk31
        have hk43 := fI_oR hM35 hk32
        have hF44 := fr_sR hF33 hM35 (by decide)
        show Wn _ 186 _ (50, [(2, .int (nI z)), (0, .ref 11), (1, .ref 24)], [], M34)
        refine Wn.run (tab := tb_sn_copyFrom) rfl 8 (c' := (62, [(2, .int (nI z)), (0, .ref 11), (1, .ref 24)], [], (mI M34 14 (upd (M34.1 14) ((nI z)).toNatClampNeg (M34.1 27 ((nI z)).toNatClampNeg))))) (o := [shp 11 = (0, 4), shp 24 = (0, 4), aok shp 27 0 (nI z), aok shp 14 0 (nI z)]) rfl ⟨rfl, rfl, (ak1 (n := 40) rfl rfl rfl (by omega)), (ak1 (n := 40) rfl rfl rfl (by omega))⟩ ?_
        rw [show (M34.1 27 ((nI z)).toNatClampNeg) = (nb z) from (fr_rdx hk43 rfl (by omega))]
        generalize hM46 : (mI M34 14 (upd (M34.1 14) ((nI z)).toNatClampNeg (nb z))) = M45
        have hk47 := fI_ne hM46 (by decide) hk36
        have hk48 := fI_ne hM46 (by decide) hk37
        have hk49 := fR_oI hM46 hk38
        have hk50 := fR_oI hM46 hk39
        have hk51 := fR_oI hM46 hk40
        have hk52 := fR_oI hM46 hk41
        have hk53 := fI_upx hM46 hk42 (cl1 rfl (by omega))
        have hk54 := fI_ne hM46 (by decide) hk43
        have hF55 := fr_sI hF44 hM46 (by decide)
        show Wn _ 186 _ (62, [(2, .int (nI z)), (0, .ref 11), (1, .ref 24)], [], M45)
        refine Wn.run (tab := tb_sn_copyFrom) rfl 2 (c' := (18, [(2, .int ((nI z) + (nI 1))), (0, .ref 11), (1, .ref 24)], [], M45)) (o := []) rfl trivial ?_
        rw [show ((nI z) + (nI 1)) = (nI (z + 1)) from (n_add rfl rfl)]
        exact ih (n - (z + 1)) (by omega) (z + 1) M45 rfl (by omega) hk47 hk48 (by rw [← cpR_s]; exact hk49) hk50 (by rw [← cpR_s]; exact hk51) hk52 (by rw [← cpI_s]; exact hk53) hk54 hF55
  exact loop (n - 0) 0 M12 rfl (by omega) hk14 hk15 (by rw [cpG_0]; exact hk16) hk17 (by rw [cpG_0]; exact hk18) hk19 (by rw [cpG_0]; exact hk20) hk21 hF22
theorem c_rd_atEndD (d : Nat) (M : Mm) (fk fp : Nat) (hd : RdD M fk fp) : Wn (d + 0) 172 (fun r0 M9 => (r0 = some (.int (nI 0)) ∨ r0 = some (.int (nI 1))) ∧ M9 = M) (0, lv_args 0 [.ref 77], [], M) := by
  have z : Wn (d + 0) 172 (fun r0 M9 => (r0 = some (.int (nI 0)) ∨ r0 = some (.int (nI 1))) ∧ M9 = M) (25, [(0, .ref 77)], [], M) := by
    refine Wn.run (tab := tb_rd_atEnd) rfl 1 (c' := (26, [(0, .ref 77)], [.int (nI 0)], M)) (o := []) rfl trivial ?_
    exact Wn.zret rfl (Or.inl rfl) ⟨Or.inl rfl, rfl⟩
  refine Wn.run (tab := tb_rd_atEnd) rfl 4 (c' := (if ((M.2.2 77 10) = 100000) = (false = true) then 25 else 10, [(0, .ref 77)], [], M)) (o := [shp 77 = (0, 3), isK (M.2.2 77 10), isK 100000]) rfl ⟨rfl, hd.2.2.2, ⟨by decide, by decide⟩⟩ ?_
  refine Wn.br (fun _ => z) (fun _ => ?_)
  refine Wn.run (tab := tb_rd_atEnd) rfl 5 (c' := (if (M.1 77 2) < (M.1 77 1) then 25 else 21, [(0, .ref 77)], [], M)) (o := [shp 77 = (0, 3), shp 77 = (0, 3)]) rfl ⟨rfl, rfl⟩ ?_
  refine Wn.br (fun _ => z) (fun _ => ?_)
  refine Wn.run (tab := tb_rd_atEnd) rfl 2 (c' := (26, [(0, .ref 77)], [.int (nI 1)], M)) (o := []) rfl trivial ?_
  exact Wn.zret rfl (Or.inr rfl) ⟨Or.inr rfl, rfl⟩
set_option maxRecDepth 20000 in
theorem c_sn_read (d : Nat) (M : Mm) (T : Nat → Nat) (L mo ta : Nat) (hR : RdL M T L mo 0 ta) (σ : Nat → Nat) (h26 : σ 2 ≤ 6) (hL : LkC M 3 σ) (ν : Nat → Int64) (hN : NmC M 3 ν (σ 2)) : Wn (d + 30) 187 (PSo M T L mo (senS T L mo ν (σ 2))) (0, lv_args 0 [.ref 24, .ref 77, .ref 3], [], M) := by
  refine Wn.run (tab := tb_sn_read) rfl 1 (c' := (1, [(0, .ref 24), (1, .ref 77), (2, .ref 3)], [.ref 24], M)) (o := []) rfl trivial ?_
  refine Wn.callV (p := 24) (n := 1) (ix := 35) (ci := (4)) (PU M 24 (upd (upd (M.1 24) 3 (nI 0)) 4 (nI 0))) [] [] rfl rfl rfl rfl (Nat.le_of_ble_eq_true rfl) (Nat.le_of_ble_eq_true rfl) (c_sn_clear_24 _ M _ rfl) ?_
  rintro _ M1 ⟨rfl, c1, c2, c3⟩
  show Wn _ 187 _ (4, [(0, .ref 24), (1, .ref 77), (2, .ref 3)], [], M1)
  refine Wn.run (tab := tb_sn_read) rfl 4 (c' := (8, [(0, .ref 24), (1, .ref 77), (2, .ref 3)], [.int (nI 1), .ref 3, .ref 77, .ref 24], M1)) (o := []) rfl trivial ?_
  have F1 : Fr [24, 25, 26, 27, 77] M M1 := fr_up c3 (by decide)
  refine Wn.callV (p := 24) (n := 4) (ix := 38) (ci := (4)) (PSo M1 T L mo (someS T L mo (oneS T L mo ν (σ 2) 8) sn0)) [.ref 77, .ref 3, .int (nI 1)] [] rfl rfl rfl rfl (Nat.le_of_ble_eq_true rfl) (Nat.le_of_ble_eq_true rfl) (c_sn_readTop h26 d M1 sn0 ta (RdL_fr c3 (by decide) hR) ⟨by rw [c1]; rfl, by rw [c1]; rfl, fun i hi => absurd hi (by show ¬ i < 0; omega)⟩ (by decide) (by decide) (lk_3 c3 (by decide) hL) (NmC_fr c3 (by decide) hN)) ?_
  rintro _ N ⟨rfl, a1, hres⟩
  show Wn _ 187 _ (11, [(0, .ref 24), (1, .ref 77), (2, .ref 3)], [], N)
  refine Wn.run (tab := tb_sn_read) rfl 1 (c' := (12, [(0, .ref 24), (1, .ref 77), (2, .ref 3)], [.ref 77], N)) (o := []) rfl trivial ?_
  have FN : Fr [24, 25, 26, 27, 77] M N := fr_tr F1 a1 (by decide)
  unfold senS
  cases hq : someS T L mo (oneS T L mo ν (σ 2) 8) sn0 with
  | inl e =>
    rw [hq] at hres
    have z : Wn (d + 30) 187 (PSo M T L mo (.inl e)) (23, [(0, .ref 24), (1, .ref 77), (2, .ref 3)], [], N) := Wn.vret rfl ⟨rfl, FN, hres.1, hres.2⟩
    refine Wn.callV (p := 77) (n := 1) (ix := 42) (ci := (3)) (fun r0 M9 => (r0 = some (.int (nI 0)) ∨ r0 = some (.int (nI 1))) ∧ M9 = N) [] [] rfl rfl rfl rfl (Nat.le_of_ble_eq_true rfl) (Nat.le_of_ble_eq_true rfl) (c_rd_atEndD _ N _ _ hres.1) ?_
    rintro r0 M9 ⟨hr, hsm⟩
    obtain rfl := hsm.symm
    rcases hr with rfl | rfl
    · show Wn _ 187 _ (15, [(0, .ref 24), (1, .ref 77), (2, .ref 3)], [.int (nI 0)], N)
      refine Wn.run (tab := tb_sn_read) rfl 1 (c' := (if ¬ (nI 0) = 0 then 23 else 18, [(0, .ref 24), (1, .ref 77), (2, .ref 3)], [], N)) (o := []) rfl trivial ?_
      rw [if_neg (show ¬ ¬ nI 0 = 0 by decide)]
      refine Wn.run (tab := tb_sn_read) rfl 2 (c' := (20, [(0, .ref 24), (1, .ref 77), (2, .ref 3)], [.int (nI 1), .ref 77], N)) (o := []) rfl trivial ?_
      refine Wn.callV (p := 77) (n := 2) (ix := 48) (ci := (3)) (fun r0 M9 => r0 = none ∧ M9 = N) [.int (nI 1)] [] rfl rfl rfl rfl (Nat.le_of_ble_eq_true rfl) (Nat.le_of_ble_eq_true rfl) (c_rd_failD (d + 28) N _ _ hres.1 (nI 1)) ?_
      rintro _ M9 ⟨rfl, hsm⟩
      obtain rfl := hsm.symm
      exact z
    · show Wn _ 187 _ (15, [(0, .ref 24), (1, .ref 77), (2, .ref 3)], [.int (nI 1)], N)
      refine Wn.run (tab := tb_sn_read) rfl 1 (c' := (if ¬ (nI 1) = 0 then 23 else 18, [(0, .ref 24), (1, .ref 77), (2, .ref 3)], [], N)) (o := []) rfl trivial ?_
      rw [if_pos (show ¬ nI 1 = 0 by decide)]
      exact z
  | inr st =>
    rw [hq] at hres
    obtain ⟨⟨ta2, r3⟩, r4⟩ := hres
    dsimp only
    obtain ⟨_, ⟨g1, g2⟩, ⟨_, g3⟩, _⟩ := someS_go (oneS_go 8) _ _ (Nat.zero_le L) hq
    have g3 : st.2.1 + 1 ≤ 0 + 2 * (st.2.2.1 - 0) := g3
    by_cases c : tKd T L mo st.1 = 0
    · rw [if_pos c]
      refine Wn.callV (p := 77) (n := 1) (ix := 42) (ci := (3)) (fun r0 M0 => r0 = some (.int (nI 1)) ∧ N = M0) [] [] rfl rfl rfl rfl (Nat.le_of_ble_eq_true rfl) (Nat.le_of_ble_eq_true rfl) (w_rd_atEndT _ N T L mo st.1 ta2 r3 c _ ⟨rfl, rfl⟩) ?_
      rintro _ _ ⟨rfl, rfl⟩
      show Wn _ 187 _ (15, [(0, .ref 24), (1, .ref 77), (2, .ref 3)], [.int (nI 1)], N)
      refine Wn.run (tab := tb_sn_read) rfl 1 (c' := (if ¬ (nI 1) = 0 then 23 else 18, [(0, .ref 24), (1, .ref 77), (2, .ref 3)], [], N)) (o := []) rfl trivial ?_
      rw [if_pos (show ¬ nI 1 = 0 by decide)]
      exact Wn.vret rfl ⟨rfl, FN, ⟨ta2, r3⟩, r4⟩
    · rw [if_neg c]
      refine Wn.callV (p := 77) (n := 1) (ix := 42) (ci := (3)) (fun r0 M0 => r0 = some (.int (nI 0)) ∧ N = M0) [] [] rfl rfl rfl rfl (Nat.le_of_ble_eq_true rfl) (Nat.le_of_ble_eq_true rfl) (w_rd_atEndF _ N T L mo st.1 ta2 r3 c _ ⟨rfl, rfl⟩) ?_
      rintro _ _ ⟨rfl, rfl⟩
      show Wn _ 187 _ (15, [(0, .ref 24), (1, .ref 77), (2, .ref 3)], [.int (nI 0)], N)
      refine Wn.run (tab := tb_sn_read) rfl 1 (c' := (if ¬ (nI 0) = 0 then 23 else 18, [(0, .ref 24), (1, .ref 77), (2, .ref 3)], [], N)) (o := []) rfl trivial ?_
      rw [if_neg (show ¬ ¬ nI 0 = 0 by decide)]
      refine Wn.run (tab := tb_sn_read) rfl 2 (c' := (20, [(0, .ref 24), (1, .ref 77), (2, .ref 3)], [.int (nI 1), .ref 77], N)) (o := []) rfl trivial ?_
      refine Wn.callV (p := 77) (n := 2) (ix := 48) (ci := (3)) (PFl N 1 (tAt T L mo st.1) none) [.int (nI 1)] [] rfl rfl rfl rfl (Nat.le_of_ble_eq_true rfl) (Nat.le_of_ble_eq_true rfl) (c_rd_fail (d + 28) N T L mo st.1 ta2 r3.1 1 (by omega)) ?_
      rintro _ N2 ⟨rfl, b1, b2⟩
      exact Wn.vret rfl ⟨rfl, fr_tr FN b2 (by decide), b1, ⟨st.2.1, by omega, by rw [(b2 24 (by decide)).1]; exact r4.1⟩⟩
def PIS (M0 : Mm) (res : Flt ⊕ Sst) : Po := fun r0 M' => M'.1 0 1 = nI 0 ∧ Gx [1, 15] (M0.1 0) (M'.1 0) ∧ match res with
  | .inl f => r0 = some (.int ((-1 : Int32) - nI f.2)) ∧ M'.1 0 15 = nI f.1 ∧ Fr [0, 24, 25, 26, 27, 77] M0 M'
  | .inr st => r0 = some (.int (nI st.2.2.1)) ∧ M'.1 0 15 = nI 0 ∧ SnC M' 11 st.2.1 st.2.2.2.1 st.2.2.2.2.1 st.2.2.2.2.2 ∧ Fr [0, 11, 12, 13, 14, 24, 25, 26, 27, 77] M0 M'
set_option maxRecDepth 20000 in
theorem c_i_sentence (d : Nat) (M : Mm) (T : Nat → Nat) (L : Nat) (hL : M.1 0 1 = nI L) (hT : TB (M.1 1) T L) (hL9 : L ≤ 940) (σ : Nat → Nat) (h26 : σ 2 ≤ 6) (hK : LkC M 3 σ) (ν : Nat → Int64) (hN : NmC M 3 ν (σ 2)) : Wn (d + 31) 36 (PIS M (senS T L 200 ν (σ 2))) (0, lv_args 0 [.ref 0], [], M) := by
  refine Wn.run (tab := tb_i_sentence) rfl 2 (c' := (4, [(0, .ref 0)], [.int (nI 200), .ref 0], M)) (o := []) rfl trivial ?_
  refine Wn.callV (p := 0) (n := 2) (ix := 104) (ci := (9)) (POT M T L 200) [.int (nI 200)] [] rfl rfl rfl rfl (Nat.le_of_ble_eq_true rfl) (Nat.le_of_ble_eq_true rfl) (c_i_openTape (d + 27) M T L 200 hL hT hL9 (by decide)) ?_
  rintro _ M1 ⟨rfl, o1, o2, o3, o4⟩
  show Wn _ 36 _ (7, [(0, .ref 0)], [], M1)
  refine Wn.run (tab := tb_i_sentence) rfl 8 (c' := (25, [(0, .ref 0)], [.ref 3, .ref 77, .ref 24], M1)) (o := [shp 0 = (0, 9), shp 15 = (0, 8), shp 0 = (0, 9), shp 0 = (0, 9), shp 2 = (0, 8)]) rfl ⟨rfl, rfl, rfl, rfl, rfl⟩ ?_
  refine Wn.callV (p := 24) (n := 3) (ix := 396) (ci := (4)) (PSo M1 T L 200 (senS T L 200 ν (σ 2))) [.ref 77, .ref 3] [] rfl rfl rfl rfl (Nat.le_of_ble_eq_true rfl) (Nat.le_of_ble_eq_true rfl) (c_sn_read d M1 T L 200 0 o1 σ h26 (lk_3 o4 (by decide) hK) ν (NmC_fr o4 (by decide) hN)) ?_
  rintro _ M2 ⟨rfl, a1, hres⟩
  show Wn _ 36 _ (28, [(0, .ref 0)], [], M2)
  refine Wn.run (tab := tb_i_sentence) rfl 5 (c' := (39, [(0, .ref 0)], [], (mI M2 0 (upd (M2.1 0) 15 (M2.1 77 11))))) (o := [shp 0 = (0, 9), shp 77 = (0, 3), shp 0 = (0, 9)]) rfl ⟨rfl, rfl, rfl⟩ ?_
  cases hq : senS T L 200 ν (σ 2) with
  | inl f =>
    rw [hq] at hres
    rw [hres.1.1]
    generalize hM3 : (mI M2 0 (upd (M2.1 0) 15 (nI f.1))) = M3
    have hd := RdD_fr (fr_1I hM3) (by decide) hres.1
    refine Wn.run (tab := tb_i_sentence) rfl 2 (c' := (43, [(0, .ref 0)], [.ref 77], M3)) (o := [shp 0 = (0, 9)]) rfl rfl ?_
    refine Wn.callV (p := 77) (n := 1) (ix := 115) (ci := (3)) (fun r0 M0 => r0 = some (.int (nI 1)) ∧ M3 = M0) [] [] rfl rfl rfl rfl (Nat.le_of_ble_eq_true rfl) (Nat.le_of_ble_eq_true rfl) (w_rd_failedD _ M3 f.1 hd.1 hd.2.2.1 _ ⟨rfl, rfl⟩) ?_
    rintro _ _ ⟨rfl, rfl⟩
    show Wn _ 36 _ (46, [(0, .ref 0)], [.int (nI 1)], M3)
    refine Wn.run (tab := tb_i_sentence) rfl 1 (c' := (if (nI 1) = 0 then 59 else 49, [(0, .ref 0)], [], M3)) (o := []) rfl trivial ?_
    rw [if_neg (show ¬ nI 1 = 0 by decide)]
    refine Wn.run (tab := tb_i_sentence) rfl 5 (c' := (58, [(0, .ref 0)], [.int ((-1 : Int32) - (M3.1 77 12))], M3)) (o := [shp 0 = (0, 9), shp 77 = (0, 3)]) rfl ⟨rfl, rfl⟩ ?_
    rw [hd.2.1]
    have e0 : M3.1 0 = upd (M1.1 0) 15 (nI f.1) := by rw [mI_eq hM3, (a1 0 (by decide)).1]
    refine Wn.iret rfl ⟨?_, ?_, rfl, ?_, fr_tr (fr_tr (fr_up o4 (by decide)) a1 (by decide)) (fr_1I hM3) (by decide)⟩
    · rw [e0, pk_un (by decide)]; exact o2
    · rw [e0]; exact Gx_up (Gx_sub o3 (by decide)) (by decide)
    · rw [e0, pk_us]
  | inr st =>
    have go := senS_go hq
    rw [hq] at hres
    obtain ⟨⟨ta2, r3⟩, r4⟩ := hres
    rw [show M2.1 77 11 = nI 0 from r3.1.2.2.2.2.1]
    generalize hM3 : (mI M2 0 (upd (M2.1 0) 15 (nI 0))) = M3
    have f3 := fr_1I hM3
    have hr := RdL_fr f3 (by decide) r3
    have S3 := SN_fr f3 (by decide) r4
    obtain ⟨_, ⟨g1, g2⟩, ⟨_, g3⟩, _, g5, _⟩ := go
    have g3 : st.2.1 + 1 ≤ 0 + 2 * (st.2.2.1 - 0) := g3
    refine Wn.run (tab := tb_i_sentence) rfl 2 (c' := (43, [(0, .ref 0)], [.ref 77], M3)) (o := [shp 0 = (0, 9)]) rfl rfl ?_
    refine Wn.callV (p := 77) (n := 1) (ix := 115) (ci := (3)) (fun r0 M0 => r0 = some (.int (nI 0)) ∧ M3 = M0) [] [] rfl rfl rfl rfl (Nat.le_of_ble_eq_true rfl) (Nat.le_of_ble_eq_true rfl) (w_rd_failedL _ M3 hr.1.2.2.2.2.1 _ ⟨rfl, rfl⟩) ?_
    rintro _ _ ⟨rfl, rfl⟩
    show Wn _ 36 _ (46, [(0, .ref 0)], [.int (nI 0)], M3)
    refine Wn.run (tab := tb_i_sentence) rfl 1 (c' := (if (nI 0) = 0 then 59 else 49, [(0, .ref 0)], [], M3)) (o := []) rfl trivial ?_
    rw [if_pos (show nI 0 = 0 by decide)]
    refine Wn.run (tab := tb_i_sentence) rfl 6 (c' := (73, [(0, .ref 0)], [.ref 24, .ref 11], M3)) (o := [shp 0 = (0, 9), shp 2 = (0, 8), shp 0 = (0, 9), shp 15 = (0, 8)]) rfl ⟨rfl, rfl, rfl, rfl⟩ ?_
    refine Wn.callV (p := 11) (n := 2) (ix := 401) (ci := (4)) (PSm M3 11 24 st.2.1 st.2.2.2.1 st.2.2.2.2.1 st.2.2.2.2.2) [.ref 24] [] rfl rfl rfl rfl (Nat.le_of_ble_eq_true rfl) (Nat.le_of_ble_eq_true rfl) (c_sn_copyFrom4_11_24 _ M3 st.2.1 st.2.2.2.1 st.2.2.2.2.1 st.2.2.2.2.2 ⟨S3.1, by omega, fun i hi => ⟨(S3.2.2 i hi).1, (S3.2.2 i hi).2.1, (S3.2.2 i hi).2.2, vlS_lt (g5 i (Nat.zero_le _) hi).2⟩⟩) ?_
    rintro _ M4 ⟨rfl, k1, k2, k3⟩
    show Wn _ 36 _ (76, [(0, .ref 0)], [], M4)
    refine Wn.run (tab := tb_i_sentence) rfl 4 (c' := (86, [(0, .ref 0)], [.int (M4.1 11 4)], M4)) (o := [shp 0 = (0, 9), shp 2 = (0, 8), shp 11 = (0, 4)]) rfl ⟨rfl, rfl, rfl⟩ ?_
    rw [k2, S3.2.1]
    have e0 : M4.1 0 = upd (M1.1 0) 15 (nI 0) := by rw [(k3 0 (by decide)).1, mI_eq hM3, (a1 0 (by decide)).1]
    refine Wn.iret rfl ⟨?_, ?_, rfl, ?_, k1, fr_tr (fr_tr (fr_tr (fr_up o4 (by decide)) a1 (by decide)) f3 (by decide)) k3 (by decide)⟩
    · rw [e0, pk_un (by decide)]; exact o2
    · rw [e0]; exact Gx_up (Gx_sub o3 (by decide)) (by decide)
    · rw [e0, pk_us]
