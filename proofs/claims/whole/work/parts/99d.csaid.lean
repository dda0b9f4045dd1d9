/-! What is said, by the class. -/
def cmB (s v u : Nat) : Bool := if s = 5 then decide (v < u) else if s = 6 then decide (v = u) else decide (u < v)
theorem bn1 {P : Prop} [Decidable P] (h : P) : nI 1 = nI (bnB (decide P)) := by rw [decide_eq_true h]; rfl
theorem bn0 {P : Prop} [Decidable P] (h : ¬ P) : nI 0 = nI (bnB (decide P)) := by rw [decide_eq_false h]; rfl
theorem bnT {b : Bool} (h : b = true) : nI 1 = nI (bnB b) := by rw [h]; rfl
theorem bnF {b : Bool} (h : ¬ b = true) : nI 0 = nI (bnB b) := by cases b with
  | false => rfl
  | true => exact absurd rfl h
theorem b2B {b : Bool} : b2 (b = true) = nI (bnB b) := by cases b <;> decide
theorem dng_64 {σ : Nat → Nat} (hB : Bd σ) (q : Nat) : dng σ q < 64 := by
  have h1 := dngN_lt σ q (σ 2)
  have h2 := Nat.pow_le_pow_right (show 0 < 2 by decide) (Bd_2 hB)
  unfold dng
  omega
set_option maxRecDepth 20000 in
theorem w_sn_compare (d : Nat) (M : Mm) (v s u : Nat) (hv : v < 2 ^ 31) (hs : 5 ≤ s ∧ s ≤ 7) (hu : u < 2 ^ 31) (Q : Po) (hQ : Q (some (.int (nI (bnB (cmB s v u))))) M) : Wn (d + 0) 197 Q (0, lv_args 0 [.int (nI v), .ref (100000 + s), .int (nI u)], [], M) := by
  unfold cmB at hQ
  refine Wn.run (tab := tb_sn_compare) rfl 3 (c' := (if ((100000 + s) = 100005) = (false = true) then 18 else 7, [(0, .int (nI v)), (1, .ref (100000 + s)), (2, .int (nI u))], [], M)) (o := [isK (100000 + s), isK 100005]) rfl ⟨⟨by omega, by omega⟩, ⟨by decide, by decide⟩⟩ ?_
  by_cases c5 : s = 5
  · rw [if_neg (fun q => ac_f.mp q (by omega))]
    rw [if_pos c5] at hQ
    refine Wn.run (tab := tb_sn_compare) rfl 3 (c' := (if (nI u) ≤ (nI v) then 16 else 12, [(0, .int (nI v)), (1, .ref (100000 + s)), (2, .int (nI u))], [], M)) (o := []) rfl trivial ?_
    by_cases c : v < u
    · rw [if_neg (mt (n_le rfl rfl hu hv).mp (by omega))]
      rw [← bn1 c] at hQ
      refine Wn.run (tab := tb_sn_compare) rfl 2 (c' := (17, [(0, .int (nI v)), (1, .ref (100000 + s)), (2, .int (nI u))], [.int (nI 1)], M)) (o := []) rfl trivial ?_
      exact Wn.zret rfl (Or.inr rfl) hQ
    · rw [if_pos ((n_le rfl rfl hu hv).mpr (by omega))]
      rw [← bn0 c] at hQ
      refine Wn.run (tab := tb_sn_compare) rfl 1 (c' := (17, [(0, .int (nI v)), (1, .ref (100000 + s)), (2, .int (nI u))], [.int (nI 0)], M)) (o := []) rfl trivial ?_
      exact Wn.zret rfl (Or.inl rfl) hQ
  rw [if_pos (ac_f.mpr (by omega))]
  rw [if_neg c5] at hQ
  refine Wn.run (tab := tb_sn_compare) rfl 3 (c' := (if ((100000 + s) = 100006) = (false = true) then 38 else 25, [(0, .int (nI v)), (1, .ref (100000 + s)), (2, .int (nI u))], [], M)) (o := [isK (100000 + s), isK 100006]) rfl ⟨⟨by omega, by omega⟩, ⟨by decide, by decide⟩⟩ ?_
  by_cases c6 : s = 6
  · rw [if_neg (fun q => ac_f.mp q (by omega))]
    rw [if_pos c6] at hQ
    refine Wn.run (tab := tb_sn_compare) rfl 3 (c' := (if ¬ (nI v) = (nI u) then 34 else 30, [(0, .int (nI v)), (1, .ref (100000 + s)), (2, .int (nI u))], [], M)) (o := []) rfl trivial ?_
    by_cases c : v = u
    · rw [if_neg (fun q => q ((n_eq rfl rfl hv hu).mpr c))]
      rw [← bn1 c] at hQ
      refine Wn.run (tab := tb_sn_compare) rfl 2 (c' := (48, [(0, .int (nI v)), (1, .ref (100000 + s)), (2, .int (nI u))], [.int (nI 1)], M)) (o := []) rfl trivial ?_
      exact Wn.zret rfl (Or.inr rfl) hQ
    · rw [if_pos (mt (n_eq rfl rfl hv hu).mp c)]
      rw [← bn0 c] at hQ
      refine Wn.run (tab := tb_sn_compare) rfl 2 (c' := (48, [(0, .int (nI v)), (1, .ref (100000 + s)), (2, .int (nI u))], [.int (nI 0)], M)) (o := []) rfl trivial ?_
      exact Wn.zret rfl (Or.inl rfl) hQ
  rw [if_pos (ac_f.mpr (by omega))]
  rw [if_neg c6] at hQ
  refine Wn.run (tab := tb_sn_compare) rfl 3 (c' := (if (nI v) ≤ (nI u) then 47 else 43, [(0, .int (nI v)), (1, .ref (100000 + s)), (2, .int (nI u))], [], M)) (o := []) rfl trivial ?_
  by_cases c : u < v
  · rw [if_neg (mt (n_le rfl rfl hv hu).mp (by omega))]
    rw [← bn1 c] at hQ
    refine Wn.run (tab := tb_sn_compare) rfl 2 (c' := (48, [(0, .int (nI v)), (1, .ref (100000 + s)), (2, .int (nI u))], [.int (nI 1)], M)) (o := []) rfl trivial ?_
    exact Wn.zret rfl (Or.inr rfl) hQ
  · rw [if_pos ((n_le rfl rfl hv hu).mpr (by omega))]
    rw [← bn0 c] at hQ
    refine Wn.run (tab := tb_sn_compare) rfl 1 (c' := (48, [(0, .int (nI v)), (1, .ref (100000 + s)), (2, .int (nI u))], [.int (nI 0)], M)) (o := []) rfl trivial ?_
    exact Wn.zret rfl (Or.inl rfl) hQ
theorem ms_sw : ∀ c, c < 36 → lsw 88 [6, 69, 22, 52, 23, 59, 24, 81] (Int32.ofInt (([0, 0, 0, 0, 0, 0, 0, 0, 17, 0, 5, 6, 7, 8, 9, 10, 11, 1, 2, 3, 4, 13, 14, 15, 12, 27, 26, 16, 18, 19, 20, 21, 22, 23, 24, 25] : List Int).getD ((nI c)).toNatClampNeg 0)) = if c = 11 then 69 else if c = 32 then 52 else if c = 33 then 59 else if c = 34 then 81 else 88 := by decide +kernel
set_option maxRecDepth 20000 in
theorem w_sn_measure (d : Nat) (M : Mm) (σ : Nat → Nat) (hS : StC M 6 σ) (hB : Bd σ) (hI : Inl σ) (q a : Nat) (hq : q < σ 2) (ha : a < 36) (Q : Po) (hQ : Q (some (.int (nI (meS σ q a)))) M) : Wn (d + 0) 196 Q (0, lv_args 0 [.ref (100000 + a), .int (nI q), .ref 6], [], M) := by
  have b2 := Bd_2 hB
  have f9 := Bd_q hB q (by omega)
  unfold meS at hQ
  refine Wn.run (tab := tb_sn_measure) rfl 5 (c' := (lsw 88 [6, 69, 22, 52, 23, 59, 24, 81] (Int32.ofInt (([0, 0, 0, 0, 0, 0, 0, 0, 17, 0, 5, 6, 7, 8, 9, 10, 11, 1, 2, 3, 4, 13, 14, 15, 12, 27, 26, 16, 18, 19, 20, 21, 22, 23, 24, 25] : List Int).getD ((nI ((100000 + a) - 100000))).toNatClampNeg 0)), [(0, .ref (100000 + a)), (1, .int (nI q)), (2, .ref 6)], [], M)) (o := [isK (100000 + a), ct [.ref 200003] ≤ 8, 200003 = 200003, vp_in (nI ((100000 + a) - 100000)) 36]) rfl ⟨⟨by omega, by omega⟩, (Nat.le_of_ble_eq_true rfl), rfl, (vp_in_nI (by omega) (by decide))⟩ ?_
  rw [show 100000 + a - 100000 = a by omega, ms_sw a ha]
  by_cases c2 : a = 32
  · rw [if_neg (by omega), if_pos c2]
    rw [if_pos c2] at hQ
    refine Wn.run (tab := tb_sn_measure) rfl 4 (c' := (58, [(0, .ref (100000 + a)), (1, .int (nI q)), (2, .ref 6)], [.int (M.1 9 ((nI q)).toNatClampNeg)], M)) (o := [shp 6 = (0, 5), aok shp 9 0 (nI q)]) rfl ⟨rfl, (ak1 (n := 6) rfl rfl rfl (by omega))⟩ ?_
    rw [show M.1 9 ((nI q)).toNatClampNeg = nI (σ (166 + q)) from rdq (v := fun z => σ (166 + z)) hS.2.2.2.2.2.1 rfl hq (by omega)]
    exact Wn.iret rfl hQ
  rw [if_neg c2] at hQ
  by_cases c3 : a = 33
  · rw [if_neg (by omega), if_neg (by omega), if_pos c3]
    rw [if_pos c3] at hQ
    refine Wn.run (tab := tb_sn_measure) rfl 5 (c' := (68, [(0, .ref (100000 + a)), (1, .int (nI q)), (2, .ref 6)], [.int (M.1 ((lkp 6) + 2) ((nI q)).toNatClampNeg)], M)) (o := [shp 6 = (0, 5), shp (lkp 6) = (0, 2), aok shp ((lkp 6) + 2) 0 (nI q)]) rfl ⟨rfl, rfl, (ak1 (n := 6) rfl rfl rfl (by omega))⟩ ?_
    rw [show M.1 ((lkp 6) + 2) ((nI q)).toNatClampNeg = nI (σ (78 + q)) from rdq (v := fun z => σ (78 + z)) hS.2.1.2.2.2.2 rfl hq (by omega)]
    exact Wn.iret rfl hQ
  rw [if_neg c3] at hQ
  by_cases c1 : a = 11
  · rw [if_pos c1]
    rw [if_pos c1] at hQ
    have a8 : M.1 8 ((nI q)).toNatClampNeg = nI (σ (160 + q)) := rdq (v := fun z => σ (160 + z)) hS.2.2.2.2.1 rfl hq (by omega)
    refine Wn.run (tab := tb_sn_measure) rfl 7 (c' := (80, [(0, .ref (100000 + a)), (1, .int (nI q)), (2, .ref 6)], [.int (M.1 7 ((M.1 8 ((nI q)).toNatClampNeg)).toNatClampNeg)], M)) (o := [shp 6 = (0, 5), shp 6 = (0, 5), aok shp 8 0 (nI q), aok shp 7 0 (M.1 8 ((nI q)).toNatClampNeg)]) rfl ⟨rfl, rfl, (ak1 (n := 6) rfl rfl rfl (by omega)), (ak1 (n := 64) rfl rfl a8 (by omega))⟩ ?_
    rw [a8, show M.1 7 ((nI (σ (160 + q)))).toNatClampNeg = nI (σ (96 + σ (160 + q))) from rdc hS.2.2.2.1 rfl (by omega) (hI q hq)]
    exact Wn.iret rfl hQ
  rw [if_neg c1] at hQ
  by_cases c4 : a = 34
  · rw [if_neg (by omega), if_neg (by omega), if_neg (by omega), if_pos c4]
    rw [if_pos c4] at hQ
    refine Wn.run (tab := tb_sn_measure) rfl 4 (c' := (87, [(0, .ref (100000 + a)), (1, .int (nI q)), (2, .ref 6)], [.int (M.1 10 ((nI q)).toNatClampNeg)], M)) (o := [shp 6 = (0, 5), aok shp 10 0 (nI q)]) rfl ⟨rfl, (ak1 (n := 6) rfl rfl rfl (by omega))⟩ ?_
    rw [show M.1 10 ((nI q)).toNatClampNeg = nI (σ (172 + q)) from rdq (v := fun z => σ (172 + z)) hS.2.2.2.2.2.2 rfl hq (by omega)]
    exact Wn.iret rfl hQ
  rw [if_neg c4] at hQ
  rw [if_neg c1, if_neg c2, if_neg c3, if_neg c4]
  refine Wn.run (tab := tb_sn_measure) rfl 1 (c' := (89, [(0, .ref (100000 + a)), (1, .int (nI q)), (2, .ref 6)], [.int (nI q)], M)) (o := []) rfl trivial ?_
  exact Wn.iret rfl hQ
theorem ph_sw : ∀ c, c < 36 → tsw [18, 21, 120, 44, 50, 67, 97] (Int32.ofInt (([0, 0, 0, 0, 0, 0, 0, 0, 17, 0, 5, 6, 7, 8, 9, 10, 11, 1, 2, 3, 4, 13, 14, 15, 12, 27, 26, 16, 18, 19, 20, 21, 22, 23, 24, 25] : List Int).getD ((nI c)).toNatClampNeg 0)) = if c = 28 then 44 else if c = 29 then 50 else if c = 30 then 67 else if c = 31 then 97 else 120 := by decide +kernel
set_option maxRecDepth 20000 in
theorem w_sn_partHolds (d : Nat) (M : Mm) (σ : Nat → Nat) (hS : StC M 6 σ) (hB : Bd σ) (hI : Inl σ) (n : Nat) (A S U : Nat → Nat) (hP : SnC M 11 n A S U) (hV : SenV (σ 2) n A S U) (i q : Nat) (hi : i < n) (hq : q < σ 2) (h5 : ¬ A i = 25) (h6 : ¬ A i = 26) (h7 : ¬ A i = 27) (Q : Po) (hQ : Q (some (.int (nI (bnB (lfB σ q (A i) (S i) (U i)))))) M) : Wn (d + 3) 195 Q (0, lv_args 0 [.ref 11, .int (nI i), .int (nI q), .ref 6], [], M) := by
  have b2' := Bd_2 hB
  have n9 := hV.1
  obtain ⟨p1, p2, p3, p4, p5⟩ := hP.2.2 i hi
  have vl := (hV.2.1 i hi).2
  have rA : M.2.2 12 ((nI i)).toNatClampNeg = 100000 + A i := by rw [nI_clamp (by omega)]; exact p1
  have rS : M.2.2 13 ((nI i)).toNatClampNeg = 100000 + S i := by rw [nI_clamp (by omega)]; exact p2
  have rU : M.1 14 ((nI i)).toNatClampNeg = nI (U i) := by rw [nI_clamp (by omega)]; exact p3
  have kA : isK (M.2.2 12 ((nI i)).toNatClampNeg) := by rw [rA]; exact ⟨by omega, by omega⟩
  have f9 := Bd_q hB q (by omega)
  unfold vlS at vl
  unfold lfB at hQ
  refine Wn.run (tab := tb_sn_partHolds) rfl 8 (c' := (tsw [18, 21, 120, 44, 50, 67, 97] (Int32.ofInt (([0, 0, 0, 0, 0, 0, 0, 0, 17, 0, 5, 6, 7, 8, 9, 10, 11, 1, 2, 3, 4, 13, 14, 15, 12, 27, 26, 16, 18, 19, 20, 21, 22, 23, 24, 25] : List Int).getD ((nI ((M.2.2 12 ((nI i)).toNatClampNeg) - 100000))).toNatClampNeg 0)), [(0, .ref 11), (1, .int (nI i)), (2, .int (nI q)), (3, .ref 6)], [], M)) (o := [shp 11 = (0, 4), aok shp 12 4 (nI i), isK (M.2.2 12 ((nI i)).toNatClampNeg), ct [.ref 200003] ≤ 8, 200003 = 200003, vp_in (nI ((M.2.2 12 ((nI i)).toNatClampNeg) - 100000)) 36]) rfl ⟨rfl, (ak1 (n := 40) rfl rfl rfl (by omega)), kA, (Nat.le_of_ble_eq_true rfl), rfl, (vp_in_nI (by rw [rA]; omega) (by decide))⟩ ?_
  rw [rA, show 100000 + A i - 100000 = A i by omega, ph_sw (A i) p4]
  by_cases c8 : A i = 28
  · rw [if_pos c8]
    rw [if_pos c8] at hQ
    refine Wn.run (tab := tb_sn_partHolds) rfl 2 (c' := (46, [(0, .ref 11), (1, .int (nI i)), (2, .int (nI q)), (3, .ref 6)], [.int (nI q), .ref 6], M)) (o := []) rfl trivial ?_
    refine Wn.callV (p := 6) (n := 2) (ix := 122) (ci := (5)) (fun r0 M0 => r0 = some (.int (b2 (fal σ q = true))) ∧ M = M0) [.int (nI q)] [] rfl rfl rfl rfl (Nat.le_of_ble_eq_true rfl) (Nat.le_of_ble_eq_true rfl) (w_st_isFallen _ M 6 σ hS hB q (by omega) _ ⟨rfl, rfl⟩) ?_
    rintro _ _ ⟨rfl, rfl⟩
    show Wn _ 195 _ (49, [(0, .ref 11), (1, .int (nI i)), (2, .int (nI q)), (3, .ref 6)], [.int (b2 (fal σ q = true))], M)
    rw [b2B]
    exact Wn.zret rfl (by cases fal σ q <;> first | exact Or.inl rfl | exact Or.inr rfl) hQ
  rw [if_neg c8] at hQ ⊢
  by_cases c9 : A i = 29
  · rw [if_pos c9]
    rw [if_pos c9] at hQ
    refine Wn.run (tab := tb_sn_partHolds) rfl 7 (c' := (if (((M.1 6 6) >>> ((nI q) &&& 31)) &&& (nI 1)) = 0 then 65 else 61, [(0, .ref 11), (1, .int (nI i)), (2, .int (nI q)), (3, .ref 6)], [], M)) (o := [shp 6 = (0, 5)]) rfl rfl ?_
    rw [show M.1 6 6 = nI (σ 92) from hS.2.2.1.2.1]
    by_cases c : (σ 92).testBit q = true
    · rw [if_neg (fun e => (bit_okc (σ 92) (Bd_92 hB) q (by omega)).mp e c)]
      rw [← bnT c] at hQ
      refine Wn.run (tab := tb_sn_partHolds) rfl 2 (c' := (66, [(0, .ref 11), (1, .int (nI i)), (2, .int (nI q)), (3, .ref 6)], [.int (nI 1)], M)) (o := []) rfl trivial ?_
      exact Wn.zret rfl (Or.inr rfl) hQ
    · rw [if_pos ((bit_okc (σ 92) (Bd_92 hB) q (by omega)).mpr c)]
      rw [← bnF c] at hQ
      refine Wn.run (tab := tb_sn_partHolds) rfl 1 (c' := (66, [(0, .ref 11), (1, .int (nI i)), (2, .int (nI q)), (3, .ref 6)], [.int (nI 0)], M)) (o := []) rfl trivial ?_
      exact Wn.zret rfl (Or.inl rfl) hQ
  rw [if_neg c9] at hQ ⊢
  by_cases c0 : A i = 30
  · rw [if_pos c0]
    rw [if_pos c0] at hQ
    have u9 : U i < σ 2 := by omega
    have g9 := Bd_q hB (U i) (by omega)
    refine Wn.run (tab := tb_sn_partHolds) rfl 11 (c' := (84, [(0, .ref 11), (1, .int (nI i)), (2, .int (nI q)), (3, .ref 6)], [.int (M.1 8 ((M.1 14 ((nI i)).toNatClampNeg)).toNatClampNeg), .int (M.1 8 ((nI q)).toNatClampNeg)], M)) (o := [shp 6 = (0, 5), aok shp 8 0 (nI q), shp 6 = (0, 5), shp 11 = (0, 4), aok shp 14 0 (nI i), aok shp 8 0 (M.1 14 ((nI i)).toNatClampNeg)]) rfl ⟨rfl, (ak1 (n := 6) rfl rfl rfl (by omega)), rfl, rfl, (ak1 (n := 40) rfl rfl rfl (by omega)), (ak1 (n := 6) rfl rfl rU (by omega))⟩ ?_
    rw [rU, show M.1 8 ((nI q)).toNatClampNeg = nI (σ (160 + q)) from rdq (v := fun z => σ (160 + z)) hS.2.2.2.2.1 rfl hq (by omega), show M.1 8 ((nI (U i))).toNatClampNeg = nI (σ (160 + U i)) from rdq (v := fun z => σ (160 + z)) hS.2.2.2.2.1 rfl u9 (by omega)]
    refine Wn.callS (n := 2) (ix := 134) (fun r0 M0 => r0 = some (.int (nI (far (σ (160 + q)) (σ (160 + U i))))) ∧ M = M0) [.int (nI (σ (160 + q))), .int (nI (σ (160 + U i)))] [] rfl rfl rfl (Nat.le_of_ble_eq_true rfl) (Nat.le_of_ble_eq_true rfl) (w_lk_far _ _ _ (by omega) (by omega) M _ ⟨rfl, rfl⟩) ?_
    rintro _ _ ⟨rfl, rfl⟩
    have fl := far_lt (σ (160 + q)) (σ (160 + U i)) (by omega) (by omega)
    show Wn _ 195 _ (87, [(0, .ref 11), (1, .int (nI i)), (2, .int (nI q)), (3, .ref 6)], [.int (nI (far (σ (160 + q)) (σ (160 + U i))))], M)
    refine Wn.run (tab := tb_sn_partHolds) rfl 2 (c' := (if (nI 1) < (nI (far (σ (160 + q)) (σ (160 + U i)))) then 95 else 91, [(0, .ref 11), (1, .int (nI i)), (2, .int (nI q)), (3, .ref 6)], [], M)) (o := []) rfl trivial ?_
    by_cases c : far (σ (160 + q)) (σ (160 + U i)) ≤ 1
    · rw [if_neg (mt (n_lt rfl rfl (by omega) (by omega)).mp (by omega))]
      rw [← bn1 c] at hQ
      refine Wn.run (tab := tb_sn_partHolds) rfl 2 (c' := (96, [(0, .ref 11), (1, .int (nI i)), (2, .int (nI q)), (3, .ref 6)], [.int (nI 1)], M)) (o := []) rfl trivial ?_
      exact Wn.zret rfl (Or.inr rfl) hQ
    · rw [if_pos ((n_lt rfl rfl (by omega) (by omega)).mpr (by omega))]
      rw [← bn0 c] at hQ
      refine Wn.run (tab := tb_sn_partHolds) rfl 1 (c' := (96, [(0, .ref 11), (1, .int (nI i)), (2, .int (nI q)), (3, .ref 6)], [.int (nI 0)], M)) (o := []) rfl trivial ?_
      exact Wn.zret rfl (Or.inl rfl) hQ
  rw [if_neg c0] at hQ ⊢
  by_cases c1 : A i = 31
  · rw [if_pos c1]
    rw [if_pos c1] at hQ
    have u9 : U i < σ 2 := by omega
    refine Wn.run (tab := tb_sn_partHolds) rfl 2 (c' := (99, [(0, .ref 11), (1, .int (nI i)), (2, .int (nI q)), (3, .ref 6)], [.int (nI q), .ref 6], M)) (o := []) rfl trivial ?_
    refine Wn.callV (p := 6) (n := 2) (ix := 139) (ci := (5)) (fun r0 M0 => r0 = some (.int (nI (dng σ q))) ∧ M = M0) [.int (nI q)] [] rfl rfl rfl rfl (Nat.le_of_ble_eq_true rfl) (Nat.le_of_ble_eq_true rfl) (w_st_dangerOf d M 6 σ hS hB hI q hq _ ⟨rfl, rfl⟩) ?_
    rintro _ _ ⟨rfl, rfl⟩
    show Wn _ 195 _ (102, [(0, .ref 11), (1, .int (nI i)), (2, .int (nI q)), (3, .ref 6)], [.int (nI (dng σ q))], M)
    refine Wn.run (tab := tb_sn_partHolds) rfl 8 (c' := (if (((nI (dng σ q)) >>> ((M.1 14 ((nI i)).toNatClampNeg) &&& 31)) &&& (nI 1)) = 0 then 118 else 114, [(0, .ref 11), (1, .int (nI i)), (2, .int (nI q)), (3, .ref 6)], [], M)) (o := [shp 11 = (0, 4), aok shp 14 0 (nI i)]) rfl ⟨rfl, (ak1 (n := 40) rfl rfl rfl (by omega))⟩ ?_
    rw [rU]
    by_cases c : (dng σ q).testBit (U i) = true
    · rw [if_neg (fun e => (bit_okc (dng σ q) (dng_64 hB q) (U i) (by omega)).mp e c)]
      rw [← bnT c] at hQ
      refine Wn.run (tab := tb_sn_partHolds) rfl 2 (c' := (119, [(0, .ref 11), (1, .int (nI i)), (2, .int (nI q)), (3, .ref 6)], [.int (nI 1)], M)) (o := []) rfl trivial ?_
      exact Wn.zret rfl (Or.inr rfl) hQ
    · rw [if_pos ((bit_okc (dng σ q) (dng_64 hB q) (U i) (by omega)).mpr c)]
      rw [← bnF c] at hQ
      refine Wn.run (tab := tb_sn_partHolds) rfl 1 (c' := (119, [(0, .ref 11), (1, .int (nI i)), (2, .int (nI q)), (3, .ref 6)], [.int (nI 0)], M)) (o := []) rfl trivial ?_
      exact Wn.zret rfl (Or.inl rfl) hQ
  rw [if_neg c1] at hQ ⊢
  have me : meS σ q (A i) < 2 ^ 31 := by
    have hic := hB
    unfold meS
    have g1 := (Bd_c hB (σ (160 + q)) (by omega))
    repeat (first | omega | split)
  have s57 : 5 ≤ S i ∧ S i ≤ 7 := by omega
  have u9 : U i ≤ 999 := by omega
  refine Wn.run (tab := tb_sn_partHolds) rfl 6 (c' := (128, [(0, .ref 11), (1, .int (nI i)), (2, .int (nI q)), (3, .ref 6)], [.ref 6, .int (nI q), .ref (M.2.2 12 ((nI i)).toNatClampNeg)], M)) (o := [shp 11 = (0, 4), aok shp 12 4 (nI i)]) rfl ⟨rfl, (ak1 (n := 40) rfl rfl rfl (by omega))⟩ ?_
  rw [rA]
  refine Wn.callS (n := 3) (ix := 143) (fun r0 M0 => r0 = some (.int (nI (meS σ q (A i)))) ∧ M = M0) [.ref (100000 + A i), .int (nI q), .ref 6] [] rfl rfl rfl (Nat.le_of_ble_eq_true rfl) (Nat.le_of_ble_eq_true rfl) (w_sn_measure _ M σ hS hB hI q (A i) hq p4 _ ⟨rfl, rfl⟩) ?_
  rintro _ _ ⟨rfl, rfl⟩
  show Wn _ 195 _ (131, [(0, .ref 11), (1, .int (nI i)), (2, .int (nI q)), (3, .ref 6)], [.int (nI (meS σ q (A i)))], M)
  refine Wn.run (tab := tb_sn_partHolds) rfl 8 (c' := (143, [(0, .ref 11), (1, .int (nI i)), (2, .int (nI q)), (3, .ref 6)], [.int (M.1 14 ((nI i)).toNatClampNeg), .ref (M.2.2 13 ((nI i)).toNatClampNeg), .int (nI (meS σ q (A i)))], M)) (o := [shp 11 = (0, 4), aok shp 13 4 (nI i), shp 11 = (0, 4), aok shp 14 0 (nI i)]) rfl ⟨rfl, (ak1 (n := 40) rfl rfl rfl (by omega)), rfl, (ak1 (n := 40) rfl rfl rfl (by omega))⟩ ?_
  rw [rS, rU]
  refine Wn.callS (n := 3) (ix := 147) (fun r0 M0 => r0 = some (.int (nI (bnB (cmB (S i) (meS σ q (A i)) (U i))))) ∧ M = M0) [.int (nI (meS σ q (A i))), .ref (100000 + S i), .int (nI (U i))] [] rfl rfl rfl (Nat.le_of_ble_eq_true rfl) (Nat.le_of_ble_eq_true rfl) (w_sn_compare _ M _ _ _ me s57 (by omega) _ ⟨rfl, rfl⟩) ?_
  rintro _ _ ⟨rfl, rfl⟩
  show Wn _ 195 _ (146, [(0, .ref 11), (1, .int (nI i)), (2, .int (nI q)), (3, .ref 6)], [.int (nI (bnB (cmB (S i) (meS σ q (A i)) (U i))))], M)
  exact Wn.zret rfl (by cases cmB (S i) (meS σ q (A i)) (U i) <;> first | exact Or.inl rfl | exact Or.inr rfl) hQ
