/-! What is said, by the reference. -/
theorem cs_60 : ∀ {s : Nat}, s < 8 → ¬ s = 5 → ¬ nI (cdS s) = nI 60 := by decide +kernel
theorem cs_61 : ∀ {s : Nat}, s < 8 → ¬ s = 6 → ¬ nI (cdS s) = nI 61 := by decide +kernel
set_option maxRecDepth 20000 in
theorem w_m_isLeaf_177 (d : Nat) (M : Mm) (q a s v u : Nat) (hv : v < 2 ^ 31) (hs : 5 ≤ s ∧ s ≤ 7) (hu : u < 2 ^ 31) (Q : Po) (hQ : Q (some (.int (nI (bnB (cmB s v u))))) M) : Wn (d + 6) 145 Q (177, [(0, .ref 114), (1, .int (nI q)), (2, .int (nI (cdW a))), (3, .int (nI (cdS s))), (4, .int (nI u))], [.int (nI v)], M) := by
  unfold cmB at hQ
  refine Wn.run (tab := tb_m_isLeaf) rfl 4 (c' := (if ¬ (nI (cdS s)) = (nI 60) then 200 else 185, [(5, .int (nI v)), (0, .ref 114), (1, .int (nI q)), (2, .int (nI (cdW a))), (3, .int (nI (cdS s))), (4, .int (nI u))], [], M)) (o := []) rfl trivial ?_
  by_cases c5 : s = 5
  · rw [if_pos c5] at hQ
    rw [if_neg (show ¬ ¬ nI (cdS s) = nI 60 by rw [c5]; decide)]
    refine Wn.run (tab := tb_m_isLeaf) rfl 3 (c' := (if (nI u) ≤ (nI v) then 196 else 192, [(5, .int (nI v)), (0, .ref 114), (1, .int (nI q)), (2, .int (nI (cdW a))), (3, .int (nI (cdS s))), (4, .int (nI u))], [], M)) (o := []) rfl trivial ?_
    by_cases c : v < u
    · rw [if_neg (mt (n_le rfl rfl hu hv).mp (by omega))]
      rw [← bn1 c] at hQ
      refine Wn.run (tab := tb_m_isLeaf) rfl 2 (c' := (233, [(5, .int (nI v)), (0, .ref 114), (1, .int (nI q)), (2, .int (nI (cdW a))), (3, .int (nI (cdS s))), (4, .int (nI u))], [.int (nI 1)], M)) (o := []) rfl trivial ?_
      exact Wn.zret rfl (Or.inr rfl) hQ
    · rw [if_pos ((n_le rfl rfl hu hv).mpr (by omega))]
      rw [← bn0 c] at hQ
      refine Wn.run (tab := tb_m_isLeaf) rfl 2 (c' := (233, [(5, .int (nI v)), (0, .ref 114), (1, .int (nI q)), (2, .int (nI (cdW a))), (3, .int (nI (cdS s))), (4, .int (nI u))], [.int (nI 0)], M)) (o := []) rfl trivial ?_
      exact Wn.zret rfl (Or.inl rfl) hQ
  rw [if_neg c5] at hQ
  rw [if_pos (show ¬ nI (cdS s) = nI 60 from cs_60 (by omega) c5)]
  refine Wn.run (tab := tb_m_isLeaf) rfl 3 (c' := (if ¬ (nI (cdS s)) = (nI 61) then 221 else 206, [(5, .int (nI v)), (0, .ref 114), (1, .int (nI q)), (2, .int (nI (cdW a))), (3, .int (nI (cdS s))), (4, .int (nI u))], [], M)) (o := []) rfl trivial ?_
  by_cases c6 : s = 6
  · rw [if_pos c6] at hQ
    rw [if_neg (show ¬ ¬ nI (cdS s) = nI 61 by rw [c6]; decide)]
    refine Wn.run (tab := tb_m_isLeaf) rfl 3 (c' := (if ¬ (nI v) = (nI u) then 217 else 213, [(5, .int (nI v)), (0, .ref 114), (1, .int (nI q)), (2, .int (nI (cdW a))), (3, .int (nI (cdS s))), (4, .int (nI u))], [], M)) (o := []) rfl trivial ?_
    by_cases c : v = u
    · rw [if_neg (fun q => q ((n_eq rfl rfl hv hu).mpr c))]
      rw [← bn1 c] at hQ
      refine Wn.run (tab := tb_m_isLeaf) rfl 2 (c' := (233, [(5, .int (nI v)), (0, .ref 114), (1, .int (nI q)), (2, .int (nI (cdW a))), (3, .int (nI (cdS s))), (4, .int (nI u))], [.int (nI 1)], M)) (o := []) rfl trivial ?_
      exact Wn.zret rfl (Or.inr rfl) hQ
    · rw [if_pos (mt (n_eq rfl rfl hv hu).mp c)]
      rw [← bn0 c] at hQ
      refine Wn.run (tab := tb_m_isLeaf) rfl 2 (c' := (233, [(5, .int (nI v)), (0, .ref 114), (1, .int (nI q)), (2, .int (nI (cdW a))), (3, .int (nI (cdS s))), (4, .int (nI u))], [.int (nI 0)], M)) (o := []) rfl trivial ?_
      exact Wn.zret rfl (Or.inl rfl) hQ
  rw [if_neg c6] at hQ
  rw [if_pos (show ¬ nI (cdS s) = nI 61 from cs_61 (by omega) c6)]
  refine Wn.run (tab := tb_m_isLeaf) rfl 3 (c' := (if (nI v) ≤ (nI u) then 232 else 228, [(5, .int (nI v)), (0, .ref 114), (1, .int (nI q)), (2, .int (nI (cdW a))), (3, .int (nI (cdS s))), (4, .int (nI u))], [], M)) (o := []) rfl trivial ?_
  by_cases c : u < v
  · rw [if_neg (mt (n_le rfl rfl hv hu).mp (by omega))]
    rw [← bn1 c] at hQ
    refine Wn.run (tab := tb_m_isLeaf) rfl 2 (c' := (233, [(5, .int (nI v)), (0, .ref 114), (1, .int (nI q)), (2, .int (nI (cdW a))), (3, .int (nI (cdS s))), (4, .int (nI u))], [.int (nI 1)], M)) (o := []) rfl trivial ?_
    exact Wn.zret rfl (Or.inr rfl) hQ
  · rw [if_pos ((n_le rfl rfl hv hu).mpr (by omega))]
    rw [← bn0 c] at hQ
    refine Wn.run (tab := tb_m_isLeaf) rfl 1 (c' := (233, [(5, .int (nI v)), (0, .ref 114), (1, .int (nI q)), (2, .int (nI (cdW a))), (3, .int (nI (cdS s))), (4, .int (nI u))], [.int (nI 0)], M)) (o := []) rfl trivial ?_
    exact Wn.zret rfl (Or.inl rfl) hQ
set_option maxRecDepth 20000 in
theorem w_m_isLeaf (d : Nat) (M : Mm) (σ : Nat → Nat) (hM : Ms M σ) (q a s u : Nat) (hq : q < σ 2) (hvl : vlS (σ 2) a s u) (h5 : ¬ a = 25) (h6 : ¬ a = 26) (h7 : ¬ a = 27) (Q : Po) (hQ : Q (some (.int (nI (bnB (lfB σ q a s u))))) M) : Wn (d + 6) 145 Q (0, lv_args 0 [.ref 114, .int (nI q), .int (nI (cdW a)), .int (nI (cdS s)), .int (nI u)], [], M) := by
  obtain ⟨hR, hB⟩ := id hM
  have b6 := Bd_2 hB
  have f9 := Bd_q hB q (by omega)
  have rd : ∀ k z : Nat, z < 6 → k + 6 ≤ 178 → M.1 116 (((nI k) + (nI z))).toNatClampNeg = nI (σ (k + z)) := fun k z hz hk => by rw [nI_add, nI_clamp (by omega)]; exact hR _ (by omega)
  unfold vlS at hvl
  unfold lfB at hQ
  refine Wn.run (tab := tb_m_isLeaf) rfl 2 (c' := (tsw [0, 3, 95, 32, 38, 50, 84] (nI (cdW a)), [(0, .ref 114), (1, .int (nI q)), (2, .int (nI (cdW a))), (3, .int (nI (cdS s))), (4, .int (nI u))], [], M)) (o := []) rfl trivial ?_
  by_cases c8 : a = 28
  · rw [if_pos c8] at hQ
    rw [show tsw [0, 3, 95, 32, 38, 50, 84] (nI (cdW a)) = 32 by rw [c8]; decide]
    refine Wn.run (tab := tb_m_isLeaf) rfl 2 (c' := (34, [(0, .ref 114), (1, .int (nI q)), (2, .int (nI (cdW a))), (3, .int (nI (cdS s))), (4, .int (nI u))], [.int (nI q), .ref 114], M)) (o := []) rfl trivial ?_
    refine Wn.callV (p := 114) (n := 2) (ix := 260) (ci := (10)) (fun r0 M0 => r0 = some (.int (b2 (fal σ q = true))) ∧ M = M0) [.int (nI q)] [] rfl rfl rfl rfl (Nat.le_of_ble_eq_true rfl) (Nat.le_of_ble_eq_true rfl) (w_m_hasFallen (d + 4) q (by omega) M σ hM _ ⟨rfl, rfl⟩) ?_
    rintro _ _ ⟨rfl, rfl⟩
    show Wn _ 145 _ (37, [(0, .ref 114), (1, .int (nI q)), (2, .int (nI (cdW a))), (3, .int (nI (cdS s))), (4, .int (nI u))], [.int (b2 (fal σ q = true))], M)
    rw [b2B]
    exact Wn.zret rfl (by cases fal σ q <;> first | exact Or.inl rfl | exact Or.inr rfl) hQ
  rw [if_neg c8] at hQ
  by_cases c9 : a = 29
  · rw [if_pos c9] at hQ
    rw [show tsw [0, 3, 95, 32, 38, 50, 84] (nI (cdW a)) = 38 by rw [c9]; decide]
    refine Wn.run (tab := tb_m_isLeaf) rfl 5 (c' := (46, [(0, .ref 114), (1, .int (nI q)), (2, .int (nI (cdW a))), (3, .int (nI (cdS s))), (4, .int (nI u))], [.int (nI q), .int (M.1 116 92)], M)) (o := [shp 114 = (0, 10), aok shp 116 0 (nI 92)]) rfl ⟨rfl, ⟨rfl, vp_in_nI (by decide) (by decide)⟩⟩ ?_
    rw [hR 92 (by decide)]
    refine Wn.callS (n := 2) (ix := 216) (fun r0 M0 => r0 = some (.int (b2 ((σ 92).testBit q = true))) ∧ M = M0) [.int (nI (σ 92)), .int (nI q)] [] rfl rfl rfl (Nat.le_of_ble_eq_true rfl) (Nat.le_of_ble_eq_true rfl) (w_m_bitN _ _ _ (Bd_92 hB) (by omega) M _ ⟨rfl, rfl⟩) ?_
    rintro _ _ ⟨rfl, rfl⟩
    show Wn _ 145 _ (49, [(0, .ref 114), (1, .int (nI q)), (2, .int (nI (cdW a))), (3, .int (nI (cdS s))), (4, .int (nI u))], [.int (b2 ((σ 92).testBit q = true))], M)
    rw [b2B]
    exact Wn.zret rfl (by cases (σ 92).testBit q <;> first | exact Or.inl rfl | exact Or.inr rfl) hQ
  rw [if_neg c9] at hQ
  by_cases c0 : a = 30
  · rw [if_pos c0] at hQ
    have u9 : u < σ 2 := by omega
    have g9 := Bd_q hB u (by omega)
    rw [show tsw [0, 3, 95, 32, 38, 50, 84] (nI (cdW a)) = 50 by rw [c0]; decide]
    refine Wn.run (tab := tb_m_isLeaf) rfl 12 (c' := (71, [(0, .ref 114), (1, .int (nI q)), (2, .int (nI (cdW a))), (3, .int (nI (cdS s))), (4, .int (nI u))], [.int (M.1 116 (((nI 160) + (nI u))).toNatClampNeg), .int (M.1 116 (((nI 160) + (nI q))).toNatClampNeg)], M)) (o := [shp 114 = (0, 10), aok shp 116 0 ((nI 160) + (nI q)), shp 114 = (0, 10), aok shp 116 0 ((nI 160) + (nI u))]) rfl ⟨rfl, (ak1 (n := 359) rfl rfl (nI_add 160 q) (by omega)), rfl, (ak1 (n := 359) rfl rfl (nI_add 160 u) (by omega))⟩ ?_
    rw [rd 160 q (by omega) (by omega), rd 160 u (by omega) (by omega)]
    refine Wn.callS (n := 2) (ix := 275) (fun r0 M0 => r0 = some (.int (nI (far (σ (160 + q)) (σ (160 + u))))) ∧ M = M0) [.int (nI (σ (160 + q))), .int (nI (σ (160 + u)))] [] rfl rfl rfl (Nat.le_of_ble_eq_true rfl) (Nat.le_of_ble_eq_true rfl) (w_m_apart (d + 4) _ _ (by omega) (by omega) M _ ⟨rfl, rfl⟩) ?_
    rintro _ _ ⟨rfl, rfl⟩
    have fl := far_lt (σ (160 + q)) (σ (160 + u)) (by omega) (by omega)
    show Wn _ 145 _ (74, [(0, .ref 114), (1, .int (nI q)), (2, .int (nI (cdW a))), (3, .int (nI (cdS s))), (4, .int (nI u))], [.int (nI (far (σ (160 + q)) (σ (160 + u))))], M)
    refine Wn.run (tab := tb_m_isLeaf) rfl 2 (c' := (if (nI 2) ≤ (nI (far (σ (160 + q)) (σ (160 + u)))) then 82 else 78, [(0, .ref 114), (1, .int (nI q)), (2, .int (nI (cdW a))), (3, .int (nI (cdS s))), (4, .int (nI u))], [], M)) (o := []) rfl trivial ?_
    by_cases c : far (σ (160 + q)) (σ (160 + u)) ≤ 1
    · rw [if_neg (mt (n_le rfl rfl (by omega) (by omega)).mp (by omega))]
      rw [← bn1 c] at hQ
      refine Wn.run (tab := tb_m_isLeaf) rfl 2 (c' := (83, [(0, .ref 114), (1, .int (nI q)), (2, .int (nI (cdW a))), (3, .int (nI (cdS s))), (4, .int (nI u))], [.int (nI 1)], M)) (o := []) rfl trivial ?_
      exact Wn.zret rfl (Or.inr rfl) hQ
    · rw [if_pos ((n_le rfl rfl (by omega) (by omega)).mpr (by omega))]
      rw [← bn0 c] at hQ
      refine Wn.run (tab := tb_m_isLeaf) rfl 1 (c' := (83, [(0, .ref 114), (1, .int (nI q)), (2, .int (nI (cdW a))), (3, .int (nI (cdS s))), (4, .int (nI u))], [.int (nI 0)], M)) (o := []) rfl trivial ?_
      exact Wn.zret rfl (Or.inl rfl) hQ
  rw [if_neg c0] at hQ
  by_cases c1 : a = 31
  · rw [if_pos c1] at hQ
    have u9 : u < σ 2 := by omega
    rw [show tsw [0, 3, 95, 32, 38, 50, 84] (nI (cdW a)) = 84 by rw [c1]; decide]
    refine Wn.run (tab := tb_m_isLeaf) rfl 2 (c' := (86, [(0, .ref 114), (1, .int (nI q)), (2, .int (nI (cdW a))), (3, .int (nI (cdS s))), (4, .int (nI u))], [.int (nI q), .ref 114], M)) (o := []) rfl trivial ?_
    refine Wn.callV (p := 114) (n := 2) (ix := 300) (ci := (10)) (fun r0 M0 => r0 = some (.int (nI (dng σ q))) ∧ M = M0) [.int (nI q)] [] rfl rfl rfl rfl (Nat.le_of_ble_eq_true rfl) (Nat.le_of_ble_eq_true rfl) (w_m_dangerOf (d + 1) q (by omega) M σ hM _ ⟨rfl, rfl⟩) ?_
    rintro _ _ ⟨rfl, rfl⟩
    show Wn _ 145 _ (89, [(0, .ref 114), (1, .int (nI q)), (2, .int (nI (cdW a))), (3, .int (nI (cdS s))), (4, .int (nI u))], [.int (nI (dng σ q))], M)
    refine Wn.run (tab := tb_m_isLeaf) rfl 1 (c' := (91, [(0, .ref 114), (1, .int (nI q)), (2, .int (nI (cdW a))), (3, .int (nI (cdS s))), (4, .int (nI u))], [.int (nI u), .int (nI (dng σ q))], M)) (o := []) rfl trivial ?_
    refine Wn.callS (n := 2) (ix := 216) (fun r0 M0 => r0 = some (.int (b2 ((dng σ q).testBit u = true))) ∧ M = M0) [.int (nI (dng σ q)), .int (nI u)] [] rfl rfl rfl (Nat.le_of_ble_eq_true rfl) (Nat.le_of_ble_eq_true rfl) (w_m_bitN _ _ _ (dng_64 hB q) (by omega) M _ ⟨rfl, rfl⟩) ?_
    rintro _ _ ⟨rfl, rfl⟩
    show Wn _ 145 _ (94, [(0, .ref 114), (1, .int (nI q)), (2, .int (nI (cdW a))), (3, .int (nI (cdS s))), (4, .int (nI u))], [.int (b2 ((dng σ q).testBit u = true))], M)
    rw [b2B]
    exact Wn.zret rfl (by cases (dng σ q).testBit u <;> first | exact Or.inl rfl | exact Or.inr rfl) hQ
  rw [if_neg c1] at hQ
  have s57 : 5 ≤ s ∧ s ≤ 7 := by omega
  have u9 : u ≤ 999 := by omega
  have hQ2 : Q (some (.int (nI (bnB (cmB s (meS σ q a) u))))) M := hQ
  have ha : a = 32 ∨ a = 33 ∨ a = 11 ∨ a = 34 ∨ a = 35 := by omega
  rw [show tsw [0, 3, 95, 32, 38, 50, 84] (nI (cdW a)) = 95 by rcases ha with rfl | rfl | rfl | rfl | rfl <;> decide]
  have g1 := Bd_c hB (σ (160 + q)) (by omega)
  rcases ha with rfl | rfl | rfl | rfl | rfl
  · refine Wn.run (tab := tb_m_isLeaf) rfl 3 (c' := (if ¬ (nI (cdW 32)) = (nI 4) then 113 else 100, [(0, .ref 114), (1, .int (nI q)), (2, .int (nI (cdW 32))), (3, .int (nI (cdS s))), (4, .int (nI u))], [], M)) (o := []) rfl trivial ?_
    rw [if_neg (show ¬ ¬ nI (cdW 32) = nI 4 by decide)]
    refine Wn.run (tab := tb_m_isLeaf) rfl 7 (c' := (177, [(0, .ref 114), (1, .int (nI q)), (2, .int (nI (cdW 32))), (3, .int (nI (cdS s))), (4, .int (nI u))], [.int (M.1 116 (((nI 166) + (nI q))).toNatClampNeg)], M)) (o := [shp 114 = (0, 10), aok shp 116 0 ((nI 166) + (nI q))]) rfl ⟨rfl, (ak1 (n := 359) rfl rfl (nI_add 166 q) (by omega))⟩ ?_
    rw [rd 166 q (by omega) (by omega)]
    exact w_m_isLeaf_177 d M q 32 s _ u (by omega) s57 (by omega) Q hQ2
  · refine Wn.run (tab := tb_m_isLeaf) rfl 3 (c' := (if ¬ (nI (cdW 33)) = (nI 4) then 113 else 100, [(0, .ref 114), (1, .int (nI q)), (2, .int (nI (cdW 33))), (3, .int (nI (cdS s))), (4, .int (nI u))], [], M)) (o := []) rfl trivial ?_
    rw [if_pos (show ¬ nI (cdW 33) = nI 4 by decide)]
    refine Wn.run (tab := tb_m_isLeaf) rfl 3 (c' := (if ¬ (nI (cdW 33)) = (nI 5) then 130 else 118, [(0, .ref 114), (1, .int (nI q)), (2, .int (nI (cdW 33))), (3, .int (nI (cdS s))), (4, .int (nI u))], [], M)) (o := []) rfl trivial ?_
    rw [if_neg (show ¬ ¬ nI (cdW 33) = nI 5 by decide)]
    refine Wn.run (tab := tb_m_isLeaf) rfl 7 (c' := (177, [(0, .ref 114), (1, .int (nI q)), (2, .int (nI (cdW 33))), (3, .int (nI (cdS s))), (4, .int (nI u))], [.int (M.1 116 (((nI 78) + (nI q))).toNatClampNeg)], M)) (o := [shp 114 = (0, 10), aok shp 116 0 ((nI 78) + (nI q))]) rfl ⟨rfl, (ak1 (n := 359) rfl rfl (nI_add 78 q) (by omega))⟩ ?_
    rw [rd 78 q (by omega) (by omega)]
    exact w_m_isLeaf_177 d M q 33 s _ u (by omega) s57 (by omega) Q hQ2
  · refine Wn.run (tab := tb_m_isLeaf) rfl 3 (c' := (if ¬ (nI (cdW 11)) = (nI 4) then 113 else 100, [(0, .ref 114), (1, .int (nI q)), (2, .int (nI (cdW 11))), (3, .int (nI (cdS s))), (4, .int (nI u))], [], M)) (o := []) rfl trivial ?_
    rw [if_pos (show ¬ nI (cdW 11) = nI 4 by decide)]
    refine Wn.run (tab := tb_m_isLeaf) rfl 3 (c' := (if ¬ (nI (cdW 11)) = (nI 5) then 130 else 118, [(0, .ref 114), (1, .int (nI q)), (2, .int (nI (cdW 11))), (3, .int (nI (cdS s))), (4, .int (nI u))], [], M)) (o := []) rfl trivial ?_
    rw [if_pos (show ¬ nI (cdW 11) = nI 5 by decide)]
    refine Wn.run (tab := tb_m_isLeaf) rfl 3 (c' := (if ¬ (nI (cdW 11)) = (nI 6) then 157 else 136, [(0, .ref 114), (1, .int (nI q)), (2, .int (nI (cdW 11))), (3, .int (nI (cdS s))), (4, .int (nI u))], [], M)) (o := []) rfl trivial ?_
    rw [if_neg (show ¬ ¬ nI (cdW 11) = nI 6 by decide)]
    have i96 : (nI 96) + (M.1 116 (((nI 160) + (nI q))).toNatClampNeg) = nI (96 + σ (160 + q)) := by rw [rd 160 q (by omega) (by omega), nI_add]
    refine Wn.run (tab := tb_m_isLeaf) rfl 12 (c' := (177, [(0, .ref 114), (1, .int (nI q)), (2, .int (nI (cdW 11))), (3, .int (nI (cdS s))), (4, .int (nI u))], [.int (M.1 116 (((nI 96) + (M.1 116 (((nI 160) + (nI q))).toNatClampNeg))).toNatClampNeg)], M)) (o := [shp 114 = (0, 10), shp 114 = (0, 10), aok shp 116 0 ((nI 160) + (nI q)), aok shp 116 0 ((nI 96) + (M.1 116 (((nI 160) + (nI q))).toNatClampNeg))]) rfl ⟨rfl, rfl, (ak1 (n := 359) rfl rfl (nI_add 160 q) (by omega)), (ak1 (n := 359) rfl rfl i96 (by omega))⟩ ?_
    rw [show M.1 116 (((nI 96) + (M.1 116 (((nI 160) + (nI q))).toNatClampNeg))).toNatClampNeg = nI (σ (96 + σ (160 + q))) from by rw [i96, nI_clamp (by omega)]; exact hR _ (by omega)]
    exact w_m_isLeaf_177 d M q 11 s _ u (by omega) s57 (by omega) Q hQ2
  · refine Wn.run (tab := tb_m_isLeaf) rfl 3 (c' := (if ¬ (nI (cdW 34)) = (nI 4) then 113 else 100, [(0, .ref 114), (1, .int (nI q)), (2, .int (nI (cdW 34))), (3, .int (nI (cdS s))), (4, .int (nI u))], [], M)) (o := []) rfl trivial ?_
    rw [if_pos (show ¬ nI (cdW 34) = nI 4 by decide)]
    refine Wn.run (tab := tb_m_isLeaf) rfl 3 (c' := (if ¬ (nI (cdW 34)) = (nI 5) then 130 else 118, [(0, .ref 114), (1, .int (nI q)), (2, .int (nI (cdW 34))), (3, .int (nI (cdS s))), (4, .int (nI u))], [], M)) (o := []) rfl trivial ?_
    rw [if_pos (show ¬ nI (cdW 34) = nI 5 by decide)]
    refine Wn.run (tab := tb_m_isLeaf) rfl 3 (c' := (if ¬ (nI (cdW 34)) = (nI 6) then 157 else 136, [(0, .ref 114), (1, .int (nI q)), (2, .int (nI (cdW 34))), (3, .int (nI (cdS s))), (4, .int (nI u))], [], M)) (o := []) rfl trivial ?_
    rw [if_pos (show ¬ nI (cdW 34) = nI 6 by decide)]
    refine Wn.run (tab := tb_m_isLeaf) rfl 3 (c' := (if ¬ (nI (cdW 34)) = (nI 7) then 176 else 163, [(0, .ref 114), (1, .int (nI q)), (2, .int (nI (cdW 34))), (3, .int (nI (cdS s))), (4, .int (nI u))], [], M)) (o := []) rfl trivial ?_
    rw [if_neg (show ¬ ¬ nI (cdW 34) = nI 7 by decide)]
    refine Wn.run (tab := tb_m_isLeaf) rfl 7 (c' := (177, [(0, .ref 114), (1, .int (nI q)), (2, .int (nI (cdW 34))), (3, .int (nI (cdS s))), (4, .int (nI u))], [.int (M.1 116 (((nI 172) + (nI q))).toNatClampNeg)], M)) (o := [shp 114 = (0, 10), aok shp 116 0 ((nI 172) + (nI q))]) rfl ⟨rfl, (ak1 (n := 359) rfl rfl (nI_add 172 q) (by omega))⟩ ?_
    rw [rd 172 q (by omega) (by omega)]
    exact w_m_isLeaf_177 d M q 34 s _ u (by omega) s57 (by omega) Q hQ2
  · refine Wn.run (tab := tb_m_isLeaf) rfl 3 (c' := (if ¬ (nI (cdW 35)) = (nI 4) then 113 else 100, [(0, .ref 114), (1, .int (nI q)), (2, .int (nI (cdW 35))), (3, .int (nI (cdS s))), (4, .int (nI u))], [], M)) (o := []) rfl trivial ?_
    rw [if_pos (show ¬ nI (cdW 35) = nI 4 by decide)]
    refine Wn.run (tab := tb_m_isLeaf) rfl 3 (c' := (if ¬ (nI (cdW 35)) = (nI 5) then 130 else 118, [(0, .ref 114), (1, .int (nI q)), (2, .int (nI (cdW 35))), (3, .int (nI (cdS s))), (4, .int (nI u))], [], M)) (o := []) rfl trivial ?_
    rw [if_pos (show ¬ nI (cdW 35) = nI 5 by decide)]
    refine Wn.run (tab := tb_m_isLeaf) rfl 3 (c' := (if ¬ (nI (cdW 35)) = (nI 6) then 157 else 136, [(0, .ref 114), (1, .int (nI q)), (2, .int (nI (cdW 35))), (3, .int (nI (cdS s))), (4, .int (nI u))], [], M)) (o := []) rfl trivial ?_
    rw [if_pos (show ¬ nI (cdW 35) = nI 6 by decide)]
    refine Wn.run (tab := tb_m_isLeaf) rfl 3 (c' := (if ¬ (nI (cdW 35)) = (nI 7) then 176 else 163, [(0, .ref 114), (1, .int (nI q)), (2, .int (nI (cdW 35))), (3, .int (nI (cdS s))), (4, .int (nI u))], [], M)) (o := []) rfl trivial ?_
    rw [if_pos (show ¬ nI (cdW 35) = nI 7 by decide)]
    refine Wn.run (tab := tb_m_isLeaf) rfl 1 (c' := (177, [(0, .ref 114), (1, .int (nI q)), (2, .int (nI (cdW 35))), (3, .int (nI (cdS s))), (4, .int (nI u))], [.int (nI q)], M)) (o := []) rfl trivial ?_
    exact w_m_isLeaf_177 d M q 35 s q u (by omega) s57 (by omega) Q hQ2
theorem cd_20 : ∀ {a : Nat}, a < 36 → ¬ a = 27 → ¬ nI (cdW a) = nI 20 := by decide +kernel
theorem cd_21 : ∀ {a : Nat}, a < 36 → ¬ a = 26 → ¬ nI (cdW a) = nI 21 := by decide +kernel
theorem cd_22 : ∀ {a : Nat}, a < 36 → ¬ a = 25 → ¬ nI (cdW a) = nI 22 := by decide +kernel
def stkB (u : Nat → Int32) : List Bool → Prop
  | [] => True
  | b :: r => u r.length = nI (bnB b) ∧ stkB u r
theorem stkB_up {u : Nat → Int32} {v : Int32} {n : Nat} : ∀ {l : List Bool}, stkB u l → l.length ≤ n → stkB (upd u n v) l
  | [], _, _ => trivial
  | b :: r, h, hl => by
    have hl : r.length + 1 ≤ n := hl
    exact ⟨by rw [pk_un (by omega)]; exact h.1, stkB_up h.2 (by omega)⟩
theorem is01_bn (b : Bool) : is01 (nI (bnB b)) := by cases b <;> first | exact Or.inl rfl | exact Or.inr rfl
theorem nI_dec (k : Nat) : nI (k + 1) + (-1 : Int32) = nI k := by
  have e : nI (k + 1) + (-1 : Int32) = nI (k + 1) - nI 1 := by rw [Int32.sub_eq_add_neg]; rfl
  rw [e]
  exact n_sub rfl rfl (by omega)
def PSd (M0 : Mm) (r : Int32) : Po := fun r0 M' => r0 = some (.int r) ∧ Fr [130] M0 M'
set_option maxRecDepth 20000 in
theorem c_m_isSaid (d : Nat) (M : Mm) (σ : Nat → Nat) (hM : Ms M σ) (n : Nat) (A S U : Nat → Nat) (hP : CodM (M.1 116) n A S U) (hV : SenV (σ 2) n A S U) (hn0 : 0 < n) (q : Nat) (hq : q < σ 2) : Wn (d + 7) 146 (PSd M (nI (bnB (sdB σ n A S U q)))) (0, lv_args 0 [.ref 114, .int (nI q)], [], M) := by
  have n9 := hV.1
  have b6 := Bd_2 hM.2
  have ln : ∀ i, i ≤ n → (evS σ q A S U i).length = hgS A i := fun i hi => evS_len i (fun k hk => (hV.2.1 k (by omega)).1)
  have l20 : ∀ i, i ≤ n → (evS σ q A S U i).length ≤ 20 := fun i hi => by rw [ln i hi]; exact SenV_h hV hi hn0
  refine Wn.run (tab := tb_m_isSaid) rfl 4 (c' := (4, [(3, .int (nI 0)), (2, .int (nI 0)), (0, .ref 114), (1, .int (nI q))], [], M)) (o := []) rfl trivial ?_
  have loop : ∀ (m i : Nat) (N : Mm) (w4 : Lv), (w4 = [] ∨ ∃ v, w4 = [(4, .int v)]) → n - i = m → i ≤ n → stkB (N.1 130) (evS σ q A S U i) → Fr [130] M N → Wn (d + 7) 146 (PSd M (nI (bnB (sdB σ n A S U q)))) (4, [(3, .int (nI i)), (2, .int (nI (evS σ q A S U i).length)), (0, .ref 114), (1, .int (nI q))], [], N) := by
    intro m
    induction m using Nat.strongRecOn with
    | _ m ih =>
      intro i N w4 hw4 hm hi hst hF
      have r116 : N.1 116 = M.1 116 := (hF 116 (by decide)).1
      refine Wn.run (tab := tb_m_isSaid) rfl 6 (c' := (if (N.1 116 178) ≤ (nI i) then 212 else 16, [(3, .int (nI i)), (2, .int (nI (evS σ q A S U i).length)), (0, .ref 114), (1, .int (nI q))], [], N)) (o := [shp 114 = (0, 10), aok shp 116 0 (nI 178)]) rfl ⟨rfl, ⟨rfl, vp_in_nI (by decide) (by decide)⟩⟩ ?_
      rw [r116, hP.1]
      by_cases hin : n ≤ i
      · rw [if_pos ((n_le rfl rfl (by omega) (by omega)).mpr hin)]
        have ei : i = n := by omega
        subst ei
        have le := ln i (Nat.le_refl _)
        rw [hV.2.2 hn0] at le
        refine Wn.run (tab := tb_m_isSaid) rfl 4 (c' := (218, [(3, .int (nI i)), (2, .int (nI (evS σ q A S U i).length)), (0, .ref 114), (1, .int (nI q))], [.int (N.1 130 0)], N)) (o := [shp 114 = (0, 10), aok shp 130 2 (nI 0)]) rfl ⟨rfl, ⟨rfl, vp_in_nI (by decide) (by decide)⟩⟩ ?_
        unfold sdB
        generalize evS σ q A S U i = l at *
        match l, le, hst with
        | [b], _, hst =>
          rw [show N.1 130 0 = nI (bnB b) from hst.1]
          exact Wn.zret rfl (is01_bn b) ⟨rfl, hF⟩
      · rw [if_neg (mt (n_le rfl rfl (by omega) (by omega)).mp hin)]
        have hi9 : i < n := by omega
        obtain ⟨p1, p2, p3⟩ := hP.2 i hi9
        have wf := (hV.2.1 i hi9).1
        have vl := (hV.2.1 i hi9).2
        unfold wfS at wf
        have e1 : evS σ q A S U (i + 1) = stE (A i) (lfB σ q (A i) (S i) (U i)) (evS σ q A S U i) := rfl
        have le := ln i (by omega)
        have l2 := l20 i (by omega)
        have a36 := (vlS_lt vl).1
        have cl := cdW_le (A i)
        have rc : N.1 116 ((nI (179 + 3 * i))).toNatClampNeg = nI (cdW (A i)) := by rw [r116, nI_clamp (by omega)]; exact p1
        refine Wn.run (tab := tb_m_isSaid) rfl 6 (c' := (25, [(4, .int ((nI 179) + ((nI 3) * (nI i)))), (3, .int (nI i)), (2, .int (nI (evS σ q A S U i).length)), (0, .ref 114), (1, .int (nI q))], [], N)) (o := []) rfl trivial ?_
        rw [show (nI 179) + ((nI 3) * (nI i)) = nI (179 + 3 * i) from by rw [pk_mul, nI_add]]
        have nx : ∀ (O : Mm), stkB (O.1 130) (evS σ q A S U (i + 1)) → Fr [130] M O → Wn (d + 7) 146 (PSd M (nI (bnB (sdB σ n A S U q)))) (206, [(2, .int (nI (evS σ q A S U (i + 1)).length)), (4, .int (nI (179 + 3 * i))), (3, .int (nI i)), (0, .ref 114), (1, .int (nI q))], [], O) := by
          intro O h1 h2
          refine Wn.run (tab := tb_m_isSaid) rfl 2 (c' := (4, [(3, .int ((nI i) + (nI 1))), (2, .int (nI (evS σ q A S U (i + 1)).length)), (4, .int (nI (179 + 3 * i))), (0, .ref 114), (1, .int (nI q))], [], O)) (o := []) rfl trivial ?_
          rw [nI_add]
          refine Wn.lvp [0, 1, 3, 4] (lv' := [(3, .int (nI (i + 1))), (2, .int (nI (evS σ q A S U (i + 1)).length)), (0, .ref 114), (1, .int (nI q))]) rfl ?_
          exact ih (n - (i + 1)) (by omega) (i + 1) O [] (Or.inl rfl) rfl (by omega) h1 h2
        have nx2 : ∀ (O : Mm), stkB (O.1 130) (evS σ q A S U (i + 1)) → Fr [130] M O → Wn (d + 7) 146 (PSd M (nI (bnB (sdB σ n A S U q)))) (206, [(4, .int (nI (179 + 3 * i))), (3, .int (nI i)), (2, .int (nI (evS σ q A S U (i + 1)).length)), (0, .ref 114), (1, .int (nI q))], [], O) := by
          intro O h1 h2
          refine Wn.lvp [2, 0, 1, 3, 4] (lv' := [(2, .int (nI (evS σ q A S U (i + 1)).length)), (4, .int (nI (179 + 3 * i))), (3, .int (nI i)), (0, .ref 114), (1, .int (nI q))]) rfl ?_
          exact nx O h1 h2
        rw [e1] at nx nx2
        have lf9 : ¬ A i = 25 → ¬ A i = 26 → ¬ A i = 27 → ∀ (Q2 : Po), Q2 (some (.int (nI (bnB (lfB σ q (A i) (S i) (U i)))))) N → Wn (d + 6) 145 Q2 (0, lv_args 0 [.ref 114, .int (nI q), .int (nI (cdW (A i))), .int (nI (cdS (S i))), .int (nI (U i))], [], N) := fun h5 h6 h7 Q2 hQ2 => w_m_isLeaf d N σ ⟨by rw [r116]; exact hM.1, hM.2⟩ q (A i) (S i) (U i) hq vl h5 h6 h7 Q2 hQ2
        generalize lfB σ q (A i) (S i) (U i) = tt at *
        generalize evS σ q A S U i = l at *
        unfold stE at nx nx2
        refine Wn.run (tab := tb_m_isSaid) rfl 6 (c' := (if ¬ (N.1 116 ((nI (179 + 3 * i))).toNatClampNeg) = (nI 20) then 64 else 37, [(4, .int (nI (179 + 3 * i))), (3, .int (nI i)), (2, .int (nI l.length)), (0, .ref 114), (1, .int (nI q))], [], N)) (o := [shp 114 = (0, 10), aok shp 116 0 (nI (179 + 3 * i))]) rfl ⟨rfl, (ak1 (n := 359) rfl rfl rfl (by omega))⟩ ?_
        rw [rc]
        by_cases c7 : A i = 27
        · rw [if_neg (show ¬ ¬ nI (cdW (A i)) = nI 20 by rw [c7]; decide)]
          rw [if_pos c7] at nx2
          have := wf.1 c7
          match l, le, nx2, hst, l2 with
          | [], le, _, _, _ => simp at le; omega
          | b :: r, _, nx2, hst, l2 =>
            have l2 : r.length + 1 ≤ 20 := l2
            have h1 : (nI (b :: r).length) - (nI 1) = nI r.length := n_sub rfl rfl (by show 1 ≤ r.length + 1; omega)
            have rb : N.1 130 (((nI (b :: r).length) - (nI 1))).toNatClampNeg = nI (bnB b) := by rw [h1, nI_clamp (by omega)]; exact hst.1
            refine Wn.run (tab := tb_m_isSaid) rfl 12 (c' := (if ¬ (N.1 130 (((nI (b :: r).length) - (nI 1))).toNatClampNeg) = 0 then 59 else 55, [(4, .int (nI (179 + 3 * i))), (3, .int (nI i)), (2, .int (nI (b :: r).length)), (0, .ref 114), (1, .int (nI q))], [.int ((nI (b :: r).length) - (nI 1)), .ref 130], N)) (o := [shp 114 = (0, 10), shp 114 = (0, 10), aok shp 130 2 ((nI (b :: r).length) - (nI 1))]) rfl ⟨rfl, rfl, (ak1 (n := 45) rfl rfl h1 (by omega))⟩ ?_
            rw [rb]
            have put : ∀ v : Bool, v = (!b) → Wn (d + 7) 146 (PSd M (nI (bnB (sdB σ n A S U q)))) (60, [(4, .int (nI (179 + 3 * i))), (3, .int (nI i)), (2, .int (nI (b :: r).length)), (0, .ref 114), (1, .int (nI q))], [.int (nI (bnB v)), .int ((nI (b :: r).length) - (nI 1)), .ref 130], N) := by
              intro v hv9
              refine Wn.run (tab := tb_m_isSaid) rfl 2 (c' := (206, [(4, .int (nI (179 + 3 * i))), (3, .int (nI i)), (2, .int (nI (b :: r).length)), (0, .ref 114), (1, .int (nI q))], [], (mI N 130 (upd (N.1 130) (((nI (b :: r).length) - (nI 1))).toNatClampNeg (nI (bnB v)))))) (o := [aok shp 130 2 ((nI (b :: r).length) - (nI 1)), is01 (nI (bnB v))]) rfl ⟨(ak1 (n := 45) rfl rfl h1 (by omega)), (is01_bn _)⟩ ?_
              rw [show (((nI (b :: r).length) - (nI 1))).toNatClampNeg = r.length from by rw [h1, nI_clamp (by omega)]]
              generalize hO : (mI N 130 (upd (N.1 130) r.length (nI (bnB v)))) = O
              refine nx2 O ⟨?_, ?_⟩ (fr_tr hF (fr_1I hO) (by decide))
              · rw [mI_eq hO, pk_us, hv9]
              · rw [mI_eq hO]; exact stkB_up hst.2 (Nat.le_refl _)
            cases b with
            | true =>
              rw [if_pos (show ¬ nI (bnB true) = 0 by decide)]
              refine Wn.run (tab := tb_m_isSaid) rfl 1 (c' := (60, [(4, .int (nI (179 + 3 * i))), (3, .int (nI i)), (2, .int (nI (true :: r).length)), (0, .ref 114), (1, .int (nI q))], [.int (nI 0), .int ((nI (true :: r).length) - (nI 1)), .ref 130], N)) (o := []) rfl trivial ?_
              exact put false rfl
            | false =>
              rw [if_neg (show ¬ ¬ nI (bnB false) = 0 by decide)]
              refine Wn.run (tab := tb_m_isSaid) rfl 2 (c' := (60, [(4, .int (nI (179 + 3 * i))), (3, .int (nI i)), (2, .int (nI (false :: r).length)), (0, .ref 114), (1, .int (nI q))], [.int (nI 1), .int ((nI (false :: r).length) - (nI 1)), .ref 130], N)) (o := []) rfl trivial ?_
              exact put true rfl
        rw [if_pos (show ¬ nI (cdW (A i)) = nI 20 by have := cd_20 a36 c7; exact this)]
        rw [if_neg c7] at nx nx2
        refine Wn.run (tab := tb_m_isSaid) rfl 6 (c' := (if (N.1 116 ((nI (179 + 3 * i))).toNatClampNeg) = (nI 21) then 88 else 76, [(4, .int (nI (179 + 3 * i))), (3, .int (nI i)), (2, .int (nI l.length)), (0, .ref 114), (1, .int (nI q))], [], N)) (o := [shp 114 = (0, 10), aok shp 116 0 (nI (179 + 3 * i))]) rfl ⟨rfl, (ak1 (n := 359) rfl rfl rfl (by omega))⟩ ?_
        rw [rc]
        have join : (A i = 26 ∨ A i = 25) → Wn (d + 7) 146 (PSd M (nI (bnB (sdB σ n A S U q)))) (88, [(4, .int (nI (179 + 3 * i))), (3, .int (nI i)), (2, .int (nI l.length)), (0, .ref 114), (1, .int (nI q))], [], N) := by
          intro hj
          have := wf.2 hj.symm
          match l, le, nx, hst, l2 with
          | [], le, _, _, _ => simp at le; omega
          | [_], le, _, _, _ => simp at le; omega
          | b :: c :: r, _, nx, hst, l2 =>
            have l2 : r.length + 1 + 1 ≤ 20 := l2
            refine Wn.run (tab := tb_m_isSaid) rfl 1 (c' := (91, [(2, .int ((nI (b :: c :: r).length) + (-1 : Int32))), (4, .int (nI (179 + 3 * i))), (3, .int (nI i)), (0, .ref 114), (1, .int (nI q))], [], N)) (o := []) rfl trivial ?_
            rw [show (nI (b :: c :: r).length) + (-1 : Int32) = nI (r.length + 1) from nI_dec (r.length + 1)]
            have h1 : (nI (r.length + 1)) - (nI 1) = nI r.length := n_sub rfl rfl (by omega)
            have r1 : N.1 130 (((nI (r.length + 1)) - (nI 1))).toNatClampNeg = nI (bnB c) := by rw [h1, nI_clamp (by omega)]; exact hst.2.1
            have r0 : N.1 130 ((nI (r.length + 1))).toNatClampNeg = nI (bnB b) := by rw [nI_clamp (by omega)]; exact hst.1
            refine Wn.run (tab := tb_m_isSaid) rfl 11 (c' := (if ¬ (N.1 116 ((nI (179 + 3 * i))).toNatClampNeg) = (nI 21) then 138 else 110, [(2, .int (nI (r.length + 1))), (4, .int (nI (179 + 3 * i))), (3, .int (nI i)), (0, .ref 114), (1, .int (nI q))], [.int ((nI (r.length + 1)) - (nI 1)), .ref 130], N)) (o := [shp 114 = (0, 10), shp 114 = (0, 10), aok shp 116 0 (nI (179 + 3 * i))]) rfl ⟨rfl, rfl, (ak1 (n := 359) rfl rfl rfl (by omega))⟩ ?_
            rw [rc]
            have put : ∀ v : Bool, (A i = 26 → v = (c && b)) → (A i = 25 → v = (c || b)) → Wn (d + 7) 146 (PSd M (nI (bnB (sdB σ n A S U q)))) (163, [(2, .int (nI (r.length + 1))), (4, .int (nI (179 + 3 * i))), (3, .int (nI i)), (0, .ref 114), (1, .int (nI q))], [.int (nI (bnB v)), .int ((nI (r.length + 1)) - (nI 1)), .ref 130], N) := by
              intro v hv6 hv5
              refine Wn.run (tab := tb_m_isSaid) rfl 2 (c' := (206, [(2, .int (nI (r.length + 1))), (4, .int (nI (179 + 3 * i))), (3, .int (nI i)), (0, .ref 114), (1, .int (nI q))], [], (mI N 130 (upd (N.1 130) (((nI (r.length + 1)) - (nI 1))).toNatClampNeg (nI (bnB v)))))) (o := [aok shp 130 2 ((nI (r.length + 1)) - (nI 1)), is01 (nI (bnB v))]) rfl ⟨(ak1 (n := 45) rfl rfl h1 (by omega)), (is01_bn _)⟩ ?_
              rw [show (((nI (r.length + 1)) - (nI 1))).toNatClampNeg = r.length from by rw [h1, nI_clamp (by omega)]]
              generalize hO : (mI N 130 (upd (N.1 130) r.length (nI (bnB v)))) = O
              have fin : stkB (O.1 130) (v :: r) := ⟨by rw [mI_eq hO, pk_us], by rw [mI_eq hO]; exact stkB_up hst.2.2 (Nat.le_refl _)⟩
              by_cases c6 : A i = 26
              · rw [if_pos c6] at nx
                rw [hv6 c6] at fin
                exact nx O fin (fr_tr hF (fr_1I hO) (by decide))
              · have c5 : A i = 25 := hj.elim (fun q => absurd q c6) id
                rw [if_neg c6, if_pos c5] at nx
                rw [hv5 c5] at fin
                exact nx O fin (fr_tr hF (fr_1I hO) (by decide))
            by_cases c6 : A i = 26
            · rw [if_neg (show ¬ ¬ nI (cdW (A i)) = nI 21 by rw [c6]; decide)]
              refine Wn.run (tab := tb_m_isSaid) rfl 7 (c' := (if (N.1 130 (((nI (r.length + 1)) - (nI 1))).toNatClampNeg) = 0 then 134 else 121, [(2, .int (nI (r.length + 1))), (4, .int (nI (179 + 3 * i))), (3, .int (nI i)), (0, .ref 114), (1, .int (nI q))], [.int ((nI (r.length + 1)) - (nI 1)), .ref 130], N)) (o := [shp 114 = (0, 10), aok shp 130 2 ((nI (r.length + 1)) - (nI 1))]) rfl ⟨rfl, (ak1 (n := 45) rfl rfl h1 (by omega))⟩ ?_
              rw [r1]
              cases c with
              | false =>
                rw [if_pos (show nI (bnB false) = 0 by decide)]
                refine Wn.run (tab := tb_m_isSaid) rfl 2 (c' := (163, [(2, .int (nI (r.length + 1))), (4, .int (nI (179 + 3 * i))), (3, .int (nI i)), (0, .ref 114), (1, .int (nI q))], [.int (nI 0), .int ((nI (r.length + 1)) - (nI 1)), .ref 130], N)) (o := []) rfl trivial ?_
                exact put false (fun _ => by cases b <;> rfl) (fun q => absurd q (by omega))
              | true =>
                rw [if_neg (show ¬ nI (bnB true) = 0 by decide)]
                refine Wn.run (tab := tb_m_isSaid) rfl 5 (c' := (if (N.1 130 ((nI (r.length + 1))).toNatClampNeg) = 0 then 134 else 130, [(2, .int (nI (r.length + 1))), (4, .int (nI (179 + 3 * i))), (3, .int (nI i)), (0, .ref 114), (1, .int (nI q))], [.int ((nI (r.length + 1)) - (nI 1)), .ref 130], N)) (o := [shp 114 = (0, 10), aok shp 130 2 (nI (r.length + 1))]) rfl ⟨rfl, (ak1 (n := 45) rfl rfl rfl (by omega))⟩ ?_
                rw [r0]
                cases b with
                | false =>
                  rw [if_pos (show nI (bnB false) = 0 by decide)]
                  refine Wn.run (tab := tb_m_isSaid) rfl 2 (c' := (163, [(2, .int (nI (r.length + 1))), (4, .int (nI (179 + 3 * i))), (3, .int (nI i)), (0, .ref 114), (1, .int (nI q))], [.int (nI 0), .int ((nI (r.length + 1)) - (nI 1)), .ref 130], N)) (o := []) rfl trivial ?_
                  exact put false (fun _ => rfl) (fun q => absurd q (by omega))
                | true =>
                  rw [if_neg (show ¬ nI (bnB true) = 0 by decide)]
                  refine Wn.run (tab := tb_m_isSaid) rfl 2 (c' := (163, [(2, .int (nI (r.length + 1))), (4, .int (nI (179 + 3 * i))), (3, .int (nI i)), (0, .ref 114), (1, .int (nI q))], [.int (nI 1), .int ((nI (r.length + 1)) - (nI 1)), .ref 130], N)) (o := []) rfl trivial ?_
                  exact put true (fun _ => rfl) (fun q => absurd q (by omega))
            · have c5 : A i = 25 := hj.elim (fun q => absurd q c6) id
              rw [if_pos (show ¬ nI (cdW (A i)) = nI 21 by rw [c5]; decide)]
              refine Wn.run (tab := tb_m_isSaid) rfl 7 (c' := (if ¬ (N.1 130 (((nI (r.length + 1)) - (nI 1))).toNatClampNeg) = 0 then 158 else 149, [(2, .int (nI (r.length + 1))), (4, .int (nI (179 + 3 * i))), (3, .int (nI i)), (0, .ref 114), (1, .int (nI q))], [.int ((nI (r.length + 1)) - (nI 1)), .ref 130], N)) (o := [shp 114 = (0, 10), aok shp 130 2 ((nI (r.length + 1)) - (nI 1))]) rfl ⟨rfl, (ak1 (n := 45) rfl rfl h1 (by omega))⟩ ?_
              rw [r1]
              cases c with
              | true =>
                rw [if_pos (show ¬ nI (bnB true) = 0 by decide)]
                refine Wn.run (tab := tb_m_isSaid) rfl 2 (c' := (163, [(2, .int (nI (r.length + 1))), (4, .int (nI (179 + 3 * i))), (3, .int (nI i)), (0, .ref 114), (1, .int (nI q))], [.int (nI 1), .int ((nI (r.length + 1)) - (nI 1)), .ref 130], N)) (o := []) rfl trivial ?_
                exact put true (fun q => absurd q c6) (fun _ => by cases b <;> rfl)
              | false =>
                rw [if_neg (show ¬ ¬ nI (bnB false) = 0 by decide)]
                refine Wn.run (tab := tb_m_isSaid) rfl 5 (c' := (if (N.1 130 ((nI (r.length + 1))).toNatClampNeg) = 0 then 162 else 158, [(2, .int (nI (r.length + 1))), (4, .int (nI (179 + 3 * i))), (3, .int (nI i)), (0, .ref 114), (1, .int (nI q))], [.int ((nI (r.length + 1)) - (nI 1)), .ref 130], N)) (o := [shp 114 = (0, 10), aok shp 130 2 (nI (r.length + 1))]) rfl ⟨rfl, (ak1 (n := 45) rfl rfl rfl (by omega))⟩ ?_
                rw [r0]
                cases b with
                | false =>
                  rw [if_pos (show nI (bnB false) = 0 by decide)]
                  refine Wn.run (tab := tb_m_isSaid) rfl 1 (c' := (163, [(2, .int (nI (r.length + 1))), (4, .int (nI (179 + 3 * i))), (3, .int (nI i)), (0, .ref 114), (1, .int (nI q))], [.int (nI 0), .int ((nI (r.length + 1)) - (nI 1)), .ref 130], N)) (o := []) rfl trivial ?_
                  exact put false (fun q => absurd q c6) (fun _ => rfl)
                | true =>
                  rw [if_neg (show ¬ nI (bnB true) = 0 by decide)]
                  refine Wn.run (tab := tb_m_isSaid) rfl 2 (c' := (163, [(2, .int (nI (r.length + 1))), (4, .int (nI (179 + 3 * i))), (3, .int (nI i)), (0, .ref 114), (1, .int (nI q))], [.int (nI 1), .int ((nI (r.length + 1)) - (nI 1)), .ref 130], N)) (o := []) rfl trivial ?_
                  exact put true (fun q => absurd q c6) (fun _ => rfl)
        by_cases c6 : A i = 26
        · rw [if_pos (show nI (cdW (A i)) = nI 21 by rw [c6]; decide)]
          exact join (Or.inl c6)
        rw [if_neg (show ¬ nI (cdW (A i)) = nI 21 from cd_21 a36 c6)]
        refine Wn.run (tab := tb_m_isSaid) rfl 6 (c' := (if ¬ (N.1 116 ((nI (179 + 3 * i))).toNatClampNeg) = (nI 22) then 167 else 88, [(4, .int (nI (179 + 3 * i))), (3, .int (nI i)), (2, .int (nI l.length)), (0, .ref 114), (1, .int (nI q))], [], N)) (o := [shp 114 = (0, 10), aok shp 116 0 (nI (179 + 3 * i))]) rfl ⟨rfl, (ak1 (n := 359) rfl rfl rfl (by omega))⟩ ?_
        rw [rc]
        by_cases c5 : A i = 25
        · rw [if_neg (show ¬ ¬ nI (cdW (A i)) = nI 22 by rw [c5]; decide)]
          exact join (Or.inr c5)
        rw [if_pos (show ¬ nI (cdW (A i)) = nI 22 from cd_22 a36 c5)]
        rw [if_neg c6, if_neg c5] at nx
        refine Wn.run (tab := tb_m_isSaid) rfl 21 (c' := (199, [(4, .int (nI (179 + 3 * i))), (3, .int (nI i)), (2, .int (nI l.length)), (0, .ref 114), (1, .int (nI q))], [.int (N.1 116 (((nI (179 + 3 * i)) + (nI 2))).toNatClampNeg), .int (N.1 116 (((nI (179 + 3 * i)) + (nI 1))).toNatClampNeg), .int (N.1 116 ((nI (179 + 3 * i))).toNatClampNeg), .int (nI q), .ref 114, .int (nI l.length), .ref 130], N)) (o := [shp 114 = (0, 10), shp 114 = (0, 10), aok shp 116 0 (nI (179 + 3 * i)), shp 114 = (0, 10), aok shp 116 0 ((nI (179 + 3 * i)) + (nI 1)), shp 114 = (0, 10), aok shp 116 0 ((nI (179 + 3 * i)) + (nI 2))]) rfl ⟨rfl, rfl, (ak1 (n := 359) rfl rfl rfl (by omega)), rfl, (ak1 (n := 359) rfl rfl (nI_add _ _) (by omega)), rfl, (ak1 (n := 359) rfl rfl (nI_add _ _) (by omega))⟩ ?_
        rw [rc, show N.1 116 (((nI (179 + 3 * i)) + (nI 1))).toNatClampNeg = nI (cdS (S i)) from by rw [r116, nI_add, nI_clamp (by omega), show 179 + 3 * i + 1 = 180 + 3 * i by omega]; exact p2, show N.1 116 (((nI (179 + 3 * i)) + (nI 2))).toNatClampNeg = nI (U i) from by rw [r116, nI_add, nI_clamp (by omega), show 179 + 3 * i + 2 = 181 + 3 * i by omega]; exact p3]
        refine Wn.callV (p := 114) (n := 5) (ix := 459) (ci := (10)) (fun r0 M0 => r0 = some (.int (nI (bnB tt))) ∧ N = M0) [.int (nI q), .int (nI (cdW (A i))), .int (nI (cdS (S i))), .int (nI (U i))] [.int (nI l.length), .ref 130] rfl rfl rfl rfl (Nat.le_of_ble_eq_true rfl) (Nat.le_of_ble_eq_true rfl) (lf9 c5 c6 c7 _ ⟨rfl, rfl⟩) ?_
        rintro _ _ ⟨rfl, rfl⟩
        show Wn _ 146 _ (202, [(4, .int (nI (179 + 3 * i))), (3, .int (nI i)), (2, .int (nI l.length)), (0, .ref 114), (1, .int (nI q))], [.int (nI (bnB tt)), .int (nI l.length), .ref 130], N)
        refine Wn.run (tab := tb_m_isSaid) rfl 1 (c' := (203, [(4, .int (nI (179 + 3 * i))), (3, .int (nI i)), (2, .int (nI l.length)), (0, .ref 114), (1, .int (nI q))], [], (mI N 130 (upd (N.1 130) ((nI l.length)).toNatClampNeg (nI (bnB tt)))))) (o := [aok shp 130 2 (nI l.length), is01 (nI (bnB tt))]) rfl ⟨(ak1 (n := 45) rfl rfl rfl (by omega)), (is01_bn _)⟩ ?_
        rw [nI_clamp (by omega)]
        generalize hO : (mI N 130 (upd (N.1 130) l.length (nI (bnB tt)))) = O
        refine Wn.run (tab := tb_m_isSaid) rfl 1 (c' := (206, [(2, .int ((nI l.length) + (nI 1))), (4, .int (nI (179 + 3 * i))), (3, .int (nI i)), (0, .ref 114), (1, .int (nI q))], [], O)) (o := []) rfl trivial ?_
        rw [nI_add]
        refine nx O ⟨?_, ?_⟩ (fr_tr hF (fr_1I hO) (by decide))
        · rw [mI_eq hO, pk_us]
        · rw [mI_eq hO]; exact stkB_up hst (Nat.le_refl _)
  exact loop n 0 M [] (Or.inl rfl) rfl (by omega) trivial (fr_rf _ _)
