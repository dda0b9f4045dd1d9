/-! A line of the class. -/
theorem rl_sw : ∀ q, q < 36 → (q < 10 ∨ 16 < q) → tsw [5, 11, 214, 64, 71, 78, 85, 127, 156, 185] (Int32.ofInt (([0, 0, 0, 0, 0, 0, 0, 0, 17, 0, 5, 6, 7, 8, 9, 10, 11, 1, 2, 3, 4, 13, 14, 15, 12, 27, 26, 16, 18, 19, 20, 21, 22, 23, 24, 25] : List Int).getD ((nI q)).toNatClampNeg 0)) = 214 := by decide +kernel
theorem kR_ix (T : Nat → Nat) (L mo p : Nat) : kR T L mo p - 100000 < 36 := by
  have h := isK_kR T L mo p
  unfold isK at h
  omega
set_option maxRecDepth 20000 in
theorem c_tl_readLine_10 (d : Nat) (M : Mm) (T : Nat → Nat) (L mo p ta : Nat) (hR : RdL M T L mo p ta) (δ : Nat → Nat) (ν : Nat → Int64) (o : Nat) (ic : Int64) (hD : CD M δ ν) (hC : CF M δ o ic) (hδ : DW δ) (ho5 : o < 32) (hk : tKd T L mo p = 10) : Wn (d + 4) 229 (PRc M T L mo (rdLk T L mo p δ ν o ic)) (0, lv_args 0 [.ref 78], [], M) := by
  have hF := fr_rf [16, 17, 18, 20, 21, 22, 77, 78] M
  obtain ⟨g, ht⟩ : ∃ g, M.1 78 = g := ⟨_, rfl⟩
  obtain ⟨j, hj⟩ : ∃ j, M.2.1 78 = j := ⟨_, rfl⟩
  obtain ⟨gl, hl⟩ : ∃ g, M.1 16 = g := ⟨_, rfl⟩
  obtain ⟨J, hJ⟩ : ∃ g, M.2.1 17 = g := ⟨_, rfl⟩
  obtain ⟨lo, hlo⟩ : ∃ g, M.1 18 = g := ⟨_, rfl⟩
  obtain ⟨ice, hi⟩ : ∃ g, M.1 20 = g := ⟨_, rfl⟩
  obtain ⟨at_, ha⟩ : ∃ g, M.1 21 = g := ⟨_, rfl⟩
  obtain ⟨te, hte⟩ : ∃ g, M.1 22 = g := ⟨_, rfl⟩
  obtain ⟨f19, h19⟩ : ∃ g, M.1 19 = g := ⟨_, rfl⟩
  obtain ⟨pr, h23⟩ : ∃ g, M.1 23 = g := ⟨_, rfl⟩
  have hd : CDf gl J lo ice at_ te f19 pr δ ν := by rw [← hl, ← hJ, ← hlo, ← hi, ← ha, ← hte, ← h19, ← h23]; exact hD
  have hf : CFf g (j 8) δ o ic := by rw [← ht, ← hj]; exact hC
  obtain ⟨b0, b1, b2_9, bq, bc⟩ := id hδ.1
  refine Wn.run (tab := tb_tl_readLine) rfl 4 (c' := (8, [(1, .ref 16), (0, .ref 78)], [], M)) (o := [shp 78 = (0, 6), shp 15 = (0, 8)]) rfl ⟨rfl, rfl⟩ ?_
  refine Wn.run (tab := tb_tl_readLine) rfl 7 (c' := (tsw [5, 11, 214, 64, 71, 78, 85, 127, 156, 185] (Int32.ofInt (([0, 0, 0, 0, 0, 0, 0, 0, 17, 0, 5, 6, 7, 8, 9, 10, 11, 1, 2, 3, 4, 13, 14, 15, 12, 27, 26, 16, 18, 19, 20, 21, 22, 23, 24, 25] : List Int).getD ((nI ((M.2.2 77 10) - 100000))).toNatClampNeg 0)), [(1, .ref 16), (0, .ref 78)], [], M)) (o := [shp 78 = (0, 6), shp 77 = (0, 3), isK (M.2.2 77 10), ct [.ref 200003] ≤ 8, 200003 = 200003, vp_in (nI ((M.2.2 77 10) - 100000)) 36]) rfl ⟨rfl, rfl, (by rw [hR.1.2.2.2.2.2.2.1]; exact isK_kR _ _ _ _), (Nat.le_of_ble_eq_true rfl), rfl, (vp_in_nI (by rw [hR.1.2.2.2.2.2.2.1]; exact kR_ix _ _ _ _) (by decide))⟩ ?_
  rw [show (M.2.2 77 10) = 100010 from hR.1.2.2.2.2.2.2.1.trans ((kR_iff (by decide) (by decide)).mpr hk)]
  rw [show tsw [5, 11, 214, 64, 71, 78, 85, 127, 156, 185] (Int32.ofInt (([0, 0, 0, 0, 0, 0, 0, 0, 17, 0, 5, 6, 7, 8, 9, 10, 11, 1, 2, 3, 4, 13, 14, 15, 12, 27, 26, 16, 18, 19, 20, 21, 22, 23, 24, 25] : List Int).getD ((nI (100010 - 100000))).toNatClampNeg 0)) = 64 from by decide]
  show Wn _ 229 _ (64, [(1, .ref 16), (0, .ref 78)], [], M)
  refine Wn.run (tab := tb_tl_readLine) rfl 1 (c' := (65, [(1, .ref 16), (0, .ref 78)], [.ref 78], M)) (o := []) rfl trivial ?_
  refine Wn.callV (p := 78) (n := 1) (ix := 86) (ci := (6)) (PRc M T L mo (rdLk T L mo p δ ν o ic)) [] [] rfl rfl rfl rfl (Nat.le_of_ble_eq_true rfl) (Nat.le_of_ble_eq_true rfl) (c_tl_readLake _ M T L mo p ta hR δ ν o ic hD hC hδ ho5 hk) ?_
  rintro _ M9 ⟨rfl, hr9⟩
  show Wn _ 229 _ (68, [(1, .ref 16), (0, .ref 78)], [], M9)
  refine Wn.run (tab := tb_tl_readLine) rfl 1 (c' := (222, [(1, .ref 16), (0, .ref 78)], [], M9)) (o := []) rfl trivial ?_
  exact Wn.vret rfl ⟨rfl, hr9⟩
set_option maxRecDepth 20000 in
theorem c_tl_readLine_11 (d : Nat) (M : Mm) (T : Nat → Nat) (L mo p ta : Nat) (hR : RdL M T L mo p ta) (δ : Nat → Nat) (ν : Nat → Int64) (o : Nat) (ic : Int64) (hD : CD M δ ν) (hC : CF M δ o ic) (hδ : DW δ) (ho5 : o < 32) (hk : tKd T L mo p = 11) : Wn (d + 5) 229 (PRc M T L mo (rdIc T L mo p δ ν o ic)) (0, lv_args 0 [.ref 78], [], M) := by
  have hF := fr_rf [16, 17, 18, 20, 21, 22, 77, 78] M
  obtain ⟨g, ht⟩ : ∃ g, M.1 78 = g := ⟨_, rfl⟩
  obtain ⟨j, hj⟩ : ∃ j, M.2.1 78 = j := ⟨_, rfl⟩
  obtain ⟨gl, hl⟩ : ∃ g, M.1 16 = g := ⟨_, rfl⟩
  obtain ⟨J, hJ⟩ : ∃ g, M.2.1 17 = g := ⟨_, rfl⟩
  obtain ⟨lo, hlo⟩ : ∃ g, M.1 18 = g := ⟨_, rfl⟩
  obtain ⟨ice, hi⟩ : ∃ g, M.1 20 = g := ⟨_, rfl⟩
  obtain ⟨at_, ha⟩ : ∃ g, M.1 21 = g := ⟨_, rfl⟩
  obtain ⟨te, hte⟩ : ∃ g, M.1 22 = g := ⟨_, rfl⟩
  obtain ⟨f19, h19⟩ : ∃ g, M.1 19 = g := ⟨_, rfl⟩
  obtain ⟨pr, h23⟩ : ∃ g, M.1 23 = g := ⟨_, rfl⟩
  have hd : CDf gl J lo ice at_ te f19 pr δ ν := by rw [← hl, ← hJ, ← hlo, ← hi, ← ha, ← hte, ← h19, ← h23]; exact hD
  have hf : CFf g (j 8) δ o ic := by rw [← ht, ← hj]; exact hC
  obtain ⟨b0, b1, b2_9, bq, bc⟩ := id hδ.1
  refine Wn.run (tab := tb_tl_readLine) rfl 4 (c' := (8, [(1, .ref 16), (0, .ref 78)], [], M)) (o := [shp 78 = (0, 6), shp 15 = (0, 8)]) rfl ⟨rfl, rfl⟩ ?_
  refine Wn.run (tab := tb_tl_readLine) rfl 7 (c' := (tsw [5, 11, 214, 64, 71, 78, 85, 127, 156, 185] (Int32.ofInt (([0, 0, 0, 0, 0, 0, 0, 0, 17, 0, 5, 6, 7, 8, 9, 10, 11, 1, 2, 3, 4, 13, 14, 15, 12, 27, 26, 16, 18, 19, 20, 21, 22, 23, 24, 25] : List Int).getD ((nI ((M.2.2 77 10) - 100000))).toNatClampNeg 0)), [(1, .ref 16), (0, .ref 78)], [], M)) (o := [shp 78 = (0, 6), shp 77 = (0, 3), isK (M.2.2 77 10), ct [.ref 200003] ≤ 8, 200003 = 200003, vp_in (nI ((M.2.2 77 10) - 100000)) 36]) rfl ⟨rfl, rfl, (by rw [hR.1.2.2.2.2.2.2.1]; exact isK_kR _ _ _ _), (Nat.le_of_ble_eq_true rfl), rfl, (vp_in_nI (by rw [hR.1.2.2.2.2.2.2.1]; exact kR_ix _ _ _ _) (by decide))⟩ ?_
  rw [show (M.2.2 77 10) = 100011 from hR.1.2.2.2.2.2.2.1.trans ((kR_iff (by decide) (by decide)).mpr hk)]
  rw [show tsw [5, 11, 214, 64, 71, 78, 85, 127, 156, 185] (Int32.ofInt (([0, 0, 0, 0, 0, 0, 0, 0, 17, 0, 5, 6, 7, 8, 9, 10, 11, 1, 2, 3, 4, 13, 14, 15, 12, 27, 26, 16, 18, 19, 20, 21, 22, 23, 24, 25] : List Int).getD ((nI (100011 - 100000))).toNatClampNeg 0)) = 71 from by decide]
  show Wn _ 229 _ (71, [(1, .ref 16), (0, .ref 78)], [], M)
  refine Wn.run (tab := tb_tl_readLine) rfl 1 (c' := (72, [(1, .ref 16), (0, .ref 78)], [.ref 78], M)) (o := []) rfl trivial ?_
  refine Wn.callV (p := 78) (n := 1) (ix := 89) (ci := (6)) (PRc M T L mo (rdIc T L mo p δ ν o ic)) [] [] rfl rfl rfl rfl (Nat.le_of_ble_eq_true rfl) (Nat.le_of_ble_eq_true rfl) (c_tl_readIce _ M T L mo p ta hR δ ν o ic hD hC hδ ho5 hk) ?_
  rintro _ M9 ⟨rfl, hr9⟩
  show Wn _ 229 _ (75, [(1, .ref 16), (0, .ref 78)], [], M9)
  refine Wn.run (tab := tb_tl_readLine) rfl 1 (c' := (222, [(1, .ref 16), (0, .ref 78)], [], M9)) (o := []) rfl trivial ?_
  exact Wn.vret rfl ⟨rfl, hr9⟩
set_option maxRecDepth 20000 in
theorem c_tl_readLine_12 (d : Nat) (M : Mm) (T : Nat → Nat) (L mo p ta : Nat) (hR : RdL M T L mo p ta) (δ : Nat → Nat) (ν : Nat → Int64) (o : Nat) (ic : Int64) (hD : CD M δ ν) (hC : CF M δ o ic) (hδ : DW δ) (ho5 : o < 32) (hk : tKd T L mo p = 12) : Wn (d + 5) 229 (PRc M T L mo (rdPe T L mo p δ ν o ic)) (0, lv_args 0 [.ref 78], [], M) := by
  have hF := fr_rf [16, 17, 18, 20, 21, 22, 77, 78] M
  obtain ⟨g, ht⟩ : ∃ g, M.1 78 = g := ⟨_, rfl⟩
  obtain ⟨j, hj⟩ : ∃ j, M.2.1 78 = j := ⟨_, rfl⟩
  obtain ⟨gl, hl⟩ : ∃ g, M.1 16 = g := ⟨_, rfl⟩
  obtain ⟨J, hJ⟩ : ∃ g, M.2.1 17 = g := ⟨_, rfl⟩
  obtain ⟨lo, hlo⟩ : ∃ g, M.1 18 = g := ⟨_, rfl⟩
  obtain ⟨ice, hi⟩ : ∃ g, M.1 20 = g := ⟨_, rfl⟩
  obtain ⟨at_, ha⟩ : ∃ g, M.1 21 = g := ⟨_, rfl⟩
  obtain ⟨te, hte⟩ : ∃ g, M.1 22 = g := ⟨_, rfl⟩
  obtain ⟨f19, h19⟩ : ∃ g, M.1 19 = g := ⟨_, rfl⟩
  obtain ⟨pr, h23⟩ : ∃ g, M.1 23 = g := ⟨_, rfl⟩
  have hd : CDf gl J lo ice at_ te f19 pr δ ν := by rw [← hl, ← hJ, ← hlo, ← hi, ← ha, ← hte, ← h19, ← h23]; exact hD
  have hf : CFf g (j 8) δ o ic := by rw [← ht, ← hj]; exact hC
  obtain ⟨b0, b1, b2_9, bq, bc⟩ := id hδ.1
  refine Wn.run (tab := tb_tl_readLine) rfl 4 (c' := (8, [(1, .ref 16), (0, .ref 78)], [], M)) (o := [shp 78 = (0, 6), shp 15 = (0, 8)]) rfl ⟨rfl, rfl⟩ ?_
  refine Wn.run (tab := tb_tl_readLine) rfl 7 (c' := (tsw [5, 11, 214, 64, 71, 78, 85, 127, 156, 185] (Int32.ofInt (([0, 0, 0, 0, 0, 0, 0, 0, 17, 0, 5, 6, 7, 8, 9, 10, 11, 1, 2, 3, 4, 13, 14, 15, 12, 27, 26, 16, 18, 19, 20, 21, 22, 23, 24, 25] : List Int).getD ((nI ((M.2.2 77 10) - 100000))).toNatClampNeg 0)), [(1, .ref 16), (0, .ref 78)], [], M)) (o := [shp 78 = (0, 6), shp 77 = (0, 3), isK (M.2.2 77 10), ct [.ref 200003] ≤ 8, 200003 = 200003, vp_in (nI ((M.2.2 77 10) - 100000)) 36]) rfl ⟨rfl, rfl, (by rw [hR.1.2.2.2.2.2.2.1]; exact isK_kR _ _ _ _), (Nat.le_of_ble_eq_true rfl), rfl, (vp_in_nI (by rw [hR.1.2.2.2.2.2.2.1]; exact kR_ix _ _ _ _) (by decide))⟩ ?_
  rw [show (M.2.2 77 10) = 100012 from hR.1.2.2.2.2.2.2.1.trans ((kR_iff (by decide) (by decide)).mpr hk)]
  rw [show tsw [5, 11, 214, 64, 71, 78, 85, 127, 156, 185] (Int32.ofInt (([0, 0, 0, 0, 0, 0, 0, 0, 17, 0, 5, 6, 7, 8, 9, 10, 11, 1, 2, 3, 4, 13, 14, 15, 12, 27, 26, 16, 18, 19, 20, 21, 22, 23, 24, 25] : List Int).getD ((nI (100012 - 100000))).toNatClampNeg 0)) = 78 from by decide]
  show Wn _ 229 _ (78, [(1, .ref 16), (0, .ref 78)], [], M)
  refine Wn.run (tab := tb_tl_readLine) rfl 1 (c' := (79, [(1, .ref 16), (0, .ref 78)], [.ref 78], M)) (o := []) rfl trivial ?_
  refine Wn.callV (p := 78) (n := 1) (ix := 92) (ci := (6)) (PRc M T L mo (rdPe T L mo p δ ν o ic)) [] [] rfl rfl rfl rfl (Nat.le_of_ble_eq_true rfl) (Nat.le_of_ble_eq_true rfl) (c_tl_readPerson _ M T L mo p ta hR δ ν o ic hD hC hδ ho5 hk) ?_
  rintro _ M9 ⟨rfl, hr9⟩
  show Wn _ 229 _ (82, [(1, .ref 16), (0, .ref 78)], [], M9)
  refine Wn.run (tab := tb_tl_readLine) rfl 1 (c' := (222, [(1, .ref 16), (0, .ref 78)], [], M9)) (o := []) rfl trivial ?_
  exact Wn.vret rfl ⟨rfl, hr9⟩
set_option maxRecDepth 20000 in
theorem c_tl_readLine_13 (d : Nat) (M : Mm) (T : Nat → Nat) (L mo p ta : Nat) (hR : RdL M T L mo p ta) (δ : Nat → Nat) (ν : Nat → Int64) (o : Nat) (ic : Int64) (hD : CD M δ ν) (hC : CF M δ o ic) (hδ : DW δ) (ho5 : o < 32) (hk : tKd T L mo p = 13) : Wn (d + 3) 229 (PRc M T L mo (rdRu T L mo p δ ν o ic)) (0, lv_args 0 [.ref 78], [], M) := by
  have hF := fr_rf [16, 17, 18, 20, 21, 22, 77, 78] M
  obtain ⟨g, ht⟩ : ∃ g, M.1 78 = g := ⟨_, rfl⟩
  obtain ⟨j, hj⟩ : ∃ j, M.2.1 78 = j := ⟨_, rfl⟩
  obtain ⟨gl, hl⟩ : ∃ g, M.1 16 = g := ⟨_, rfl⟩
  obtain ⟨J, hJ⟩ : ∃ g, M.2.1 17 = g := ⟨_, rfl⟩
  obtain ⟨lo, hlo⟩ : ∃ g, M.1 18 = g := ⟨_, rfl⟩
  obtain ⟨ice, hi⟩ : ∃ g, M.1 20 = g := ⟨_, rfl⟩
  obtain ⟨at_, ha⟩ : ∃ g, M.1 21 = g := ⟨_, rfl⟩
  obtain ⟨te, hte⟩ : ∃ g, M.1 22 = g := ⟨_, rfl⟩
  obtain ⟨f19, h19⟩ : ∃ g, M.1 19 = g := ⟨_, rfl⟩
  obtain ⟨pr, h23⟩ : ∃ g, M.1 23 = g := ⟨_, rfl⟩
  have hd : CDf gl J lo ice at_ te f19 pr δ ν := by rw [← hl, ← hJ, ← hlo, ← hi, ← ha, ← hte, ← h19, ← h23]; exact hD
  have hf : CFf g (j 8) δ o ic := by rw [← ht, ← hj]; exact hC
  obtain ⟨b0, b1, b2_9, bq, bc⟩ := id hδ.1
  refine Wn.run (tab := tb_tl_readLine) rfl 4 (c' := (8, [(1, .ref 16), (0, .ref 78)], [], M)) (o := [shp 78 = (0, 6), shp 15 = (0, 8)]) rfl ⟨rfl, rfl⟩ ?_
  refine Wn.run (tab := tb_tl_readLine) rfl 7 (c' := (tsw [5, 11, 214, 64, 71, 78, 85, 127, 156, 185] (Int32.ofInt (([0, 0, 0, 0, 0, 0, 0, 0, 17, 0, 5, 6, 7, 8, 9, 10, 11, 1, 2, 3, 4, 13, 14, 15, 12, 27, 26, 16, 18, 19, 20, 21, 22, 23, 24, 25] : List Int).getD ((nI ((M.2.2 77 10) - 100000))).toNatClampNeg 0)), [(1, .ref 16), (0, .ref 78)], [], M)) (o := [shp 78 = (0, 6), shp 77 = (0, 3), isK (M.2.2 77 10), ct [.ref 200003] ≤ 8, 200003 = 200003, vp_in (nI ((M.2.2 77 10) - 100000)) 36]) rfl ⟨rfl, rfl, (by rw [hR.1.2.2.2.2.2.2.1]; exact isK_kR _ _ _ _), (Nat.le_of_ble_eq_true rfl), rfl, (vp_in_nI (by rw [hR.1.2.2.2.2.2.2.1]; exact kR_ix _ _ _ _) (by decide))⟩ ?_
  rw [show (M.2.2 77 10) = 100013 from hR.1.2.2.2.2.2.2.1.trans ((kR_iff (by decide) (by decide)).mpr hk)]
  rw [show tsw [5, 11, 214, 64, 71, 78, 85, 127, 156, 185] (Int32.ofInt (([0, 0, 0, 0, 0, 0, 0, 0, 17, 0, 5, 6, 7, 8, 9, 10, 11, 1, 2, 3, 4, 13, 14, 15, 12, 27, 26, 16, 18, 19, 20, 21, 22, 23, 24, 25] : List Int).getD ((nI (100013 - 100000))).toNatClampNeg 0)) = 85 from by decide]
  show Wn _ 229 _ (85, [(1, .ref 16), (0, .ref 78)], [], M)
  refine Wn.run (tab := tb_tl_readLine) rfl 4 (c' := (91, [(1, .ref 16), (0, .ref 78)], [.int (M.1 78 3), .ref 78, .ref 78], M)) (o := [shp 78 = (0, 6)]) rfl rfl ?_
  rw [show (M.1 78 3) = (b2 (o.testBit 0 = true)) from (fr_eq ht (show g 3 = (b2 (o.testBit 0 = true)) from hf.2.1))]
  by_cases hb1 : o.testBit 0 = true
  · rw [show (b2 (o.testBit 0 = true)) = (nI 1) from b2_t hb1]
    refine Wn.callV (p := 78) (n := 2) (ix := 95) (ci := (6)) (PFl M 3 (tAt T L mo p) (some (.int (nI 1)))) [.int (nI 1)] [.ref 78] rfl rfl rfl rfl (Nat.le_of_ble_eq_true rfl) (Nat.le_of_ble_eq_true rfl) (c_tl_takeOnce_no _ M T L mo p ta hR) ?_
    rintro _ M1 ⟨rfl, hq2, hF3⟩
    show Wn _ 229 _ (94, [(1, .ref 16), (0, .ref 78)], [.int (nI 1), .ref 78], M1)
    have hk4 := frI_fun hF3 (by decide) ht
    have hk5 := frJ_fun hF3 (by decide) hj
    have hk6 := frI_fun hF3 (by decide) hl
    have hk7 := frJ_fun hF3 (by decide) hJ
    have hk8 := frI_fun hF3 (by decide) hlo
    have hk9 := frI_fun hF3 (by decide) hi
    have hk10 := frI_fun hF3 (by decide) ha
    have hk11 := frI_fun hF3 (by decide) hte
    have hk12 := frI_fun hF3 (by decide) h19
    have hk13 := frI_fun hF3 (by decide) h23
    have hF14 := fr_tr hF hF3 (by decide)
    refine Wn.run (tab := tb_tl_readLine) rfl 1 (c' := (97, [(1, .ref 16), (0, .ref 78)], [], (mI M1 78 (upd (M1.1 78) 3 (nI 1))))) (o := [shp 78 = (0, 6), is01 (nI 1)]) rfl ⟨rfl, (Or.inr rfl)⟩ ?_
    generalize hM16 : (mI M1 78 (upd (M1.1 78) 3 (nI 1))) = M15
    have hq17 := RdD_fr (fr_1I hM16) (by decide) hq2
    have hk18 := fI_up hM16 hk4
    have hk19 := fJ_oI hM16 hk5
    have hk20 := fI_ne hM16 (by decide) hk6
    have hk21 := fJ_oI hM16 hk7
    have hk22 := fI_ne hM16 (by decide) hk8
    have hk23 := fI_ne hM16 (by decide) hk9
    have hk24 := fI_ne hM16 (by decide) hk10
    have hk25 := fI_ne hM16 (by decide) hk11
    have hk26 := fI_ne hM16 (by decide) hk12
    have hk27 := fI_ne hM16 (by decide) hk13
    have hF28 := fr_sI hF14 hM16 (by decide)
    show Wn _ 229 _ (97, [(1, .ref 16), (0, .ref 78)], [], M15)
    refine Wn.run (tab := tb_tl_readLine) rfl 5 (c' := (105, [(1, .ref 16), (0, .ref 78)], [.int (nI 9), .int (nI 1), .ref 77, .ref 16], M15)) (o := [shp 78 = (0, 6)]) rfl rfl ?_
    refine Wn.callV (p := 77) (n := 3) (ix := 99) (ci := (3)) (fun r0 M9 => r0 = some (.int (nI 1)) ∧ M9 = M15) [.int (nI 1), .int (nI 9)] [.ref 16] rfl rfl rfl rfl (Nat.le_of_ble_eq_true rfl) (Nat.le_of_ble_eq_true rfl) (c_rd_takeNumberD _ M15 3 (tAt T L mo p) hq17 (nI 1) (nI 9)) ?_
    rintro _ M9 ⟨rfl, hsm⟩
    obtain rfl := hsm.symm
    show Wn _ 229 _ (108, [(1, .ref 16), (0, .ref 78)], [.int (nI 1), .ref 16], M15)
    refine Wn.run (tab := tb_tl_readLine) rfl 1 (c' := (111, [(1, .ref 16), (0, .ref 78)], [], (mI M15 16 (upd (M15.1 16) 3 (nI 1))))) (o := [shp 16 = (0, 2)]) rfl rfl ?_
    generalize hM30 : (mI M15 16 (upd (M15.1 16) 3 (nI 1))) = M29
    have hq31 := RdD_fr (fr_1I hM30) (by decide) hq17
    have hk32 := fI_ne hM30 (by decide) hk18
    have hk33 := fJ_oI hM30 hk19
    have hk34 := fI_up hM30 hk20
    have hk35 := fJ_oI hM30 hk21
    have hk36 := fI_ne hM30 (by decide) hk22
    have hk37 := fI_ne hM30 (by decide) hk23
    have hk38 := fI_ne hM30 (by decide) hk24
    have hk39 := fI_ne hM30 (by decide) hk25
    have hk40 := fI_ne hM30 (by decide) hk26
    have hk41 := fI_ne hM30 (by decide) hk27
    have hF42 := fr_sI hF28 hM30 (by decide)
    show Wn _ 229 _ (111, [(1, .ref 16), (0, .ref 78)], [], M29)
    refine Wn.run (tab := tb_tl_readLine) rfl 5 (c' := (118, [(1, .ref 16), (0, .ref 78)], [.int (nI 3), .int (nI 0), .ref 77, .ref 16], M29)) (o := [shp 78 = (0, 6)]) rfl rfl ?_
    refine Wn.callV (p := 77) (n := 3) (ix := 99) (ci := (3)) (fun r0 M9 => r0 = some (.int (nI 0)) ∧ M9 = M29) [.int (nI 0), .int (nI 3)] [.ref 16] rfl rfl rfl rfl (Nat.le_of_ble_eq_true rfl) (Nat.le_of_ble_eq_true rfl) (c_rd_takeNumberD _ M29 3 (tAt T L mo p) hq31 (nI 0) (nI 3)) ?_
    rintro _ M9 ⟨rfl, hsm⟩
    obtain rfl := hsm.symm
    show Wn _ 229 _ (121, [(1, .ref 16), (0, .ref 78)], [.int (nI 0), .ref 16], M29)
    refine Wn.run (tab := tb_tl_readLine) rfl 1 (c' := (124, [(1, .ref 16), (0, .ref 78)], [], (mI M29 16 (upd (M29.1 16) 4 (nI 0))))) (o := [shp 16 = (0, 2)]) rfl rfl ?_
    generalize hM44 : (mI M29 16 (upd (M29.1 16) 4 (nI 0))) = M43
    have hq45 := RdD_fr (fr_1I hM44) (by decide) hq31
    have hk46 := fI_ne hM44 (by decide) hk32
    have hk47 := fJ_oI hM44 hk33
    have hk48 := fI_up hM44 hk34
    have hk49 := fJ_oI hM44 hk35
    have hk50 := fI_ne hM44 (by decide) hk36
    have hk51 := fI_ne hM44 (by decide) hk37
    have hk52 := fI_ne hM44 (by decide) hk38
    have hk53 := fI_ne hM44 (by decide) hk39
    have hk54 := fI_ne hM44 (by decide) hk40
    have hk55 := fI_ne hM44 (by decide) hk41
    have hF56 := fr_sI hF42 hM44 (by decide)
    show Wn _ 229 _ (124, [(1, .ref 16), (0, .ref 78)], [], M43)
    refine Wn.run (tab := tb_tl_readLine) rfl 1 (c' := (222, [(1, .ref 16), (0, .ref 78)], [], M43)) (o := []) rfl trivial ?_
    have e9 : rdRu T L mo p δ ν o ic = .inl (3, tAt T L mo p) := by unfold rdRu; rw [if_pos hb1]
    rw [e9]
    exact Wn.vret rfl ⟨rfl, hF56, hq45⟩
  · rw [show (b2 (o.testBit 0 = true)) = (nI 0) from b2_f hb1]
    refine Wn.callV (p := 78) (n := 2) (ix := 95) (ci := (6)) (PLv M T L mo (tNx T L p) (tAt T L mo p) (some (.int (nI 1)))) [.int (nI 0)] [.ref 78] rfl rfl rfl rfl (Nat.le_of_ble_eq_true rfl) (Nat.le_of_ble_eq_true rfl) (c_tl_takeOnce_ok _ M T L mo p ta hR (by omega) (by omega)) ?_
    rintro _ M57 ⟨rfl, hq58, hF59⟩
    show Wn _ 229 _ (94, [(1, .ref 16), (0, .ref 78)], [.int (nI 1), .ref 78], M57)
    have hk60 := frI_fun hF59 (by decide) ht
    have hk61 := frJ_fun hF59 (by decide) hj
    have hk62 := frI_fun hF59 (by decide) hl
    have hk63 := frJ_fun hF59 (by decide) hJ
    have hk64 := frI_fun hF59 (by decide) hlo
    have hk65 := frI_fun hF59 (by decide) hi
    have hk66 := frI_fun hF59 (by decide) ha
    have hk67 := frI_fun hF59 (by decide) hte
    have hk68 := frI_fun hF59 (by decide) h19
    have hk69 := frI_fun hF59 (by decide) h23
    have hF70 := fr_tr hF hF59 (by decide)
    refine Wn.run (tab := tb_tl_readLine) rfl 1 (c' := (97, [(1, .ref 16), (0, .ref 78)], [], (mI M57 78 (upd (M57.1 78) 3 (nI 1))))) (o := [shp 78 = (0, 6), is01 (nI 1)]) rfl ⟨rfl, (Or.inr rfl)⟩ ?_
    generalize hM72 : (mI M57 78 (upd (M57.1 78) 3 (nI 1))) = M71
    have hq73 := RdL_fr (fr_1I hM72) (by decide) hq58
    have hk74 := fI_up hM72 hk60
    have hk75 := fJ_oI hM72 hk61
    have hk76 := fI_ne hM72 (by decide) hk62
    have hk77 := fJ_oI hM72 hk63
    have hk78 := fI_ne hM72 (by decide) hk64
    have hk79 := fI_ne hM72 (by decide) hk65
    have hk80 := fI_ne hM72 (by decide) hk66
    have hk81 := fI_ne hM72 (by decide) hk67
    have hk82 := fI_ne hM72 (by decide) hk68
    have hk83 := fI_ne hM72 (by decide) hk69
    have hF84 := fr_sI hF70 hM72 (by decide)
    show Wn _ 229 _ (97, [(1, .ref 16), (0, .ref 78)], [], M71)
    refine Wn.run (tab := tb_tl_readLine) rfl 5 (c' := (105, [(1, .ref 16), (0, .ref 78)], [.int (nI 9), .int (nI 1), .ref 77, .ref 16], M71)) (o := [shp 78 = (0, 6)]) rfl rfl ?_
    cases hc2 : tkN T L mo (tNx T L p) 1 9 with
    | inl f2 =>
      refine Wn.callV (p := 77) (n := 3) (ix := 99) (ci := (3)) (PFl M71 f2.1 f2.2 (some (.int (nI 1)))) [.int (nI 1), .int (nI 9)] [.ref 16] rfl rfl rfl rfl (Nat.le_of_ble_eq_true rfl) (Nat.le_of_ble_eq_true rfl) (c_rd_takeE _ M71 T L mo (tNx T L p) (tAt T L mo p) hq73 1 9 (by omega) (by omega) f2 hc2) ?_
      rintro _ M85 ⟨rfl, hq86, hF87⟩
      show Wn _ 229 _ (108, [(1, .ref 16), (0, .ref 78)], [.int (nI 1), .ref 16], M85)
      have hk88 := frI_fun hF87 (by decide) hk74
      have hk89 := frJ_fun hF87 (by decide) hk75
      have hk90 := frI_fun hF87 (by decide) hk76
      have hk91 := frJ_fun hF87 (by decide) hk77
      have hk92 := frI_fun hF87 (by decide) hk78
      have hk93 := frI_fun hF87 (by decide) hk79
      have hk94 := frI_fun hF87 (by decide) hk80
      have hk95 := frI_fun hF87 (by decide) hk81
      have hk96 := frI_fun hF87 (by decide) hk82
      have hk97 := frI_fun hF87 (by decide) hk83
      have hF98 := fr_tr hF84 hF87 (by decide)
      refine Wn.run (tab := tb_tl_readLine) rfl 1 (c' := (111, [(1, .ref 16), (0, .ref 78)], [], (mI M85 16 (upd (M85.1 16) 3 (nI 1))))) (o := [shp 16 = (0, 2)]) rfl rfl ?_
      generalize hM100 : (mI M85 16 (upd (M85.1 16) 3 (nI 1))) = M99
      have hq101 := RdD_fr (fr_1I hM100) (by decide) hq86
      have hk102 := fI_ne hM100 (by decide) hk88
      have hk103 := fJ_oI hM100 hk89
      have hk104 := fI_up hM100 hk90
      have hk105 := fJ_oI hM100 hk91
      have hk106 := fI_ne hM100 (by decide) hk92
      have hk107 := fI_ne hM100 (by decide) hk93
      have hk108 := fI_ne hM100 (by decide) hk94
      have hk109 := fI_ne hM100 (by decide) hk95
      have hk110 := fI_ne hM100 (by decide) hk96
      have hk111 := fI_ne hM100 (by decide) hk97
      have hF112 := fr_sI hF98 hM100 (by decide)
      show Wn _ 229 _ (111, [(1, .ref 16), (0, .ref 78)], [], M99)
      refine Wn.run (tab := tb_tl_readLine) rfl 5 (c' := (118, [(1, .ref 16), (0, .ref 78)], [.int (nI 3), .int (nI 0), .ref 77, .ref 16], M99)) (o := [shp 78 = (0, 6)]) rfl rfl ?_
      refine Wn.callV (p := 77) (n := 3) (ix := 99) (ci := (3)) (fun r0 M9 => r0 = some (.int (nI 0)) ∧ M9 = M99) [.int (nI 0), .int (nI 3)] [.ref 16] rfl rfl rfl rfl (Nat.le_of_ble_eq_true rfl) (Nat.le_of_ble_eq_true rfl) (c_rd_takeNumberD _ M99 f2.1 f2.2 hq101 (nI 0) (nI 3)) ?_
      rintro _ M9 ⟨rfl, hsm⟩
      obtain rfl := hsm.symm
      show Wn _ 229 _ (121, [(1, .ref 16), (0, .ref 78)], [.int (nI 0), .ref 16], M99)
      refine Wn.run (tab := tb_tl_readLine) rfl 1 (c' := (124, [(1, .ref 16), (0, .ref 78)], [], (mI M99 16 (upd (M99.1 16) 4 (nI 0))))) (o := [shp 16 = (0, 2)]) rfl rfl ?_
      generalize hM114 : (mI M99 16 (upd (M99.1 16) 4 (nI 0))) = M113
      have hq115 := RdD_fr (fr_1I hM114) (by decide) hq101
      have hk116 := fI_ne hM114 (by decide) hk102
      have hk117 := fJ_oI hM114 hk103
      have hk118 := fI_up hM114 hk104
      have hk119 := fJ_oI hM114 hk105
      have hk120 := fI_ne hM114 (by decide) hk106
      have hk121 := fI_ne hM114 (by decide) hk107
      have hk122 := fI_ne hM114 (by decide) hk108
      have hk123 := fI_ne hM114 (by decide) hk109
      have hk124 := fI_ne hM114 (by decide) hk110
      have hk125 := fI_ne hM114 (by decide) hk111
      have hF126 := fr_sI hF112 hM114 (by decide)
      show Wn _ 229 _ (124, [(1, .ref 16), (0, .ref 78)], [], M113)
      refine Wn.run (tab := tb_tl_readLine) rfl 1 (c' := (222, [(1, .ref 16), (0, .ref 78)], [], M113)) (o := []) rfl trivial ?_
      have e9 : rdRu T L mo p δ ν o ic = .inl f2 := by unfold rdRu; rw [if_neg hb1]; simp only [hc2]
      rw [e9]
      exact Wn.vret rfl ⟨rfl, hF126, hq115⟩
    | inr v2 =>
      obtain ⟨x2, p2⟩ := v2
      have bd2 : 1 ≤ x2 ∧ x2 ≤ 9 := by obtain ⟨q1, q2, q3⟩ := tkN_inr hc2; cases q3; exact q2
      refine Wn.callV (p := 77) (n := 3) (ix := 99) (ci := (3)) (PLv M71 T L mo p2 (tAt T L mo (tNx T L p)) (some (.int (nI x2)))) [.int (nI 1), .int (nI 9)] [.ref 16] rfl rfl rfl rfl (Nat.le_of_ble_eq_true rfl) (Nat.le_of_ble_eq_true rfl) (c_rd_takeV _ M71 T L mo (tNx T L p) (tAt T L mo p) hq73 1 9 (by omega) (by omega) (x2, p2) hc2) ?_
      rintro _ M127 ⟨rfl, hq128, hF129⟩
      show Wn _ 229 _ (108, [(1, .ref 16), (0, .ref 78)], [.int (nI x2), .ref 16], M127)
      have hk130 := frI_fun hF129 (by decide) hk74
      have hk131 := frJ_fun hF129 (by decide) hk75
      have hk132 := frI_fun hF129 (by decide) hk76
      have hk133 := frJ_fun hF129 (by decide) hk77
      have hk134 := frI_fun hF129 (by decide) hk78
      have hk135 := frI_fun hF129 (by decide) hk79
      have hk136 := frI_fun hF129 (by decide) hk80
      have hk137 := frI_fun hF129 (by decide) hk81
      have hk138 := frI_fun hF129 (by decide) hk82
      have hk139 := frI_fun hF129 (by decide) hk83
      have hF140 := fr_tr hF84 hF129 (by decide)
      refine Wn.run (tab := tb_tl_readLine) rfl 1 (c' := (111, [(1, .ref 16), (0, .ref 78)], [], (mI M127 16 (upd (M127.1 16) 3 (nI x2))))) (o := [shp 16 = (0, 2)]) rfl rfl ?_
      generalize hM142 : (mI M127 16 (upd (M127.1 16) 3 (nI x2))) = M141
      have hq143 := RdL_fr (fr_1I hM142) (by decide) hq128
      have hk144 := fI_ne hM142 (by decide) hk130
      have hk145 := fJ_oI hM142 hk131
      have hk146 := fI_up hM142 hk132
      have hk147 := fJ_oI hM142 hk133
      have hk148 := fI_ne hM142 (by decide) hk134
      have hk149 := fI_ne hM142 (by decide) hk135
      have hk150 := fI_ne hM142 (by decide) hk136
      have hk151 := fI_ne hM142 (by decide) hk137
      have hk152 := fI_ne hM142 (by decide) hk138
      have hk153 := fI_ne hM142 (by decide) hk139
      have hF154 := fr_sI hF140 hM142 (by decide)
      show Wn _ 229 _ (111, [(1, .ref 16), (0, .ref 78)], [], M141)
      refine Wn.run (tab := tb_tl_readLine) rfl 5 (c' := (118, [(1, .ref 16), (0, .ref 78)], [.int (nI 3), .int (nI 0), .ref 77, .ref 16], M141)) (o := [shp 78 = (0, 6)]) rfl rfl ?_
      cases hc3 : tkN T L mo p2 0 3 with
      | inl f3 =>
        refine Wn.callV (p := 77) (n := 3) (ix := 99) (ci := (3)) (PFl M141 f3.1 f3.2 (some (.int (nI 0)))) [.int (nI 0), .int (nI 3)] [.ref 16] rfl rfl rfl rfl (Nat.le_of_ble_eq_true rfl) (Nat.le_of_ble_eq_true rfl) (c_rd_takeE _ M141 T L mo p2 (tAt T L mo (tNx T L p)) hq143 0 3 (by omega) (by omega) f3 hc3) ?_
        rintro _ M155 ⟨rfl, hq156, hF157⟩
        show Wn _ 229 _ (121, [(1, .ref 16), (0, .ref 78)], [.int (nI 0), .ref 16], M155)
        have hk158 := frI_fun hF157 (by decide) hk144
        have hk159 := frJ_fun hF157 (by decide) hk145
        have hk160 := frI_fun hF157 (by decide) hk146
        have hk161 := frJ_fun hF157 (by decide) hk147
        have hk162 := frI_fun hF157 (by decide) hk148
        have hk163 := frI_fun hF157 (by decide) hk149
        have hk164 := frI_fun hF157 (by decide) hk150
        have hk165 := frI_fun hF157 (by decide) hk151
        have hk166 := frI_fun hF157 (by decide) hk152
        have hk167 := frI_fun hF157 (by decide) hk153
        have hF168 := fr_tr hF154 hF157 (by decide)
        refine Wn.run (tab := tb_tl_readLine) rfl 1 (c' := (124, [(1, .ref 16), (0, .ref 78)], [], (mI M155 16 (upd (M155.1 16) 4 (nI 0))))) (o := [shp 16 = (0, 2)]) rfl rfl ?_
        generalize hM170 : (mI M155 16 (upd (M155.1 16) 4 (nI 0))) = M169
        have hq171 := RdD_fr (fr_1I hM170) (by decide) hq156
        have hk172 := fI_ne hM170 (by decide) hk158
        have hk173 := fJ_oI hM170 hk159
        have hk174 := fI_up hM170 hk160
        have hk175 := fJ_oI hM170 hk161
        have hk176 := fI_ne hM170 (by decide) hk162
        have hk177 := fI_ne hM170 (by decide) hk163
        have hk178 := fI_ne hM170 (by decide) hk164
        have hk179 := fI_ne hM170 (by decide) hk165
        have hk180 := fI_ne hM170 (by decide) hk166
        have hk181 := fI_ne hM170 (by decide) hk167
        have hF182 := fr_sI hF168 hM170 (by decide)
        show Wn _ 229 _ (124, [(1, .ref 16), (0, .ref 78)], [], M169)
        refine Wn.run (tab := tb_tl_readLine) rfl 1 (c' := (222, [(1, .ref 16), (0, .ref 78)], [], M169)) (o := []) rfl trivial ?_
        have e9 : rdRu T L mo p δ ν o ic = .inl f3 := by unfold rdRu; rw [if_neg hb1]; simp only [hc2, hc3]
        rw [e9]
        exact Wn.vret rfl ⟨rfl, hF182, hq171⟩
      | inr v3 =>
        obtain ⟨x3, p3⟩ := v3
        have bd3 : 0 ≤ x3 ∧ x3 ≤ 3 := by obtain ⟨q1, q2, q3⟩ := tkN_inr hc3; cases q3; exact q2
        refine Wn.callV (p := 77) (n := 3) (ix := 99) (ci := (3)) (PLv M141 T L mo p3 (tAt T L mo p2) (some (.int (nI x3)))) [.int (nI 0), .int (nI 3)] [.ref 16] rfl rfl rfl rfl (Nat.le_of_ble_eq_true rfl) (Nat.le_of_ble_eq_true rfl) (c_rd_takeV _ M141 T L mo p2 (tAt T L mo (tNx T L p)) hq143 0 3 (by omega) (by omega) (x3, p3) hc3) ?_
        rintro _ M183 ⟨rfl, hq184, hF185⟩
        show Wn _ 229 _ (121, [(1, .ref 16), (0, .ref 78)], [.int (nI x3), .ref 16], M183)
        have hk186 := frI_fun hF185 (by decide) hk144
        have hk187 := frJ_fun hF185 (by decide) hk145
        have hk188 := frI_fun hF185 (by decide) hk146
        have hk189 := frJ_fun hF185 (by decide) hk147
        have hk190 := frI_fun hF185 (by decide) hk148
        have hk191 := frI_fun hF185 (by decide) hk149
        have hk192 := frI_fun hF185 (by decide) hk150
        have hk193 := frI_fun hF185 (by decide) hk151
        have hk194 := frI_fun hF185 (by decide) hk152
        have hk195 := frI_fun hF185 (by decide) hk153
        have hF196 := fr_tr hF154 hF185 (by decide)
        refine Wn.run (tab := tb_tl_readLine) rfl 1 (c' := (124, [(1, .ref 16), (0, .ref 78)], [], (mI M183 16 (upd (M183.1 16) 4 (nI x3))))) (o := [shp 16 = (0, 2)]) rfl rfl ?_
        generalize hM198 : (mI M183 16 (upd (M183.1 16) 4 (nI x3))) = M197
        have hq199 := RdL_fr (fr_1I hM198) (by decide) hq184
        have hk200 := fI_ne hM198 (by decide) hk186
        have hk201 := fJ_oI hM198 hk187
        have hk202 := fI_up hM198 hk188
        have hk203 := fJ_oI hM198 hk189
        have hk204 := fI_ne hM198 (by decide) hk190
        have hk205 := fI_ne hM198 (by decide) hk191
        have hk206 := fI_ne hM198 (by decide) hk192
        have hk207 := fI_ne hM198 (by decide) hk193
        have hk208 := fI_ne hM198 (by decide) hk194
        have hk209 := fI_ne hM198 (by decide) hk195
        have hF210 := fr_sI hF196 hM198 (by decide)
        show Wn _ 229 _ (124, [(1, .ref 16), (0, .ref 78)], [], M197)
        refine Wn.run (tab := tb_tl_readLine) rfl 1 (c' := (222, [(1, .ref 16), (0, .ref 78)], [], M197)) (o := []) rfl trivial ?_
        have e9 : rdRu T L mo p δ ν o ic = .inr (p3, su (su δ 3 x2) 4 x3, ν, o ||| 2 ^ 0, ic) := by unfold rdRu; rw [if_neg hb1]; simp only [hc2, hc3]
        rw [e9]
        refine Wn.vret rfl ⟨rfl, hF210, ⟨_, hq199⟩, ?_, ?_⟩
        · unfold CD; rw [hk202, hk203, hk204, hk205, hk206, hk207, hk208, hk209]; exact CD_su (CD_su hd (by decide) (by decide)) (by decide) (by decide)
        · unfold CF; rw [hk200, hk201]; exact CF_dl (δ := δ) rfl (CF_0 ho5 hf)
set_option maxRecDepth 20000 in
theorem c_tl_readLine_14 (d : Nat) (M : Mm) (T : Nat → Nat) (L mo p ta : Nat) (hR : RdL M T L mo p ta) (δ : Nat → Nat) (ν : Nat → Int64) (o : Nat) (ic : Int64) (hD : CD M δ ν) (hC : CF M δ o ic) (hδ : DW δ) (ho5 : o < 32) (hk : tKd T L mo p = 14) : Wn (d + 3) 229 (PRc M T L mo (rdOn T L mo p δ ν o ic 1 5 2 9)) (0, lv_args 0 [.ref 78], [], M) := by
  have hF := fr_rf [16, 17, 18, 20, 21, 22, 77, 78] M
  obtain ⟨g, ht⟩ : ∃ g, M.1 78 = g := ⟨_, rfl⟩
  obtain ⟨j, hj⟩ : ∃ j, M.2.1 78 = j := ⟨_, rfl⟩
  obtain ⟨gl, hl⟩ : ∃ g, M.1 16 = g := ⟨_, rfl⟩
  obtain ⟨J, hJ⟩ : ∃ g, M.2.1 17 = g := ⟨_, rfl⟩
  obtain ⟨lo, hlo⟩ : ∃ g, M.1 18 = g := ⟨_, rfl⟩
  obtain ⟨ice, hi⟩ : ∃ g, M.1 20 = g := ⟨_, rfl⟩
  obtain ⟨at_, ha⟩ : ∃ g, M.1 21 = g := ⟨_, rfl⟩
  obtain ⟨te, hte⟩ : ∃ g, M.1 22 = g := ⟨_, rfl⟩
  obtain ⟨f19, h19⟩ : ∃ g, M.1 19 = g := ⟨_, rfl⟩
  obtain ⟨pr, h23⟩ : ∃ g, M.1 23 = g := ⟨_, rfl⟩
  have hd : CDf gl J lo ice at_ te f19 pr δ ν := by rw [← hl, ← hJ, ← hlo, ← hi, ← ha, ← hte, ← h19, ← h23]; exact hD
  have hf : CFf g (j 8) δ o ic := by rw [← ht, ← hj]; exact hC
  obtain ⟨b0, b1, b2_9, bq, bc⟩ := id hδ.1
  refine Wn.run (tab := tb_tl_readLine) rfl 4 (c' := (8, [(1, .ref 16), (0, .ref 78)], [], M)) (o := [shp 78 = (0, 6), shp 15 = (0, 8)]) rfl ⟨rfl, rfl⟩ ?_
  refine Wn.run (tab := tb_tl_readLine) rfl 7 (c' := (tsw [5, 11, 214, 64, 71, 78, 85, 127, 156, 185] (Int32.ofInt (([0, 0, 0, 0, 0, 0, 0, 0, 17, 0, 5, 6, 7, 8, 9, 10, 11, 1, 2, 3, 4, 13, 14, 15, 12, 27, 26, 16, 18, 19, 20, 21, 22, 23, 24, 25] : List Int).getD ((nI ((M.2.2 77 10) - 100000))).toNatClampNeg 0)), [(1, .ref 16), (0, .ref 78)], [], M)) (o := [shp 78 = (0, 6), shp 77 = (0, 3), isK (M.2.2 77 10), ct [.ref 200003] ≤ 8, 200003 = 200003, vp_in (nI ((M.2.2 77 10) - 100000)) 36]) rfl ⟨rfl, rfl, (by rw [hR.1.2.2.2.2.2.2.1]; exact isK_kR _ _ _ _), (Nat.le_of_ble_eq_true rfl), rfl, (vp_in_nI (by rw [hR.1.2.2.2.2.2.2.1]; exact kR_ix _ _ _ _) (by decide))⟩ ?_
  rw [show (M.2.2 77 10) = 100014 from hR.1.2.2.2.2.2.2.1.trans ((kR_iff (by decide) (by decide)).mpr hk)]
  rw [show tsw [5, 11, 214, 64, 71, 78, 85, 127, 156, 185] (Int32.ofInt (([0, 0, 0, 0, 0, 0, 0, 0, 17, 0, 5, 6, 7, 8, 9, 10, 11, 1, 2, 3, 4, 13, 14, 15, 12, 27, 26, 16, 18, 19, 20, 21, 22, 23, 24, 25] : List Int).getD ((nI (100014 - 100000))).toNatClampNeg 0)) = 127 from by decide]
  show Wn _ 229 _ (127, [(1, .ref 16), (0, .ref 78)], [], M)
  refine Wn.run (tab := tb_tl_readLine) rfl 4 (c' := (133, [(1, .ref 16), (0, .ref 78)], [.int (M.1 78 4), .ref 78, .ref 78], M)) (o := [shp 78 = (0, 6)]) rfl rfl ?_
  rw [show (M.1 78 4) = (b2 (o.testBit 1 = true)) from (fr_eq ht (show g 4 = (b2 (o.testBit 1 = true)) from hf.2.2.1))]
  by_cases hb1 : o.testBit 1 = true
  · rw [show (b2 (o.testBit 1 = true)) = (nI 1) from b2_t hb1]
    refine Wn.callV (p := 78) (n := 2) (ix := 95) (ci := (6)) (PFl M 3 (tAt T L mo p) (some (.int (nI 1)))) [.int (nI 1)] [.ref 78] rfl rfl rfl rfl (Nat.le_of_ble_eq_true rfl) (Nat.le_of_ble_eq_true rfl) (c_tl_takeOnce_no _ M T L mo p ta hR) ?_
    rintro _ M1 ⟨rfl, hq2, hF3⟩
    show Wn _ 229 _ (136, [(1, .ref 16), (0, .ref 78)], [.int (nI 1), .ref 78], M1)
    have hk4 := frI_fun hF3 (by decide) ht
    have hk5 := frJ_fun hF3 (by decide) hj
    have hk6 := frI_fun hF3 (by decide) hl
    have hk7 := frJ_fun hF3 (by decide) hJ
    have hk8 := frI_fun hF3 (by decide) hlo
    have hk9 := frI_fun hF3 (by decide) hi
    have hk10 := frI_fun hF3 (by decide) ha
    have hk11 := frI_fun hF3 (by decide) hte
    have hk12 := frI_fun hF3 (by decide) h19
    have hk13 := frI_fun hF3 (by decide) h23
    have hF14 := fr_tr hF hF3 (by decide)
    refine Wn.run (tab := tb_tl_readLine) rfl 1 (c' := (139, [(1, .ref 16), (0, .ref 78)], [], (mI M1 78 (upd (M1.1 78) 4 (nI 1))))) (o := [shp 78 = (0, 6), is01 (nI 1)]) rfl ⟨rfl, (Or.inr rfl)⟩ ?_
    generalize hM16 : (mI M1 78 (upd (M1.1 78) 4 (nI 1))) = M15
    have hq17 := RdD_fr (fr_1I hM16) (by decide) hq2
    have hk18 := fI_up hM16 hk4
    have hk19 := fJ_oI hM16 hk5
    have hk20 := fI_ne hM16 (by decide) hk6
    have hk21 := fJ_oI hM16 hk7
    have hk22 := fI_ne hM16 (by decide) hk8
    have hk23 := fI_ne hM16 (by decide) hk9
    have hk24 := fI_ne hM16 (by decide) hk10
    have hk25 := fI_ne hM16 (by decide) hk11
    have hk26 := fI_ne hM16 (by decide) hk12
    have hk27 := fI_ne hM16 (by decide) hk13
    have hF28 := fr_sI hF14 hM16 (by decide)
    show Wn _ 229 _ (139, [(1, .ref 16), (0, .ref 78)], [], M15)
    refine Wn.run (tab := tb_tl_readLine) rfl 5 (c' := (147, [(1, .ref 16), (0, .ref 78)], [.int (nI 9), .int (nI 2), .ref 77, .ref 16], M15)) (o := [shp 78 = (0, 6)]) rfl rfl ?_
    refine Wn.callV (p := 77) (n := 3) (ix := 99) (ci := (3)) (fun r0 M9 => r0 = some (.int (nI 2)) ∧ M9 = M15) [.int (nI 2), .int (nI 9)] [.ref 16] rfl rfl rfl rfl (Nat.le_of_ble_eq_true rfl) (Nat.le_of_ble_eq_true rfl) (c_rd_takeNumberD _ M15 3 (tAt T L mo p) hq17 (nI 2) (nI 9)) ?_
    rintro _ M9 ⟨rfl, hsm⟩
    obtain rfl := hsm.symm
    show Wn _ 229 _ (150, [(1, .ref 16), (0, .ref 78)], [.int (nI 2), .ref 16], M15)
    refine Wn.run (tab := tb_tl_readLine) rfl 1 (c' := (153, [(1, .ref 16), (0, .ref 78)], [], (mI M15 16 (upd (M15.1 16) 5 (nI 2))))) (o := [shp 16 = (0, 2)]) rfl rfl ?_
    generalize hM30 : (mI M15 16 (upd (M15.1 16) 5 (nI 2))) = M29
    have hq31 := RdD_fr (fr_1I hM30) (by decide) hq17
    have hk32 := fI_ne hM30 (by decide) hk18
    have hk33 := fJ_oI hM30 hk19
    have hk34 := fI_up hM30 hk20
    have hk35 := fJ_oI hM30 hk21
    have hk36 := fI_ne hM30 (by decide) hk22
    have hk37 := fI_ne hM30 (by decide) hk23
    have hk38 := fI_ne hM30 (by decide) hk24
    have hk39 := fI_ne hM30 (by decide) hk25
    have hk40 := fI_ne hM30 (by decide) hk26
    have hk41 := fI_ne hM30 (by decide) hk27
    have hF42 := fr_sI hF28 hM30 (by decide)
    show Wn _ 229 _ (153, [(1, .ref 16), (0, .ref 78)], [], M29)
    refine Wn.run (tab := tb_tl_readLine) rfl 1 (c' := (222, [(1, .ref 16), (0, .ref 78)], [], M29)) (o := []) rfl trivial ?_
    have e9 : rdOn T L mo p δ ν o ic 1 5 2 9 = .inl (3, tAt T L mo p) := by unfold rdOn; rw [if_pos hb1]
    rw [e9]
    exact Wn.vret rfl ⟨rfl, hF42, hq31⟩
  · rw [show (b2 (o.testBit 1 = true)) = (nI 0) from b2_f hb1]
    refine Wn.callV (p := 78) (n := 2) (ix := 95) (ci := (6)) (PLv M T L mo (tNx T L p) (tAt T L mo p) (some (.int (nI 1)))) [.int (nI 0)] [.ref 78] rfl rfl rfl rfl (Nat.le_of_ble_eq_true rfl) (Nat.le_of_ble_eq_true rfl) (c_tl_takeOnce_ok _ M T L mo p ta hR (by omega) (by omega)) ?_
    rintro _ M43 ⟨rfl, hq44, hF45⟩
    show Wn _ 229 _ (136, [(1, .ref 16), (0, .ref 78)], [.int (nI 1), .ref 78], M43)
    have hk46 := frI_fun hF45 (by decide) ht
    have hk47 := frJ_fun hF45 (by decide) hj
    have hk48 := frI_fun hF45 (by decide) hl
    have hk49 := frJ_fun hF45 (by decide) hJ
    have hk50 := frI_fun hF45 (by decide) hlo
    have hk51 := frI_fun hF45 (by decide) hi
    have hk52 := frI_fun hF45 (by decide) ha
    have hk53 := frI_fun hF45 (by decide) hte
    have hk54 := frI_fun hF45 (by decide) h19
    have hk55 := frI_fun hF45 (by decide) h23
    have hF56 := fr_tr hF hF45 (by decide)
    refine Wn.run (tab := tb_tl_readLine) rfl 1 (c' := (139, [(1, .ref 16), (0, .ref 78)], [], (mI M43 78 (upd (M43.1 78) 4 (nI 1))))) (o := [shp 78 = (0, 6), is01 (nI 1)]) rfl ⟨rfl, (Or.inr rfl)⟩ ?_
    generalize hM58 : (mI M43 78 (upd (M43.1 78) 4 (nI 1))) = M57
    have hq59 := RdL_fr (fr_1I hM58) (by decide) hq44
    have hk60 := fI_up hM58 hk46
    have hk61 := fJ_oI hM58 hk47
    have hk62 := fI_ne hM58 (by decide) hk48
    have hk63 := fJ_oI hM58 hk49
    have hk64 := fI_ne hM58 (by decide) hk50
    have hk65 := fI_ne hM58 (by decide) hk51
    have hk66 := fI_ne hM58 (by decide) hk52
    have hk67 := fI_ne hM58 (by decide) hk53
    have hk68 := fI_ne hM58 (by decide) hk54
    have hk69 := fI_ne hM58 (by decide) hk55
    have hF70 := fr_sI hF56 hM58 (by decide)
    show Wn _ 229 _ (139, [(1, .ref 16), (0, .ref 78)], [], M57)
    refine Wn.run (tab := tb_tl_readLine) rfl 5 (c' := (147, [(1, .ref 16), (0, .ref 78)], [.int (nI 9), .int (nI 2), .ref 77, .ref 16], M57)) (o := [shp 78 = (0, 6)]) rfl rfl ?_
    cases hc2 : tkN T L mo (tNx T L p) 2 9 with
    | inl f2 =>
      refine Wn.callV (p := 77) (n := 3) (ix := 99) (ci := (3)) (PFl M57 f2.1 f2.2 (some (.int (nI 2)))) [.int (nI 2), .int (nI 9)] [.ref 16] rfl rfl rfl rfl (Nat.le_of_ble_eq_true rfl) (Nat.le_of_ble_eq_true rfl) (c_rd_takeE _ M57 T L mo (tNx T L p) (tAt T L mo p) hq59 2 9 (by omega) (by omega) f2 hc2) ?_
      rintro _ M71 ⟨rfl, hq72, hF73⟩
      show Wn _ 229 _ (150, [(1, .ref 16), (0, .ref 78)], [.int (nI 2), .ref 16], M71)
      have hk74 := frI_fun hF73 (by decide) hk60
      have hk75 := frJ_fun hF73 (by decide) hk61
      have hk76 := frI_fun hF73 (by decide) hk62
      have hk77 := frJ_fun hF73 (by decide) hk63
      have hk78 := frI_fun hF73 (by decide) hk64
      have hk79 := frI_fun hF73 (by decide) hk65
      have hk80 := frI_fun hF73 (by decide) hk66
      have hk81 := frI_fun hF73 (by decide) hk67
      have hk82 := frI_fun hF73 (by decide) hk68
      have hk83 := frI_fun hF73 (by decide) hk69
      have hF84 := fr_tr hF70 hF73 (by decide)
      refine Wn.run (tab := tb_tl_readLine) rfl 1 (c' := (153, [(1, .ref 16), (0, .ref 78)], [], (mI M71 16 (upd (M71.1 16) 5 (nI 2))))) (o := [shp 16 = (0, 2)]) rfl rfl ?_
      generalize hM86 : (mI M71 16 (upd (M71.1 16) 5 (nI 2))) = M85
      have hq87 := RdD_fr (fr_1I hM86) (by decide) hq72
      have hk88 := fI_ne hM86 (by decide) hk74
      have hk89 := fJ_oI hM86 hk75
      have hk90 := fI_up hM86 hk76
      have hk91 := fJ_oI hM86 hk77
      have hk92 := fI_ne hM86 (by decide) hk78
      have hk93 := fI_ne hM86 (by decide) hk79
      have hk94 := fI_ne hM86 (by decide) hk80
      have hk95 := fI_ne hM86 (by decide) hk81
      have hk96 := fI_ne hM86 (by decide) hk82
      have hk97 := fI_ne hM86 (by decide) hk83
      have hF98 := fr_sI hF84 hM86 (by decide)
      show Wn _ 229 _ (153, [(1, .ref 16), (0, .ref 78)], [], M85)
      refine Wn.run (tab := tb_tl_readLine) rfl 1 (c' := (222, [(1, .ref 16), (0, .ref 78)], [], M85)) (o := []) rfl trivial ?_
      have e9 : rdOn T L mo p δ ν o ic 1 5 2 9 = .inl f2 := by unfold rdOn; rw [if_neg hb1]; simp only [hc2]
      rw [e9]
      exact Wn.vret rfl ⟨rfl, hF98, hq87⟩
    | inr v2 =>
      obtain ⟨x2, p2⟩ := v2
      have bd2 : 2 ≤ x2 ∧ x2 ≤ 9 := by obtain ⟨q1, q2, q3⟩ := tkN_inr hc2; cases q3; exact q2
      refine Wn.callV (p := 77) (n := 3) (ix := 99) (ci := (3)) (PLv M57 T L mo p2 (tAt T L mo (tNx T L p)) (some (.int (nI x2)))) [.int (nI 2), .int (nI 9)] [.ref 16] rfl rfl rfl rfl (Nat.le_of_ble_eq_true rfl) (Nat.le_of_ble_eq_true rfl) (c_rd_takeV _ M57 T L mo (tNx T L p) (tAt T L mo p) hq59 2 9 (by omega) (by omega) (x2, p2) hc2) ?_
      rintro _ M99 ⟨rfl, hq100, hF101⟩
      show Wn _ 229 _ (150, [(1, .ref 16), (0, .ref 78)], [.int (nI x2), .ref 16], M99)
      have hk102 := frI_fun hF101 (by decide) hk60
      have hk103 := frJ_fun hF101 (by decide) hk61
      have hk104 := frI_fun hF101 (by decide) hk62
      have hk105 := frJ_fun hF101 (by decide) hk63
      have hk106 := frI_fun hF101 (by decide) hk64
      have hk107 := frI_fun hF101 (by decide) hk65
      have hk108 := frI_fun hF101 (by decide) hk66
      have hk109 := frI_fun hF101 (by decide) hk67
      have hk110 := frI_fun hF101 (by decide) hk68
      have hk111 := frI_fun hF101 (by decide) hk69
      have hF112 := fr_tr hF70 hF101 (by decide)
      refine Wn.run (tab := tb_tl_readLine) rfl 1 (c' := (153, [(1, .ref 16), (0, .ref 78)], [], (mI M99 16 (upd (M99.1 16) 5 (nI x2))))) (o := [shp 16 = (0, 2)]) rfl rfl ?_
      generalize hM114 : (mI M99 16 (upd (M99.1 16) 5 (nI x2))) = M113
      have hq115 := RdL_fr (fr_1I hM114) (by decide) hq100
      have hk116 := fI_ne hM114 (by decide) hk102
      have hk117 := fJ_oI hM114 hk103
      have hk118 := fI_up hM114 hk104
      have hk119 := fJ_oI hM114 hk105
      have hk120 := fI_ne hM114 (by decide) hk106
      have hk121 := fI_ne hM114 (by decide) hk107
      have hk122 := fI_ne hM114 (by decide) hk108
      have hk123 := fI_ne hM114 (by decide) hk109
      have hk124 := fI_ne hM114 (by decide) hk110
      have hk125 := fI_ne hM114 (by decide) hk111
      have hF126 := fr_sI hF112 hM114 (by decide)
      show Wn _ 229 _ (153, [(1, .ref 16), (0, .ref 78)], [], M113)
      refine Wn.run (tab := tb_tl_readLine) rfl 1 (c' := (222, [(1, .ref 16), (0, .ref 78)], [], M113)) (o := []) rfl trivial ?_
      have e9 : rdOn T L mo p δ ν o ic 1 5 2 9 = .inr (p2, su δ 5 x2, ν, o ||| 2 ^ 1, ic) := by unfold rdOn; rw [if_neg hb1]; simp only [hc2]
      rw [e9]
      refine Wn.vret rfl ⟨rfl, hF126, ⟨_, hq115⟩, ?_, ?_⟩
      · unfold CD; rw [hk118, hk119, hk120, hk121, hk122, hk123, hk124, hk125]; exact CD_su hd (by decide) (by decide)
      · unfold CF; rw [hk116, hk117]; exact CF_dl (δ := δ) rfl (CF_1 ho5 hf)
set_option maxRecDepth 20000 in
theorem c_tl_readLine_15 (d : Nat) (M : Mm) (T : Nat → Nat) (L mo p ta : Nat) (hR : RdL M T L mo p ta) (δ : Nat → Nat) (ν : Nat → Int64) (o : Nat) (ic : Int64) (hD : CD M δ ν) (hC : CF M δ o ic) (hδ : DW δ) (ho5 : o < 32) (hk : tKd T L mo p = 15) : Wn (d + 3) 229 (PRc M T L mo (rdOn T L mo p δ ν o ic 2 6 1 9)) (0, lv_args 0 [.ref 78], [], M) := by
  have hF := fr_rf [16, 17, 18, 20, 21, 22, 77, 78] M
  obtain ⟨g, ht⟩ : ∃ g, M.1 78 = g := ⟨_, rfl⟩
  obtain ⟨j, hj⟩ : ∃ j, M.2.1 78 = j := ⟨_, rfl⟩
  obtain ⟨gl, hl⟩ : ∃ g, M.1 16 = g := ⟨_, rfl⟩
  obtain ⟨J, hJ⟩ : ∃ g, M.2.1 17 = g := ⟨_, rfl⟩
  obtain ⟨lo, hlo⟩ : ∃ g, M.1 18 = g := ⟨_, rfl⟩
  obtain ⟨ice, hi⟩ : ∃ g, M.1 20 = g := ⟨_, rfl⟩
  obtain ⟨at_, ha⟩ : ∃ g, M.1 21 = g := ⟨_, rfl⟩
  obtain ⟨te, hte⟩ : ∃ g, M.1 22 = g := ⟨_, rfl⟩
  obtain ⟨f19, h19⟩ : ∃ g, M.1 19 = g := ⟨_, rfl⟩
  obtain ⟨pr, h23⟩ : ∃ g, M.1 23 = g := ⟨_, rfl⟩
  have hd : CDf gl J lo ice at_ te f19 pr δ ν := by rw [← hl, ← hJ, ← hlo, ← hi, ← ha, ← hte, ← h19, ← h23]; exact hD
  have hf : CFf g (j 8) δ o ic := by rw [← ht, ← hj]; exact hC
  obtain ⟨b0, b1, b2_9, bq, bc⟩ := id hδ.1
  refine Wn.run (tab := tb_tl_readLine) rfl 4 (c' := (8, [(1, .ref 16), (0, .ref 78)], [], M)) (o := [shp 78 = (0, 6), shp 15 = (0, 8)]) rfl ⟨rfl, rfl⟩ ?_
  refine Wn.run (tab := tb_tl_readLine) rfl 7 (c' := (tsw [5, 11, 214, 64, 71, 78, 85, 127, 156, 185] (Int32.ofInt (([0, 0, 0, 0, 0, 0, 0, 0, 17, 0, 5, 6, 7, 8, 9, 10, 11, 1, 2, 3, 4, 13, 14, 15, 12, 27, 26, 16, 18, 19, 20, 21, 22, 23, 24, 25] : List Int).getD ((nI ((M.2.2 77 10) - 100000))).toNatClampNeg 0)), [(1, .ref 16), (0, .ref 78)], [], M)) (o := [shp 78 = (0, 6), shp 77 = (0, 3), isK (M.2.2 77 10), ct [.ref 200003] ≤ 8, 200003 = 200003, vp_in (nI ((M.2.2 77 10) - 100000)) 36]) rfl ⟨rfl, rfl, (by rw [hR.1.2.2.2.2.2.2.1]; exact isK_kR _ _ _ _), (Nat.le_of_ble_eq_true rfl), rfl, (vp_in_nI (by rw [hR.1.2.2.2.2.2.2.1]; exact kR_ix _ _ _ _) (by decide))⟩ ?_
  rw [show (M.2.2 77 10) = 100015 from hR.1.2.2.2.2.2.2.1.trans ((kR_iff (by decide) (by decide)).mpr hk)]
  rw [show tsw [5, 11, 214, 64, 71, 78, 85, 127, 156, 185] (Int32.ofInt (([0, 0, 0, 0, 0, 0, 0, 0, 17, 0, 5, 6, 7, 8, 9, 10, 11, 1, 2, 3, 4, 13, 14, 15, 12, 27, 26, 16, 18, 19, 20, 21, 22, 23, 24, 25] : List Int).getD ((nI (100015 - 100000))).toNatClampNeg 0)) = 156 from by decide]
  show Wn _ 229 _ (156, [(1, .ref 16), (0, .ref 78)], [], M)
  refine Wn.run (tab := tb_tl_readLine) rfl 4 (c' := (162, [(1, .ref 16), (0, .ref 78)], [.int (M.1 78 5), .ref 78, .ref 78], M)) (o := [shp 78 = (0, 6)]) rfl rfl ?_
  rw [show (M.1 78 5) = (b2 (o.testBit 2 = true)) from (fr_eq ht (show g 5 = (b2 (o.testBit 2 = true)) from hf.2.2.2.1))]
  by_cases hb1 : o.testBit 2 = true
  · rw [show (b2 (o.testBit 2 = true)) = (nI 1) from b2_t hb1]
    refine Wn.callV (p := 78) (n := 2) (ix := 95) (ci := (6)) (PFl M 3 (tAt T L mo p) (some (.int (nI 1)))) [.int (nI 1)] [.ref 78] rfl rfl rfl rfl (Nat.le_of_ble_eq_true rfl) (Nat.le_of_ble_eq_true rfl) (c_tl_takeOnce_no _ M T L mo p ta hR) ?_
    rintro _ M1 ⟨rfl, hq2, hF3⟩
    show Wn _ 229 _ (165, [(1, .ref 16), (0, .ref 78)], [.int (nI 1), .ref 78], M1)
    have hk4 := frI_fun hF3 (by decide) ht
    have hk5 := frJ_fun hF3 (by decide) hj
    have hk6 := frI_fun hF3 (by decide) hl
    have hk7 := frJ_fun hF3 (by decide) hJ
    have hk8 := frI_fun hF3 (by decide) hlo
    have hk9 := frI_fun hF3 (by decide) hi
    have hk10 := frI_fun hF3 (by decide) ha
    have hk11 := frI_fun hF3 (by decide) hte
    have hk12 := frI_fun hF3 (by decide) h19
    have hk13 := frI_fun hF3 (by decide) h23
    have hF14 := fr_tr hF hF3 (by decide)
    refine Wn.run (tab := tb_tl_readLine) rfl 1 (c' := (168, [(1, .ref 16), (0, .ref 78)], [], (mI M1 78 (upd (M1.1 78) 5 (nI 1))))) (o := [shp 78 = (0, 6), is01 (nI 1)]) rfl ⟨rfl, (Or.inr rfl)⟩ ?_
    generalize hM16 : (mI M1 78 (upd (M1.1 78) 5 (nI 1))) = M15
    have hq17 := RdD_fr (fr_1I hM16) (by decide) hq2
    have hk18 := fI_up hM16 hk4
    have hk19 := fJ_oI hM16 hk5
    have hk20 := fI_ne hM16 (by decide) hk6
    have hk21 := fJ_oI hM16 hk7
    have hk22 := fI_ne hM16 (by decide) hk8
    have hk23 := fI_ne hM16 (by decide) hk9
    have hk24 := fI_ne hM16 (by decide) hk10
    have hk25 := fI_ne hM16 (by decide) hk11
    have hk26 := fI_ne hM16 (by decide) hk12
    have hk27 := fI_ne hM16 (by decide) hk13
    have hF28 := fr_sI hF14 hM16 (by decide)
    show Wn _ 229 _ (168, [(1, .ref 16), (0, .ref 78)], [], M15)
    refine Wn.run (tab := tb_tl_readLine) rfl 5 (c' := (176, [(1, .ref 16), (0, .ref 78)], [.int (nI 9), .int (nI 1), .ref 77, .ref 16], M15)) (o := [shp 78 = (0, 6)]) rfl rfl ?_
    refine Wn.callV (p := 77) (n := 3) (ix := 99) (ci := (3)) (fun r0 M9 => r0 = some (.int (nI 1)) ∧ M9 = M15) [.int (nI 1), .int (nI 9)] [.ref 16] rfl rfl rfl rfl (Nat.le_of_ble_eq_true rfl) (Nat.le_of_ble_eq_true rfl) (c_rd_takeNumberD _ M15 3 (tAt T L mo p) hq17 (nI 1) (nI 9)) ?_
    rintro _ M9 ⟨rfl, hsm⟩
    obtain rfl := hsm.symm
    show Wn _ 229 _ (179, [(1, .ref 16), (0, .ref 78)], [.int (nI 1), .ref 16], M15)
    refine Wn.run (tab := tb_tl_readLine) rfl 1 (c' := (182, [(1, .ref 16), (0, .ref 78)], [], (mI M15 16 (upd (M15.1 16) 6 (nI 1))))) (o := [shp 16 = (0, 2)]) rfl rfl ?_
    generalize hM30 : (mI M15 16 (upd (M15.1 16) 6 (nI 1))) = M29
    have hq31 := RdD_fr (fr_1I hM30) (by decide) hq17
    have hk32 := fI_ne hM30 (by decide) hk18
    have hk33 := fJ_oI hM30 hk19
    have hk34 := fI_up hM30 hk20
    have hk35 := fJ_oI hM30 hk21
    have hk36 := fI_ne hM30 (by decide) hk22
    have hk37 := fI_ne hM30 (by decide) hk23
    have hk38 := fI_ne hM30 (by decide) hk24
    have hk39 := fI_ne hM30 (by decide) hk25
    have hk40 := fI_ne hM30 (by decide) hk26
    have hk41 := fI_ne hM30 (by decide) hk27
    have hF42 := fr_sI hF28 hM30 (by decide)
    show Wn _ 229 _ (182, [(1, .ref 16), (0, .ref 78)], [], M29)
    refine Wn.run (tab := tb_tl_readLine) rfl 1 (c' := (222, [(1, .ref 16), (0, .ref 78)], [], M29)) (o := []) rfl trivial ?_
    have e9 : rdOn T L mo p δ ν o ic 2 6 1 9 = .inl (3, tAt T L mo p) := by unfold rdOn; rw [if_pos hb1]
    rw [e9]
    exact Wn.vret rfl ⟨rfl, hF42, hq31⟩
  · rw [show (b2 (o.testBit 2 = true)) = (nI 0) from b2_f hb1]
    refine Wn.callV (p := 78) (n := 2) (ix := 95) (ci := (6)) (PLv M T L mo (tNx T L p) (tAt T L mo p) (some (.int (nI 1)))) [.int (nI 0)] [.ref 78] rfl rfl rfl rfl (Nat.le_of_ble_eq_true rfl) (Nat.le_of_ble_eq_true rfl) (c_tl_takeOnce_ok _ M T L mo p ta hR (by omega) (by omega)) ?_
    rintro _ M43 ⟨rfl, hq44, hF45⟩
    show Wn _ 229 _ (165, [(1, .ref 16), (0, .ref 78)], [.int (nI 1), .ref 78], M43)
    have hk46 := frI_fun hF45 (by decide) ht
    have hk47 := frJ_fun hF45 (by decide) hj
    have hk48 := frI_fun hF45 (by decide) hl
    have hk49 := frJ_fun hF45 (by decide) hJ
    have hk50 := frI_fun hF45 (by decide) hlo
    have hk51 := frI_fun hF45 (by decide) hi
    have hk52 := frI_fun hF45 (by decide) ha
    have hk53 := frI_fun hF45 (by decide) hte
    have hk54 := frI_fun hF45 (by decide) h19
    have hk55 := frI_fun hF45 (by decide) h23
    have hF56 := fr_tr hF hF45 (by decide)
    refine Wn.run (tab := tb_tl_readLine) rfl 1 (c' := (168, [(1, .ref 16), (0, .ref 78)], [], (mI M43 78 (upd (M43.1 78) 5 (nI 1))))) (o := [shp 78 = (0, 6), is01 (nI 1)]) rfl ⟨rfl, (Or.inr rfl)⟩ ?_
    generalize hM58 : (mI M43 78 (upd (M43.1 78) 5 (nI 1))) = M57
    have hq59 := RdL_fr (fr_1I hM58) (by decide) hq44
    have hk60 := fI_up hM58 hk46
    have hk61 := fJ_oI hM58 hk47
    have hk62 := fI_ne hM58 (by decide) hk48
    have hk63 := fJ_oI hM58 hk49
    have hk64 := fI_ne hM58 (by decide) hk50
    have hk65 := fI_ne hM58 (by decide) hk51
    have hk66 := fI_ne hM58 (by decide) hk52
    have hk67 := fI_ne hM58 (by decide) hk53
    have hk68 := fI_ne hM58 (by decide) hk54
    have hk69 := fI_ne hM58 (by decide) hk55
    have hF70 := fr_sI hF56 hM58 (by decide)
    show Wn _ 229 _ (168, [(1, .ref 16), (0, .ref 78)], [], M57)
    refine Wn.run (tab := tb_tl_readLine) rfl 5 (c' := (176, [(1, .ref 16), (0, .ref 78)], [.int (nI 9), .int (nI 1), .ref 77, .ref 16], M57)) (o := [shp 78 = (0, 6)]) rfl rfl ?_
    cases hc2 : tkN T L mo (tNx T L p) 1 9 with
    | inl f2 =>
      refine Wn.callV (p := 77) (n := 3) (ix := 99) (ci := (3)) (PFl M57 f2.1 f2.2 (some (.int (nI 1)))) [.int (nI 1), .int (nI 9)] [.ref 16] rfl rfl rfl rfl (Nat.le_of_ble_eq_true rfl) (Nat.le_of_ble_eq_true rfl) (c_rd_takeE _ M57 T L mo (tNx T L p) (tAt T L mo p) hq59 1 9 (by omega) (by omega) f2 hc2) ?_
      rintro _ M71 ⟨rfl, hq72, hF73⟩
      show Wn _ 229 _ (179, [(1, .ref 16), (0, .ref 78)], [.int (nI 1), .ref 16], M71)
      have hk74 := frI_fun hF73 (by decide) hk60
      have hk75 := frJ_fun hF73 (by decide) hk61
      have hk76 := frI_fun hF73 (by decide) hk62
      have hk77 := frJ_fun hF73 (by decide) hk63
      have hk78 := frI_fun hF73 (by decide) hk64
      have hk79 := frI_fun hF73 (by decide) hk65
      have hk80 := frI_fun hF73 (by decide) hk66
      have hk81 := frI_fun hF73 (by decide) hk67
      have hk82 := frI_fun hF73 (by decide) hk68
      have hk83 := frI_fun hF73 (by decide) hk69
      have hF84 := fr_tr hF70 hF73 (by decide)
      refine Wn.run (tab := tb_tl_readLine) rfl 1 (c' := (182, [(1, .ref 16), (0, .ref 78)], [], (mI M71 16 (upd (M71.1 16) 6 (nI 1))))) (o := [shp 16 = (0, 2)]) rfl rfl ?_
      generalize hM86 : (mI M71 16 (upd (M71.1 16) 6 (nI 1))) = M85
      have hq87 := RdD_fr (fr_1I hM86) (by decide) hq72
      have hk88 := fI_ne hM86 (by decide) hk74
      have hk89 := fJ_oI hM86 hk75
      have hk90 := fI_up hM86 hk76
      have hk91 := fJ_oI hM86 hk77
      have hk92 := fI_ne hM86 (by decide) hk78
      have hk93 := fI_ne hM86 (by decide) hk79
      have hk94 := fI_ne hM86 (by decide) hk80
      have hk95 := fI_ne hM86 (by decide) hk81
      have hk96 := fI_ne hM86 (by decide) hk82
      have hk97 := fI_ne hM86 (by decide) hk83
      have hF98 := fr_sI hF84 hM86 (by decide)
      show Wn _ 229 _ (182, [(1, .ref 16), (0, .ref 78)], [], M85)
      refine Wn.run (tab := tb_tl_readLine) rfl 1 (c' := (222, [(1, .ref 16), (0, .ref 78)], [], M85)) (o := []) rfl trivial ?_
      have e9 : rdOn T L mo p δ ν o ic 2 6 1 9 = .inl f2 := by unfold rdOn; rw [if_neg hb1]; simp only [hc2]
      rw [e9]
      exact Wn.vret rfl ⟨rfl, hF98, hq87⟩
    | inr v2 =>
      obtain ⟨x2, p2⟩ := v2
      have bd2 : 1 ≤ x2 ∧ x2 ≤ 9 := by obtain ⟨q1, q2, q3⟩ := tkN_inr hc2; cases q3; exact q2
      refine Wn.callV (p := 77) (n := 3) (ix := 99) (ci := (3)) (PLv M57 T L mo p2 (tAt T L mo (tNx T L p)) (some (.int (nI x2)))) [.int (nI 1), .int (nI 9)] [.ref 16] rfl rfl rfl rfl (Nat.le_of_ble_eq_true rfl) (Nat.le_of_ble_eq_true rfl) (c_rd_takeV _ M57 T L mo (tNx T L p) (tAt T L mo p) hq59 1 9 (by omega) (by omega) (x2, p2) hc2) ?_
      rintro _ M99 ⟨rfl, hq100, hF101⟩
      show Wn _ 229 _ (179, [(1, .ref 16), (0, .ref 78)], [.int (nI x2), .ref 16], M99)
      have hk102 := frI_fun hF101 (by decide) hk60
      have hk103 := frJ_fun hF101 (by decide) hk61
      have hk104 := frI_fun hF101 (by decide) hk62
      have hk105 := frJ_fun hF101 (by decide) hk63
      have hk106 := frI_fun hF101 (by decide) hk64
      have hk107 := frI_fun hF101 (by decide) hk65
      have hk108 := frI_fun hF101 (by decide) hk66
      have hk109 := frI_fun hF101 (by decide) hk67
      have hk110 := frI_fun hF101 (by decide) hk68
      have hk111 := frI_fun hF101 (by decide) hk69
      have hF112 := fr_tr hF70 hF101 (by decide)
      refine Wn.run (tab := tb_tl_readLine) rfl 1 (c' := (182, [(1, .ref 16), (0, .ref 78)], [], (mI M99 16 (upd (M99.1 16) 6 (nI x2))))) (o := [shp 16 = (0, 2)]) rfl rfl ?_
      generalize hM114 : (mI M99 16 (upd (M99.1 16) 6 (nI x2))) = M113
      have hq115 := RdL_fr (fr_1I hM114) (by decide) hq100
      have hk116 := fI_ne hM114 (by decide) hk102
      have hk117 := fJ_oI hM114 hk103
      have hk118 := fI_up hM114 hk104
      have hk119 := fJ_oI hM114 hk105
      have hk120 := fI_ne hM114 (by decide) hk106
      have hk121 := fI_ne hM114 (by decide) hk107
      have hk122 := fI_ne hM114 (by decide) hk108
      have hk123 := fI_ne hM114 (by decide) hk109
      have hk124 := fI_ne hM114 (by decide) hk110
      have hk125 := fI_ne hM114 (by decide) hk111
      have hF126 := fr_sI hF112 hM114 (by decide)
      show Wn _ 229 _ (182, [(1, .ref 16), (0, .ref 78)], [], M113)
      refine Wn.run (tab := tb_tl_readLine) rfl 1 (c' := (222, [(1, .ref 16), (0, .ref 78)], [], M113)) (o := []) rfl trivial ?_
      have e9 : rdOn T L mo p δ ν o ic 2 6 1 9 = .inr (p2, su δ 6 x2, ν, o ||| 2 ^ 2, ic) := by unfold rdOn; rw [if_neg hb1]; simp only [hc2]
      rw [e9]
      refine Wn.vret rfl ⟨rfl, hF126, ⟨_, hq115⟩, ?_, ?_⟩
      · unfold CD; rw [hk118, hk119, hk120, hk121, hk122, hk123, hk124, hk125]; exact CD_su hd (by decide) (by decide)
      · unfold CF; rw [hk116, hk117]; exact CF_dl (δ := δ) rfl (CF_2 ho5 hf)
set_option maxRecDepth 20000 in
theorem c_tl_readLine_16 (d : Nat) (M : Mm) (T : Nat → Nat) (L mo p ta : Nat) (hR : RdL M T L mo p ta) (δ : Nat → Nat) (ν : Nat → Int64) (o : Nat) (ic : Int64) (hD : CD M δ ν) (hC : CF M δ o ic) (hδ : DW δ) (ho5 : o < 32) (hk : tKd T L mo p = 16) : Wn (d + 3) 229 (PRc M T L mo (rdOn T L mo p δ ν o ic 3 7 1 30)) (0, lv_args 0 [.ref 78], [], M) := by
  have hF := fr_rf [16, 17, 18, 20, 21, 22, 77, 78] M
  obtain ⟨g, ht⟩ : ∃ g, M.1 78 = g := ⟨_, rfl⟩
  obtain ⟨j, hj⟩ : ∃ j, M.2.1 78 = j := ⟨_, rfl⟩
  obtain ⟨gl, hl⟩ : ∃ g, M.1 16 = g := ⟨_, rfl⟩
  obtain ⟨J, hJ⟩ : ∃ g, M.2.1 17 = g := ⟨_, rfl⟩
  obtain ⟨lo, hlo⟩ : ∃ g, M.1 18 = g := ⟨_, rfl⟩
  obtain ⟨ice, hi⟩ : ∃ g, M.1 20 = g := ⟨_, rfl⟩
  obtain ⟨at_, ha⟩ : ∃ g, M.1 21 = g := ⟨_, rfl⟩
  obtain ⟨te, hte⟩ : ∃ g, M.1 22 = g := ⟨_, rfl⟩
  obtain ⟨f19, h19⟩ : ∃ g, M.1 19 = g := ⟨_, rfl⟩
  obtain ⟨pr, h23⟩ : ∃ g, M.1 23 = g := ⟨_, rfl⟩
  have hd : CDf gl J lo ice at_ te f19 pr δ ν := by rw [← hl, ← hJ, ← hlo, ← hi, ← ha, ← hte, ← h19, ← h23]; exact hD
  have hf : CFf g (j 8) δ o ic := by rw [← ht, ← hj]; exact hC
  obtain ⟨b0, b1, b2_9, bq, bc⟩ := id hδ.1
  refine Wn.run (tab := tb_tl_readLine) rfl 4 (c' := (8, [(1, .ref 16), (0, .ref 78)], [], M)) (o := [shp 78 = (0, 6), shp 15 = (0, 8)]) rfl ⟨rfl, rfl⟩ ?_
  refine Wn.run (tab := tb_tl_readLine) rfl 7 (c' := (tsw [5, 11, 214, 64, 71, 78, 85, 127, 156, 185] (Int32.ofInt (([0, 0, 0, 0, 0, 0, 0, 0, 17, 0, 5, 6, 7, 8, 9, 10, 11, 1, 2, 3, 4, 13, 14, 15, 12, 27, 26, 16, 18, 19, 20, 21, 22, 23, 24, 25] : List Int).getD ((nI ((M.2.2 77 10) - 100000))).toNatClampNeg 0)), [(1, .ref 16), (0, .ref 78)], [], M)) (o := [shp 78 = (0, 6), shp 77 = (0, 3), isK (M.2.2 77 10), ct [.ref 200003] ≤ 8, 200003 = 200003, vp_in (nI ((M.2.2 77 10) - 100000)) 36]) rfl ⟨rfl, rfl, (by rw [hR.1.2.2.2.2.2.2.1]; exact isK_kR _ _ _ _), (Nat.le_of_ble_eq_true rfl), rfl, (vp_in_nI (by rw [hR.1.2.2.2.2.2.2.1]; exact kR_ix _ _ _ _) (by decide))⟩ ?_
  rw [show (M.2.2 77 10) = 100016 from hR.1.2.2.2.2.2.2.1.trans ((kR_iff (by decide) (by decide)).mpr hk)]
  rw [show tsw [5, 11, 214, 64, 71, 78, 85, 127, 156, 185] (Int32.ofInt (([0, 0, 0, 0, 0, 0, 0, 0, 17, 0, 5, 6, 7, 8, 9, 10, 11, 1, 2, 3, 4, 13, 14, 15, 12, 27, 26, 16, 18, 19, 20, 21, 22, 23, 24, 25] : List Int).getD ((nI (100016 - 100000))).toNatClampNeg 0)) = 185 from by decide]
  show Wn _ 229 _ (185, [(1, .ref 16), (0, .ref 78)], [], M)
  refine Wn.run (tab := tb_tl_readLine) rfl 4 (c' := (191, [(1, .ref 16), (0, .ref 78)], [.int (M.1 78 6), .ref 78, .ref 78], M)) (o := [shp 78 = (0, 6)]) rfl rfl ?_
  rw [show (M.1 78 6) = (b2 (o.testBit 3 = true)) from (fr_eq ht (show g 6 = (b2 (o.testBit 3 = true)) from hf.2.2.2.2.1))]
  by_cases hb1 : o.testBit 3 = true
  · rw [show (b2 (o.testBit 3 = true)) = (nI 1) from b2_t hb1]
    refine Wn.callV (p := 78) (n := 2) (ix := 95) (ci := (6)) (PFl M 3 (tAt T L mo p) (some (.int (nI 1)))) [.int (nI 1)] [.ref 78] rfl rfl rfl rfl (Nat.le_of_ble_eq_true rfl) (Nat.le_of_ble_eq_true rfl) (c_tl_takeOnce_no _ M T L mo p ta hR) ?_
    rintro _ M1 ⟨rfl, hq2, hF3⟩
    show Wn _ 229 _ (194, [(1, .ref 16), (0, .ref 78)], [.int (nI 1), .ref 78], M1)
    have hk4 := frI_fun hF3 (by decide) ht
    have hk5 := frJ_fun hF3 (by decide) hj
    have hk6 := frI_fun hF3 (by decide) hl
    have hk7 := frJ_fun hF3 (by decide) hJ
    have hk8 := frI_fun hF3 (by decide) hlo
    have hk9 := frI_fun hF3 (by decide) hi
    have hk10 := frI_fun hF3 (by decide) ha
    have hk11 := frI_fun hF3 (by decide) hte
    have hk12 := frI_fun hF3 (by decide) h19
    have hk13 := frI_fun hF3 (by decide) h23
    have hF14 := fr_tr hF hF3 (by decide)
    refine Wn.run (tab := tb_tl_readLine) rfl 1 (c' := (197, [(1, .ref 16), (0, .ref 78)], [], (mI M1 78 (upd (M1.1 78) 6 (nI 1))))) (o := [shp 78 = (0, 6), is01 (nI 1)]) rfl ⟨rfl, (Or.inr rfl)⟩ ?_
    generalize hM16 : (mI M1 78 (upd (M1.1 78) 6 (nI 1))) = M15
    have hq17 := RdD_fr (fr_1I hM16) (by decide) hq2
    have hk18 := fI_up hM16 hk4
    have hk19 := fJ_oI hM16 hk5
    have hk20 := fI_ne hM16 (by decide) hk6
    have hk21 := fJ_oI hM16 hk7
    have hk22 := fI_ne hM16 (by decide) hk8
    have hk23 := fI_ne hM16 (by decide) hk9
    have hk24 := fI_ne hM16 (by decide) hk10
    have hk25 := fI_ne hM16 (by decide) hk11
    have hk26 := fI_ne hM16 (by decide) hk12
    have hk27 := fI_ne hM16 (by decide) hk13
    have hF28 := fr_sI hF14 hM16 (by decide)
    show Wn _ 229 _ (197, [(1, .ref 16), (0, .ref 78)], [], M15)
    refine Wn.run (tab := tb_tl_readLine) rfl 5 (c' := (205, [(1, .ref 16), (0, .ref 78)], [.int (nI 30), .int (nI 1), .ref 77, .ref 16], M15)) (o := [shp 78 = (0, 6)]) rfl rfl ?_
    refine Wn.callV (p := 77) (n := 3) (ix := 99) (ci := (3)) (fun r0 M9 => r0 = some (.int (nI 1)) ∧ M9 = M15) [.int (nI 1), .int (nI 30)] [.ref 16] rfl rfl rfl rfl (Nat.le_of_ble_eq_true rfl) (Nat.le_of_ble_eq_true rfl) (c_rd_takeNumberD _ M15 3 (tAt T L mo p) hq17 (nI 1) (nI 30)) ?_
    rintro _ M9 ⟨rfl, hsm⟩
    obtain rfl := hsm.symm
    show Wn _ 229 _ (208, [(1, .ref 16), (0, .ref 78)], [.int (nI 1), .ref 16], M15)
    refine Wn.run (tab := tb_tl_readLine) rfl 1 (c' := (211, [(1, .ref 16), (0, .ref 78)], [], (mI M15 16 (upd (M15.1 16) 7 (nI 1))))) (o := [shp 16 = (0, 2)]) rfl rfl ?_
    generalize hM30 : (mI M15 16 (upd (M15.1 16) 7 (nI 1))) = M29
    have hq31 := RdD_fr (fr_1I hM30) (by decide) hq17
    have hk32 := fI_ne hM30 (by decide) hk18
    have hk33 := fJ_oI hM30 hk19
    have hk34 := fI_up hM30 hk20
    have hk35 := fJ_oI hM30 hk21
    have hk36 := fI_ne hM30 (by decide) hk22
    have hk37 := fI_ne hM30 (by decide) hk23
    have hk38 := fI_ne hM30 (by decide) hk24
    have hk39 := fI_ne hM30 (by decide) hk25
    have hk40 := fI_ne hM30 (by decide) hk26
    have hk41 := fI_ne hM30 (by decide) hk27
    have hF42 := fr_sI hF28 hM30 (by decide)
    show Wn _ 229 _ (211, [(1, .ref 16), (0, .ref 78)], [], M29)
    refine Wn.run (tab := tb_tl_readLine) rfl 1 (c' := (222, [(1, .ref 16), (0, .ref 78)], [], M29)) (o := []) rfl trivial ?_
    have e9 : rdOn T L mo p δ ν o ic 3 7 1 30 = .inl (3, tAt T L mo p) := by unfold rdOn; rw [if_pos hb1]
    rw [e9]
    exact Wn.vret rfl ⟨rfl, hF42, hq31⟩
  · rw [show (b2 (o.testBit 3 = true)) = (nI 0) from b2_f hb1]
    refine Wn.callV (p := 78) (n := 2) (ix := 95) (ci := (6)) (PLv M T L mo (tNx T L p) (tAt T L mo p) (some (.int (nI 1)))) [.int (nI 0)] [.ref 78] rfl rfl rfl rfl (Nat.le_of_ble_eq_true rfl) (Nat.le_of_ble_eq_true rfl) (c_tl_takeOnce_ok _ M T L mo p ta hR (by omega) (by omega)) ?_
    rintro _ M43 ⟨rfl, hq44, hF45⟩
    show Wn _ 229 _ (194, [(1, .ref 16), (0, .ref 78)], [.int (nI 1), .ref 78], M43)
    have hk46 := frI_fun hF45 (by decide) ht
    have hk47 := frJ_fun hF45 (by decide) hj
    have hk48 := frI_fun hF45 (by decide) hl
    have hk49 := frJ_fun hF45 (by decide) hJ
    have hk50 := frI_fun hF45 (by decide) hlo
    have hk51 := frI_fun hF45 (by decide) hi
    have hk52 := frI_fun hF45 (by decide) ha
    have hk53 := frI_fun hF45 (by decide) hte
    have hk54 := frI_fun hF45 (by decide) h19
    have hk55 := frI_fun hF45 (by decide) h23
    have hF56 := fr_tr hF hF45 (by decide)
    refine Wn.run (tab := tb_tl_readLine) rfl 1 (c' := (197, [(1, .ref 16), (0, .ref 78)], [], (mI M43 78 (upd (M43.1 78) 6 (nI 1))))) (o := [shp 78 = (0, 6), is01 (nI 1)]) rfl ⟨rfl, (Or.inr rfl)⟩ ?_
    generalize hM58 : (mI M43 78 (upd (M43.1 78) 6 (nI 1))) = M57
    have hq59 := RdL_fr (fr_1I hM58) (by decide) hq44
    have hk60 := fI_up hM58 hk46
    have hk61 := fJ_oI hM58 hk47
    have hk62 := fI_ne hM58 (by decide) hk48
    have hk63 := fJ_oI hM58 hk49
    have hk64 := fI_ne hM58 (by decide) hk50
    have hk65 := fI_ne hM58 (by decide) hk51
    have hk66 := fI_ne hM58 (by decide) hk52
    have hk67 := fI_ne hM58 (by decide) hk53
    have hk68 := fI_ne hM58 (by decide) hk54
    have hk69 := fI_ne hM58 (by decide) hk55
    have hF70 := fr_sI hF56 hM58 (by decide)
    show Wn _ 229 _ (197, [(1, .ref 16), (0, .ref 78)], [], M57)
    refine Wn.run (tab := tb_tl_readLine) rfl 5 (c' := (205, [(1, .ref 16), (0, .ref 78)], [.int (nI 30), .int (nI 1), .ref 77, .ref 16], M57)) (o := [shp 78 = (0, 6)]) rfl rfl ?_
    cases hc2 : tkN T L mo (tNx T L p) 1 30 with
    | inl f2 =>
      refine Wn.callV (p := 77) (n := 3) (ix := 99) (ci := (3)) (PFl M57 f2.1 f2.2 (some (.int (nI 1)))) [.int (nI 1), .int (nI 30)] [.ref 16] rfl rfl rfl rfl (Nat.le_of_ble_eq_true rfl) (Nat.le_of_ble_eq_true rfl) (c_rd_takeE _ M57 T L mo (tNx T L p) (tAt T L mo p) hq59 1 30 (by omega) (by omega) f2 hc2) ?_
      rintro _ M71 ⟨rfl, hq72, hF73⟩
      show Wn _ 229 _ (208, [(1, .ref 16), (0, .ref 78)], [.int (nI 1), .ref 16], M71)
      have hk74 := frI_fun hF73 (by decide) hk60
      have hk75 := frJ_fun hF73 (by decide) hk61
      have hk76 := frI_fun hF73 (by decide) hk62
      have hk77 := frJ_fun hF73 (by decide) hk63
      have hk78 := frI_fun hF73 (by decide) hk64
      have hk79 := frI_fun hF73 (by decide) hk65
      have hk80 := frI_fun hF73 (by decide) hk66
      have hk81 := frI_fun hF73 (by decide) hk67
      have hk82 := frI_fun hF73 (by decide) hk68
      have hk83 := frI_fun hF73 (by decide) hk69
      have hF84 := fr_tr hF70 hF73 (by decide)
      refine Wn.run (tab := tb_tl_readLine) rfl 1 (c' := (211, [(1, .ref 16), (0, .ref 78)], [], (mI M71 16 (upd (M71.1 16) 7 (nI 1))))) (o := [shp 16 = (0, 2)]) rfl rfl ?_
      generalize hM86 : (mI M71 16 (upd (M71.1 16) 7 (nI 1))) = M85
      have hq87 := RdD_fr (fr_1I hM86) (by decide) hq72
      have hk88 := fI_ne hM86 (by decide) hk74
      have hk89 := fJ_oI hM86 hk75
      have hk90 := fI_up hM86 hk76
      have hk91 := fJ_oI hM86 hk77
      have hk92 := fI_ne hM86 (by decide) hk78
      have hk93 := fI_ne hM86 (by decide) hk79
      have hk94 := fI_ne hM86 (by decide) hk80
      have hk95 := fI_ne hM86 (by decide) hk81
      have hk96 := fI_ne hM86 (by decide) hk82
      have hk97 := fI_ne hM86 (by decide) hk83
      have hF98 := fr_sI hF84 hM86 (by decide)
      show Wn _ 229 _ (211, [(1, .ref 16), (0, .ref 78)], [], M85)
      refine Wn.run (tab := tb_tl_readLine) rfl 1 (c' := (222, [(1, .ref 16), (0, .ref 78)], [], M85)) (o := []) rfl trivial ?_
      have e9 : rdOn T L mo p δ ν o ic 3 7 1 30 = .inl f2 := by unfold rdOn; rw [if_neg hb1]; simp only [hc2]
      rw [e9]
      exact Wn.vret rfl ⟨rfl, hF98, hq87⟩
    | inr v2 =>
      obtain ⟨x2, p2⟩ := v2
      have bd2 : 1 ≤ x2 ∧ x2 ≤ 30 := by obtain ⟨q1, q2, q3⟩ := tkN_inr hc2; cases q3; exact q2
      refine Wn.callV (p := 77) (n := 3) (ix := 99) (ci := (3)) (PLv M57 T L mo p2 (tAt T L mo (tNx T L p)) (some (.int (nI x2)))) [.int (nI 1), .int (nI 30)] [.ref 16] rfl rfl rfl rfl (Nat.le_of_ble_eq_true rfl) (Nat.le_of_ble_eq_true rfl) (c_rd_takeV _ M57 T L mo (tNx T L p) (tAt T L mo p) hq59 1 30 (by omega) (by omega) (x2, p2) hc2) ?_
      rintro _ M99 ⟨rfl, hq100, hF101⟩
      show Wn _ 229 _ (208, [(1, .ref 16), (0, .ref 78)], [.int (nI x2), .ref 16], M99)
      have hk102 := frI_fun hF101 (by decide) hk60
      have hk103 := frJ_fun hF101 (by decide) hk61
      have hk104 := frI_fun hF101 (by decide) hk62
      have hk105 := frJ_fun hF101 (by decide) hk63
      have hk106 := frI_fun hF101 (by decide) hk64
      have hk107 := frI_fun hF101 (by decide) hk65
      have hk108 := frI_fun hF101 (by decide) hk66
      have hk109 := frI_fun hF101 (by decide) hk67
      have hk110 := frI_fun hF101 (by decide) hk68
      have hk111 := frI_fun hF101 (by decide) hk69
      have hF112 := fr_tr hF70 hF101 (by decide)
      refine Wn.run (tab := tb_tl_readLine) rfl 1 (c' := (211, [(1, .ref 16), (0, .ref 78)], [], (mI M99 16 (upd (M99.1 16) 7 (nI x2))))) (o := [shp 16 = (0, 2)]) rfl rfl ?_
      generalize hM114 : (mI M99 16 (upd (M99.1 16) 7 (nI x2))) = M113
      have hq115 := RdL_fr (fr_1I hM114) (by decide) hq100
      have hk116 := fI_ne hM114 (by decide) hk102
      have hk117 := fJ_oI hM114 hk103
      have hk118 := fI_up hM114 hk104
      have hk119 := fJ_oI hM114 hk105
      have hk120 := fI_ne hM114 (by decide) hk106
      have hk121 := fI_ne hM114 (by decide) hk107
      have hk122 := fI_ne hM114 (by decide) hk108
      have hk123 := fI_ne hM114 (by decide) hk109
      have hk124 := fI_ne hM114 (by decide) hk110
      have hk125 := fI_ne hM114 (by decide) hk111
      have hF126 := fr_sI hF112 hM114 (by decide)
      show Wn _ 229 _ (211, [(1, .ref 16), (0, .ref 78)], [], M113)
      refine Wn.run (tab := tb_tl_readLine) rfl 1 (c' := (222, [(1, .ref 16), (0, .ref 78)], [], M113)) (o := []) rfl trivial ?_
      have e9 : rdOn T L mo p δ ν o ic 3 7 1 30 = .inr (p2, su δ 7 x2, ν, o ||| 2 ^ 3, ic) := by unfold rdOn; rw [if_neg hb1]; simp only [hc2]
      rw [e9]
      refine Wn.vret rfl ⟨rfl, hF126, ⟨_, hq115⟩, ?_, ?_⟩
      · unfold CD; rw [hk118, hk119, hk120, hk121, hk122, hk123, hk124, hk125]; exact CD_su hd (by decide) (by decide)
      · unfold CF; rw [hk116, hk117]; exact CF_dl (δ := δ) rfl (CF_3 ho5 hf)
set_option maxRecDepth 20000 in
theorem c_tl_readLine_0 (d : Nat) (M : Mm) (T : Nat → Nat) (L mo p ta : Nat) (hR : RdL M T L mo p ta) (δ : Nat → Nat) (ν : Nat → Int64) (o : Nat) (ic : Int64) (hD : CD M δ ν) (hC : CF M δ o ic) (hδ : DW δ) (ho5 : o < 32) (hk : tKd T L mo p < 10 ∨ 16 < tKd T L mo p) : Wn (d + 2) 229 (PRc M T L mo ((.inl (1, tAt T L mo p) : Flt ⊕ Dst))) (0, lv_args 0 [.ref 78], [], M) := by
  have hF := fr_rf [16, 17, 18, 20, 21, 22, 77, 78] M
  obtain ⟨g, ht⟩ : ∃ g, M.1 78 = g := ⟨_, rfl⟩
  obtain ⟨j, hj⟩ : ∃ j, M.2.1 78 = j := ⟨_, rfl⟩
  obtain ⟨gl, hl⟩ : ∃ g, M.1 16 = g := ⟨_, rfl⟩
  obtain ⟨J, hJ⟩ : ∃ g, M.2.1 17 = g := ⟨_, rfl⟩
  obtain ⟨lo, hlo⟩ : ∃ g, M.1 18 = g := ⟨_, rfl⟩
  obtain ⟨ice, hi⟩ : ∃ g, M.1 20 = g := ⟨_, rfl⟩
  obtain ⟨at_, ha⟩ : ∃ g, M.1 21 = g := ⟨_, rfl⟩
  obtain ⟨te, hte⟩ : ∃ g, M.1 22 = g := ⟨_, rfl⟩
  obtain ⟨f19, h19⟩ : ∃ g, M.1 19 = g := ⟨_, rfl⟩
  obtain ⟨pr, h23⟩ : ∃ g, M.1 23 = g := ⟨_, rfl⟩
  have hd : CDf gl J lo ice at_ te f19 pr δ ν := by rw [← hl, ← hJ, ← hlo, ← hi, ← ha, ← hte, ← h19, ← h23]; exact hD
  have hf : CFf g (j 8) δ o ic := by rw [← ht, ← hj]; exact hC
  obtain ⟨b0, b1, b2_9, bq, bc⟩ := id hδ.1
  refine Wn.run (tab := tb_tl_readLine) rfl 4 (c' := (8, [(1, .ref 16), (0, .ref 78)], [], M)) (o := [shp 78 = (0, 6), shp 15 = (0, 8)]) rfl ⟨rfl, rfl⟩ ?_
  refine Wn.run (tab := tb_tl_readLine) rfl 7 (c' := (tsw [5, 11, 214, 64, 71, 78, 85, 127, 156, 185] (Int32.ofInt (([0, 0, 0, 0, 0, 0, 0, 0, 17, 0, 5, 6, 7, 8, 9, 10, 11, 1, 2, 3, 4, 13, 14, 15, 12, 27, 26, 16, 18, 19, 20, 21, 22, 23, 24, 25] : List Int).getD ((nI ((M.2.2 77 10) - 100000))).toNatClampNeg 0)), [(1, .ref 16), (0, .ref 78)], [], M)) (o := [shp 78 = (0, 6), shp 77 = (0, 3), isK (M.2.2 77 10), ct [.ref 200003] ≤ 8, 200003 = 200003, vp_in (nI ((M.2.2 77 10) - 100000)) 36]) rfl ⟨rfl, rfl, (by rw [hR.1.2.2.2.2.2.2.1]; exact isK_kR _ _ _ _), (Nat.le_of_ble_eq_true rfl), rfl, (vp_in_nI (by rw [hR.1.2.2.2.2.2.2.1]; exact kR_ix _ _ _ _) (by decide))⟩ ?_
  rw [show (M.2.2 77 10) = kR T L mo p from hR.1.2.2.2.2.2.2.1]
  rw [show tsw [5, 11, 214, 64, 71, 78, 85, 127, 156, 185] (Int32.ofInt (([0, 0, 0, 0, 0, 0, 0, 0, 17, 0, 5, 6, 7, 8, 9, 10, 11, 1, 2, 3, 4, 13, 14, 15, 12, 27, 26, 16, 18, 19, 20, 21, 22, 23, 24, 25] : List Int).getD ((nI ((kR T L mo p) - 100000))).toNatClampNeg 0)) = 214 from rl_sw _ (kR_ix _ _ _ _) (by have k9 := tKd_le T L mo p; unfold kR; split <;> omega)]
  show Wn _ 229 _ (214, [(1, .ref 16), (0, .ref 78)], [], M)
  refine Wn.run (tab := tb_tl_readLine) rfl 3 (c' := (219, [(1, .ref 16), (0, .ref 78)], [.int (nI 1), .ref 77], M)) (o := [shp 78 = (0, 6)]) rfl rfl ?_
  refine Wn.callV (p := 77) (n := 2) (ix := 121) (ci := (3)) (PFl M 1 (tAt T L mo p) none) [.int (nI 1)] [] rfl rfl rfl rfl (Nat.le_of_ble_eq_true rfl) (Nat.le_of_ble_eq_true rfl) (c_rd_fail _ M T L mo p ta hR.1 1 (by omega)) ?_
  rintro _ M1 ⟨rfl, hd2, hF3⟩
  show Wn _ 229 _ (222, [(1, .ref 16), (0, .ref 78)], [], M1)
  have hk4 := frI_fun hF3 (by decide) ht
  have hk5 := frJ_fun hF3 (by decide) hj
  have hk6 := frI_fun hF3 (by decide) hl
  have hk7 := frJ_fun hF3 (by decide) hJ
  have hk8 := frI_fun hF3 (by decide) hlo
  have hk9 := frI_fun hF3 (by decide) hi
  have hk10 := frI_fun hF3 (by decide) ha
  have hk11 := frI_fun hF3 (by decide) hte
  have hk12 := frI_fun hF3 (by decide) h19
  have hk13 := frI_fun hF3 (by decide) h23
  have hF14 := fr_tr hF hF3 (by decide)
  have e9 : (.inl (1, tAt T L mo p) : Flt ⊕ Dst) = .inl (1, tAt T L mo p) := rfl
  rw [e9]
  exact Wn.vret rfl ⟨rfl, hF14, hd2⟩
theorem c_tl_readLine (d : Nat) (M : Mm) (T : Nat → Nat) (L mo p ta : Nat) (hR : RdL M T L mo p ta) (δ : Nat → Nat) (ν : Nat → Int64) (o : Nat) (ic : Int64) (hD : CD M δ ν) (hC : CF M δ o ic) (hδ : DW δ) (ho5 : o < 32) : Wn (d + 5) 229 (PRc M T L mo (rdLn T L mo p δ ν o ic)) (0, lv_args 0 [.ref 78], [], M) := by
  by_cases h10 : tKd T L mo p = 10
  · have e : rdLn T L mo p δ ν o ic = rdLk T L mo p δ ν o ic := by unfold rdLn; rw [if_pos h10]
    rw [e]; exact c_tl_readLine_10 (d + 1) M T L mo p ta hR δ ν o ic hD hC hδ ho5 h10
  by_cases h11 : tKd T L mo p = 11
  · have e : rdLn T L mo p δ ν o ic = rdIc T L mo p δ ν o ic := by unfold rdLn; rw [if_neg h10, if_pos h11]
    rw [e]; exact c_tl_readLine_11 (d + 0) M T L mo p ta hR δ ν o ic hD hC hδ ho5 h11
  by_cases h12 : tKd T L mo p = 12
  · have e : rdLn T L mo p δ ν o ic = rdPe T L mo p δ ν o ic := by unfold rdLn; rw [if_neg h10, if_neg h11, if_pos h12]
    rw [e]; exact c_tl_readLine_12 (d + 0) M T L mo p ta hR δ ν o ic hD hC hδ ho5 h12
  by_cases h13 : tKd T L mo p = 13
  · have e : rdLn T L mo p δ ν o ic = rdRu T L mo p δ ν o ic := by unfold rdLn; rw [if_neg h10, if_neg h11, if_neg h12, if_pos h13]
    rw [e]; exact c_tl_readLine_13 (d + 2) M T L mo p ta hR δ ν o ic hD hC hδ ho5 h13
  by_cases h14 : tKd T L mo p = 14
  · have e : rdLn T L mo p δ ν o ic = rdOn T L mo p δ ν o ic 1 5 2 9 := by unfold rdLn; rw [if_neg h10, if_neg h11, if_neg h12, if_neg h13, if_pos h14]
    rw [e]; exact c_tl_readLine_14 (d + 2) M T L mo p ta hR δ ν o ic hD hC hδ ho5 h14
  by_cases h15 : tKd T L mo p = 15
  · have e : rdLn T L mo p δ ν o ic = rdOn T L mo p δ ν o ic 2 6 1 9 := by unfold rdLn; rw [if_neg h10, if_neg h11, if_neg h12, if_neg h13, if_neg h14, if_pos h15]
    rw [e]; exact c_tl_readLine_15 (d + 2) M T L mo p ta hR δ ν o ic hD hC hδ ho5 h15
  by_cases h16 : tKd T L mo p = 16
  · have e : rdLn T L mo p δ ν o ic = rdOn T L mo p δ ν o ic 3 7 1 30 := by unfold rdLn; rw [if_neg h10, if_neg h11, if_neg h12, if_neg h13, if_neg h14, if_neg h15, if_pos h16]
    rw [e]; exact c_tl_readLine_16 (d + 2) M T L mo p ta hR δ ν o ic hD hC hδ ho5 h16
  have e : rdLn T L mo p δ ν o ic = .inl (1, tAt T L mo p) := by unfold rdLn; rw [if_neg h10, if_neg h11, if_neg h12, if_neg h13, if_neg h14, if_neg h15, if_neg h16]
  rw [e]; exact c_tl_readLine_0 (d + 3) M T L mo p ta hR δ ν o ic hD hC hδ ho5 (by omega)
