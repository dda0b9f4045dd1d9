/-! The law's cases person and mean. Printed by wip/whole/pFE.py. -/
theorem lc_same (x : Int64) : lg_cmp x x = 0 := by
  unfold lg_cmp
  simp
set_option maxRecDepth 100000 in
theorem ld_person : (dcL 320 (.aload_n 1, 1) && argB 321 1 2 && dcL 333 (.aload_n 3, 1) && dcL 334 (.invokestatic 42, 3) && dcL 337 (.istore 5, 2) && dcL 339 (.aload_n 2, 1) && argB 340 1 2 && dcL 352 (.invokevirtual 47, 3) && dcL 355 (.istore 6, 2) && dcL 357 (.aload_n 2, 1) && dcL 358 (.invokevirtual 48, 3) && dcL 361 (.iload 5, 2) && dcL 363 (.if_icmp .eq 5, 3) && dcL 368 (.iload 5, 2) && dcL 370 (.ifCond .ne 15, 3) && dcL 373 (.aload_n 3, 1) && dcL 374 (.iconst 0, 1) && dcL 375 (.laload, 1) && dcL 376 (.iload 6, 2) && dcL 378 (.i2l, 1) && dcL 379 (.lcmp, 1) && dcL 380 (.ifCond .eq 5, 3) && dcL 385 (.goto 880, 3) && callB 47 1800 87 2 10 && callB 48 1512 40 0 10) = true := by decide +kernel
set_option maxHeartbeats 4000000 in
set_option maxRecDepth 100000 in
theorem sp_person {p : Program} {l : Launch} {e : Env} {s : State} {m : MethodId} {args : Array Value} {below : List Frame} {meth : Method} {c : Code} {D : va_G} {tA : Nat → ClassId} {κ ρ : Nat → Nat} {A : Nat → Prop} {Qf : State → Prop} {b L qo : Nat} {xs : Nat → Int32} (hl9 : l.stackTraces = false) (C0 : Kf κ "IceMannersLaw" code 7 p s m args c D tA A) (hk : ∀ i, 100000 ≤ i → i < 300000 → ρ i = κ i) (hX : va_X b L xs s s.heap) (hbl : b < s.heap.size) (hbA : ¬ A b) (hL : L ≤ 3072) : SpL p l e s m args below meth c D tA ρ A Qf b L qo (Ex ρ tA D A qo) 320 := by
  have hx := C0.1
  have hb := C0.2.1
  have hK := C0.2.2.2.2.2.1
  have hd := ld_person
  simp only [Bool.and_eq_true] at hd
  obtain ⟨⟨⟨⟨⟨⟨⟨⟨⟨⟨⟨⟨⟨⟨⟨⟨⟨⟨⟨⟨⟨⟨⟨⟨d1, d2⟩, d3⟩, d4⟩, d5⟩, d6⟩, d7⟩, d8⟩, d9⟩, d10⟩, d11⟩, d12⟩, d13⟩, d14⟩, d15⟩, d16⟩, d17⟩, d18⟩, d19⟩, d20⟩, d21⟩, d22⟩, d23⟩, d24⟩, d25⟩ := hd
  intro i bb ln tx M H locs ls cells slots h6 hbb hcs hJ hP hS hE hl go
  obtain ⟨hln, htx, w, g, hw, hDx, hPx⟩ := hE
  have hcr : cells + 60 ≤ 601024 ∧ slots + 1200 ≤ 7293034 := ⟨by have := hcs.1; omega, by have := hcs.2; omega⟩
  have CL : Lw "IceMannersLaw" code 7 p s m args c D tA ρ A := C0.lw hk hDx.rgt.lft
  refine lv_aload_n hx hb (dcL_eq d1) rfl (lv_at hl 2 rfl) ?_
  refine lw_args hx hb hX hbl hbA hS (lv_at hl 1 rfl) (lv_at hl 0 rfl) h6 hL 2 321 1 _ d2 (by omega) ?_
  refine lv_aload_n hx hb (dcL_eq d3) rfl (lv_at hl 4 rfl) ?_
  have ea : argV xs i 1 2 = [.int (xs (i + 1)), .int (xs (i + 2))] := rfl
  have hD : va_D A (w ++ ([oC tA qo g] ++ wl ρ tA M)) := by
    have h9 : va_D A ([oC tA qo g] ++ (wl ρ tA M ++ w)) := xk_D hDx
    rw [← List.append_assoc] at h9
    exact h9.swp
  have hPa : va_P D clx (w ++ ([oC tA qo g] ++ wl ρ tA M)) H := va_P.app hPx.rgt (va_P.app hPx.lft hP.up)
  have hcs2 : cells + 2 ≤ room_1.cells ∧ slots + 12 ≤ room_1.slots := ⟨by show cells + 2 ≤ 601024; omega, by show slots + 12 ≤ 7293034; omega⟩
  have hro : 14 + 1 ≤ room_1.frames ∧ 200 * (14 + 1) ≤ room_1.locals := ⟨Nat.le_of_ble_eq_true rfl, Nat.le_of_ble_eq_true rfl⟩
  -- behind the class's call: the reference's, and the answers compared
  have ref : ∀ (kk v : Int32) (g2 : Nat → Int64) (H : Heap) (locs : List Loc), (kk = 0 → g2 0 = v.toInt64) → Wn 40 87 (fun r2 M2 => r2 = some (.int v) ∧ JV (bb + 64) ln tx M2 ∧ M2.1 114 0 = kk) (0, lv_args 0 (.ref 114 :: argV xs i 1 2), [], M) → va_P D clx (w ++ ([oC tA qo g2] ++ wl ρ tA M)) H → va_S A s.heap H locs → W p l e room_1 s m args below meth c H locs (cells + 2) (slots + 12) Qf (F0 m 337 ls [.int kk]) := by
    intro kk v g2 H locs hg hM hP hS
    have hD2 : va_D A ([oC tA qo g2] ++ (wl ρ tA M0 ++ w)) := xk_D hDx
    refine lv_istore (lv' := (5, .int kk) :: lvL ρ b qo i) hx hb (dcL_eq d5) hl (by decide) rfl (fun ls hl => ?_)
    refine lv_aload_n hx hb (dcL_eq d6) rfl (lv_at hl 4 rfl) ?_
    refine lw_args hx hb hX hbl hbA hS (lv_at hl 2 rfl) (lv_at hl 1 rfl) h6 hL 2 340 1 _ d7 (by omega) ?_
    refine lw_callB CL d24 (dcL_eq d8) rfl hl.1 hcs2 (by decide) hP.rgt.rgt.down hS hM (fun r M2 H2 locs2 hq hP2 hS2 hk2 => ?_)
    obtain ⟨rfl, hJ2, ht2⟩ := hq
    have hE2 : va_P D clx ([oC tA qo g2] ++ w) H2 := xk_P hD2 (va_P.app hP.rgt.lft hP.lft) hk2
    refine lv_istore (lv' := (6, .int v) :: (5, .int kk) :: lvL ρ b qo i) hx hb (dcL_eq d9) hl (by decide) rfl (fun ls hl => ?_)
    refine lv_aload_n hx hb (dcL_eq d10) rfl (lv_at hl 5 rfl) ?_
    refine lw_callB (xs := xs) (i := i) (st := []) CL d25 (dcL_eq d11) rfl hl.1 hcs2 (by decide) hP2 hS2 (Qc := fun r M3 => r = some (.int kk) ∧ M3 = M2) ((c_m_thrown 40 M2).mono (fun r M3 k => ⟨by rw [← ht2]; exact k.1, k.2⟩)) (fun r M3 H3 locs3 hq hP3 hS3 hk3 => ?_)
    obtain ⟨rfl, rfl⟩ := hq
    have hE3 : va_P D clx ([oC tA qo g2] ++ w) H3 := xk_P hD2 hE2 hk3
    have hend : W p l e room_1 s m args below meth c H3 locs3 (cells + 2) (slots + 12) Qf (F0 m 385 ls []) := by
      refine lv_goto (tgt := 1265) hx hb (dcL_eq d23) (by decide) ?_
      exact go ln tx M3 H3 locs3 ls (cells + 2) (slots + 12) hJ2 hP3 hS3 ⟨hln, htx, w, g2, hw, hD2, hE3⟩ (lv_sub hl [2, 3, 4, 5, 6] rfl) (by omega) (by omega)
    refine lv_iload hx hb (dcL_eq d12) (lv_at hl 1 rfl) ?_
    refine lv_icmp_eq (x := kk) (y := kk) (tgt := 368) hx hb (dcL_eq d13) (by decide) (fun _ => ?_) (fun h => absurd rfl h)
    refine lv_iload hx hb (dcL_eq d14) (lv_at hl 1 rfl) ?_
    refine lv_if_ne (tgt := 385) hx hb (dcL_eq d15) (by decide) (fun _ => hend) (fun h0 => ?_)
    refine lv_aload_n hx hb (dcL_eq d16) rfl (lv_at hl 6 rfl) ?_
    refine lv_iconst (v := nI 0) hx hb (dcL_eq d17) (by decide) ?_
    refine va_lald hx hb hK hE3.lft 0 3 (n := 1) (f := g2) rfl rfl (vp_in_nI (by decide) (by decide)) (dcL_eq d18) ?_
    rw [nI_clamp (by decide), hg h0]
    refine lv_iload hx hb (dcL_eq d19) (lv_at hl 0 rfl) ?_
    refine lv_i2l (v := v.toInt64) hx hb (dcL_eq d20) rfl ?_
    refine W.lcmp hx hb (dcL_eq d21) ?_
    exact lv_if_eq (tgt := 385) hx hb (dcL_eq d22) (by decide) (fun _ => hend) (fun h => absurd (lc_same v.toInt64) h)
  rw [ea] at ref ⊢
  generalize xs (i + 1) = x at ref ⊢
  generalize xs (i + 2) = y at ref ⊢
  obtain ⟨σ, n, H9, ν, T, L9, fk, ak, nw, uw, hj, td, sn, A9, S, U, i0, i1, hC, hM, hU⟩ := hJ
  have hV := hU.1.1
  have b6 := Bd_2 hV.1
  by_cases hp : pI σ x
  · obtain ⟨q, hq, rfl⟩ := pI_n hp b6
    by_cases hy : (nI 0).toInt ≤ y.toInt ∧ y.toInt ≤ (nI 7).toInt
    · obtain ⟨u, -, hu, rfl⟩ := rng_n (by decide) (by decide) hy
      refine k_callSW (n := 4) (n1 := 1422) (n2 := 1423) (n4 := 104) (n5 := 1424) (As := [.ref (ρ 0), .int (nI q), .int (nI u), .ref qo]) (rest := []) (wr := w) C0 (c_lwp ρ M σ qo g q u hq (by omega) hk hC.1.1 hV) (by decide +kernel) hPa hD hS hl.1 rfl (Nat.zero_le _) hro hcs2 (dcL_eq d4) rfl (fun r w1 H1 locs1 hQ hP1 hD1 hS1 => ?_)
      obtain ⟨rfl, g2, hg2, rfl⟩ := hQ
      exact ref (nI 0) (nI (perA σ q u)) g2 H1 locs1 (fun _ => hg2) (M_POt hC hM hU (c_m_person 33 M (M.1 116) (M.1 114) σ (Rs_rf hM.1) hV rfl q u hq (by omega))) hP1 hS1
    · refine k_callSW (n := 4) (n1 := 1422) (n2 := 1423) (n4 := 104) (n5 := 1424) (As := [.ref (ρ 0), .int (nI q), .int y, .ref qo]) (rest := []) (wr := w) C0 (c_lwpX ρ M qo g (nI q) y (c_perW hl9 ρ M σ q y hq hy hk hC.1.1 hV)) (by decide +kernel) hPa hD hS hl.1 rfl (Nat.zero_le _) hro hcs2 (dcL_eq d4) rfl (fun r w1 H1 locs1 hQ hP1 hD1 hS1 => ?_)
      obtain ⟨rfl, rfl⟩ := hQ
      exact ref (nI 1) (nI 0) g H1 locs1 (fun h => absurd h (by decide)) (M_POt hC hM hU (c_m_personW 38 M (M.1 116) (M.1 114) σ (Rs_rf hM.1) hV rfl q y hq hy)) hP1 hS1
  · refine k_callSW (n := 4) (n1 := 1422) (n2 := 1423) (n4 := 104) (n5 := 1424) (As := [.ref (ρ 0), .int x, .int y, .ref qo]) (rest := []) (wr := w) C0 (c_lwpX ρ M qo g x y (c_perP hl9 ρ M σ x y hp hk hC.1.1 hV)) (by decide +kernel) hPa hD hS hl.1 rfl (Nat.zero_le _) hro hcs2 (dcL_eq d4) rfl (fun r w1 H1 locs1 hQ hP1 hD1 hS1 => ?_)
    obtain ⟨rfl, rfl⟩ := hQ
    exact ref (nI 1) (nI 0) g H1 locs1 (fun h => absurd h (by decide)) (M_POt hC hM hU (c_m_personP 38 M (M.1 116) (M.1 114) σ (Rs_rf hM.1) hV rfl x y hp)) hP1 hS1
set_option maxRecDepth 100000 in
theorem ld_mean : (dcL 910 (.aload_n 1, 1) && argB 911 1 1 && dcL 917 (.aload_n 3, 1) && dcL 918 (.invokestatic 124, 3) && dcL 921 (.istore 5, 2) && dcL 923 (.aload_n 2, 1) && argB 924 1 1 && dcL 930 (.invokevirtual 127, 3) && dcL 933 (.istore 6, 2) && dcL 935 (.aload_n 2, 1) && dcL 936 (.invokevirtual 48, 3) && dcL 939 (.iload 5, 2) && dcL 941 (.if_icmp .eq 5, 3) && dcL 946 (.iload 5, 2) && dcL 948 (.ifCond .ne 15, 3) && dcL 951 (.aload_n 3, 1) && dcL 952 (.iconst 0, 1) && dcL 953 (.laload, 1) && dcL 954 (.iload 6, 2) && dcL 956 (.i2l, 1) && dcL 957 (.lcmp, 1) && dcL 958 (.ifCond .eq 5, 3) && dcL 963 (.goto 302, 3) && callB 127 2009 122 1 10 && callB 48 1512 40 0 10) = true := by decide +kernel
set_option maxHeartbeats 4000000 in
set_option maxRecDepth 100000 in
theorem sp_mean {p : Program} {l : Launch} {e : Env} {s : State} {m : MethodId} {args : Array Value} {below : List Frame} {meth : Method} {c : Code} {D : va_G} {tA : Nat → ClassId} {κ ρ : Nat → Nat} {A : Nat → Prop} {Qf : State → Prop} {b L qo : Nat} {xs : Nat → Int32} (hl9 : l.stackTraces = false) (C0 : Kf κ "IceMannersLaw" code 7 p s m args c D tA A) (hk : ∀ i, 100000 ≤ i → i < 300000 → ρ i = κ i) (hX : va_X b L xs s s.heap) (hbl : b < s.heap.size) (hbA : ¬ A b) (hL : L ≤ 3072) : SpL p l e s m args below meth c D tA ρ A Qf b L qo (Ex ρ tA D A qo) 910 := by
  have hx := C0.1
  have hb := C0.2.1
  have hK := C0.2.2.2.2.2.1
  have hd := ld_mean
  simp only [Bool.and_eq_true] at hd
  obtain ⟨⟨⟨⟨⟨⟨⟨⟨⟨⟨⟨⟨⟨⟨⟨⟨⟨⟨⟨⟨⟨⟨⟨⟨d1, d2⟩, d3⟩, d4⟩, d5⟩, d6⟩, d7⟩, d8⟩, d9⟩, d10⟩, d11⟩, d12⟩, d13⟩, d14⟩, d15⟩, d16⟩, d17⟩, d18⟩, d19⟩, d20⟩, d21⟩, d22⟩, d23⟩, d24⟩, d25⟩ := hd
  intro i bb ln tx M H locs ls cells slots h6 hbb hcs hJ hP hS hE hl go
  obtain ⟨hln, htx, w, g, hw, hDx, hPx⟩ := hE
  have hcr : cells + 60 ≤ 601024 ∧ slots + 1200 ≤ 7293034 := ⟨by have := hcs.1; omega, by have := hcs.2; omega⟩
  have CL : Lw "IceMannersLaw" code 7 p s m args c D tA ρ A := C0.lw hk hDx.rgt.lft
  refine lv_aload_n hx hb (dcL_eq d1) rfl (lv_at hl 2 rfl) ?_
  refine lw_args hx hb hX hbl hbA hS (lv_at hl 1 rfl) (lv_at hl 0 rfl) h6 hL 1 911 1 _ d2 (by omega) ?_
  refine lv_aload_n hx hb (dcL_eq d3) rfl (lv_at hl 4 rfl) ?_
  have ea : argV xs i 1 1 = [.int (xs (i + 1))] := rfl
  have hD : va_D A (w ++ ([oC tA qo g] ++ wl ρ tA M)) := by
    have h9 : va_D A ([oC tA qo g] ++ (wl ρ tA M ++ w)) := xk_D hDx
    rw [← List.append_assoc] at h9
    exact h9.swp
  have hPa : va_P D clx (w ++ ([oC tA qo g] ++ wl ρ tA M)) H := va_P.app hPx.rgt (va_P.app hPx.lft hP.up)
  have hcs2 : cells + 2 ≤ room_1.cells ∧ slots + 12 ≤ room_1.slots := ⟨by show cells + 2 ≤ 601024; omega, by show slots + 12 ≤ 7293034; omega⟩
  have hro : 14 + 1 ≤ room_1.frames ∧ 200 * (14 + 1) ≤ room_1.locals := ⟨Nat.le_of_ble_eq_true rfl, Nat.le_of_ble_eq_true rfl⟩
  -- behind the class's call: the reference's, and the answers compared
  have ref : ∀ (kk v : Int32) (g2 : Nat → Int64) (H : Heap) (locs : List Loc), (kk = 0 → g2 0 = v.toInt64) → Wn 40 122 (fun r2 M2 => r2 = some (.int v) ∧ JV (bb + 64) ln tx M2 ∧ M2.1 114 0 = kk) (0, lv_args 0 (.ref 114 :: argV xs i 1 1), [], M) → va_P D clx (w ++ ([oC tA qo g2] ++ wl ρ tA M)) H → va_S A s.heap H locs → W p l e room_1 s m args below meth c H locs (cells + 2) (slots + 12) Qf (F0 m 921 ls [.int kk]) := by
    intro kk v g2 H locs hg hM hP hS
    have hD2 : va_D A ([oC tA qo g2] ++ (wl ρ tA M0 ++ w)) := xk_D hDx
    refine lv_istore (lv' := (5, .int kk) :: lvL ρ b qo i) hx hb (dcL_eq d5) hl (by decide) rfl (fun ls hl => ?_)
    refine lv_aload_n hx hb (dcL_eq d6) rfl (lv_at hl 4 rfl) ?_
    refine lw_args hx hb hX hbl hbA hS (lv_at hl 2 rfl) (lv_at hl 1 rfl) h6 hL 1 924 1 _ d7 (by omega) ?_
    refine lw_callB CL d24 (dcL_eq d8) rfl hl.1 hcs2 (by decide) hP.rgt.rgt.down hS hM (fun r M2 H2 locs2 hq hP2 hS2 hk2 => ?_)
    obtain ⟨rfl, hJ2, ht2⟩ := hq
    have hE2 : va_P D clx ([oC tA qo g2] ++ w) H2 := xk_P hD2 (va_P.app hP.rgt.lft hP.lft) hk2
    refine lv_istore (lv' := (6, .int v) :: (5, .int kk) :: lvL ρ b qo i) hx hb (dcL_eq d9) hl (by decide) rfl (fun ls hl => ?_)
    refine lv_aload_n hx hb (dcL_eq d10) rfl (lv_at hl 5 rfl) ?_
    refine lw_callB (xs := xs) (i := i) (st := []) CL d25 (dcL_eq d11) rfl hl.1 hcs2 (by decide) hP2 hS2 (Qc := fun r M3 => r = some (.int kk) ∧ M3 = M2) ((c_m_thrown 40 M2).mono (fun r M3 k => ⟨by rw [← ht2]; exact k.1, k.2⟩)) (fun r M3 H3 locs3 hq hP3 hS3 hk3 => ?_)
    obtain ⟨rfl, rfl⟩ := hq
    have hE3 : va_P D clx ([oC tA qo g2] ++ w) H3 := xk_P hD2 hE2 hk3
    have hend : W p l e room_1 s m args below meth c H3 locs3 (cells + 2) (slots + 12) Qf (F0 m 963 ls []) := by
      refine lv_goto (tgt := 1265) hx hb (dcL_eq d23) (by decide) ?_
      exact go ln tx M3 H3 locs3 ls (cells + 2) (slots + 12) hJ2 hP3 hS3 ⟨hln, htx, w, g2, hw, hD2, hE3⟩ (lv_sub hl [2, 3, 4, 5, 6] rfl) (by omega) (by omega)
    refine lv_iload hx hb (dcL_eq d12) (lv_at hl 1 rfl) ?_
    refine lv_icmp_eq (x := kk) (y := kk) (tgt := 946) hx hb (dcL_eq d13) (by decide) (fun _ => ?_) (fun h => absurd rfl h)
    refine lv_iload hx hb (dcL_eq d14) (lv_at hl 1 rfl) ?_
    refine lv_if_ne (tgt := 963) hx hb (dcL_eq d15) (by decide) (fun _ => hend) (fun h0 => ?_)
    refine lv_aload_n hx hb (dcL_eq d16) rfl (lv_at hl 6 rfl) ?_
    refine lv_iconst (v := nI 0) hx hb (dcL_eq d17) (by decide) ?_
    refine va_lald hx hb hK hE3.lft 0 3 (n := 1) (f := g2) rfl rfl (vp_in_nI (by decide) (by decide)) (dcL_eq d18) ?_
    rw [nI_clamp (by decide), hg h0]
    refine lv_iload hx hb (dcL_eq d19) (lv_at hl 0 rfl) ?_
    refine lv_i2l (v := v.toInt64) hx hb (dcL_eq d20) rfl ?_
    refine W.lcmp hx hb (dcL_eq d21) ?_
    exact lv_if_eq (tgt := 963) hx hb (dcL_eq d22) (by decide) (fun _ => hend) (fun h => absurd (lc_same v.toInt64) h)
  rw [ea] at ref ⊢
  generalize xs (i + 1) = x at ref ⊢
  obtain ⟨σ, n, H9, ν, T, L9, fk, ak, nw, uw, hj, td, sn, A9, S, U, i0, i1, hC, hM, hU⟩ := hJ
  have hV := hU.1.1
  have b6 := Bd_2 hV.1
  by_cases hy : (nI 0).toInt ≤ x.toInt ∧ x.toInt ≤ (nI 1).toInt
  · obtain ⟨u, -, hu, rfl⟩ := rng_n (by decide) (by decide) hy
    refine k_callSW (n := 3) (n1 := 1501) (n2 := 1502) (n4 := 104) (n5 := 1503) (As := [.ref (ρ 0), .int (nI u), .ref qo]) (rest := []) (wr := w) C0 (c_lwm ρ M σ qo g u (by omega) hk hC.1.1 hV) (by decide +kernel) hPa hD hS hl.1 rfl (Nat.zero_le _) hro hcs2 (dcL_eq d4) rfl (fun r w1 H1 locs1 hQ hP1 hD1 hS1 => ?_)
    obtain ⟨rfl, g2, hg2, rfl⟩ := hQ
    exact ref (nI 0) (nI (meaA σ u)) g2 H1 locs1 (fun _ => hg2) (M_POt hC hM hU (c_m_mean 39 M (M.1 116) (M.1 114) σ (Rs_rf hM.1) hV rfl u (by omega))) hP1 hS1
  · refine k_callSW (n := 3) (n1 := 1501) (n2 := 1502) (n4 := 104) (n5 := 1503) (As := [.ref (ρ 0), .int x, .ref qo]) (rest := []) (wr := w) C0 (c_lwmX ρ M qo g x (c_meaX hl9 ρ M x hy)) (by decide +kernel) hPa hD hS hl.1 rfl (Nat.zero_le _) hro hcs2 (dcL_eq d4) rfl (fun r w1 H1 locs1 hQ hP1 hD1 hS1 => ?_)
    obtain ⟨rfl, rfl⟩ := hQ
    exact ref (nI 1) (nI 0) g H1 locs1 (fun h => absurd h (by decide)) (M_POt hC hM hU (c_m_meanW 39 M (M.1 116) (M.1 114) σ (Rs_rf hM.1) hV rfl x hy)) hP1 hS1
