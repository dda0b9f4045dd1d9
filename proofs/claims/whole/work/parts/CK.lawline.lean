/-! The law's cases line and byteAt. Printed by wip/whole/pFE.py. -/
set_option maxRecDepth 100000 in
theorem ld_line : (dcL 966 (.aload_n 1, 1) && argB 967 1 1 && dcL 973 (.invokevirtual 128, 3) && dcL 976 (.aload_n 2, 1) && argB 977 1 1 && dcL 983 (.invokevirtual 131, 3) && dcL 986 (.if_icmp .eq 279, 3) && callB 131 2013 127 1 10) = true := by decide +kernel
set_option maxRecDepth 100000 in
theorem ld_byteAt : (dcL 991 (.aload_n 1, 1) && argB 992 1 1 && dcL 998 (.invokevirtual 132, 3) && dcL 1001 (.aload_n 2, 1) && argB 1002 1 1 && dcL 1008 (.invokevirtual 135, 3) && dcL 1011 (.if_icmp .eq 254, 3) && callB 135 2037 128 1 10) = true := by decide +kernel
set_option maxHeartbeats 4000000 in
set_option maxRecDepth 100000 in
theorem sp_line {p : Program} {l : Launch} {e : Env} {s : State} {m : MethodId} {args : Array Value} {below : List Frame} {meth : Method} {c : Code} {D : va_G} {tA : Nat → ClassId} {κ ρ : Nat → Nat} {A : Nat → Prop} {Qf : State → Prop} {b L qo : Nat} {xs : Nat → Int32} (C0 : Kf κ "IceMannersLaw" code 7 p s m args c D tA A) (hk : ∀ i, 100000 ≤ i → i < 300000 → ρ i = κ i) (hX : va_X b L xs s s.heap) (hbl : b < s.heap.size) (hbA : ¬ A b) (hL : L ≤ 3072) : SpL p l e s m args below meth c D tA ρ A Qf b L qo (Ex ρ tA D A qo) 966 := by
  have hx := C0.1
  have hb := C0.2.1
  have hK := C0.2.2.2.2.2.1
  have hd := ld_line
  simp only [Bool.and_eq_true] at hd
  obtain ⟨⟨⟨⟨⟨⟨⟨d1, d2⟩, d3⟩, d4⟩, d5⟩, d6⟩, d7⟩, d8⟩ := hd
  intro i bb ln tx M H locs ls cells slots h6 hbb hcs hJ hP hS hE hl go
  obtain ⟨hln, htx, w, g, hw, hDx, hPx⟩ := hE
  have hcr : cells + 60 ≤ 601024 ∧ slots + 1200 ≤ 7293034 := ⟨by have := hcs.1; omega, by have := hcs.2; omega⟩
  have hD : va_D A ([oC tA qo g] ++ (wl ρ tA M ++ w)) := xk_D hDx
  have CL : Lw "IceMannersLaw" code 7 p s m args c D tA ρ A := C0.lw hk hDx.rgt.lft
  refine lv_aload_n hx hb (dcL_eq d1) rfl (lv_at hl 2 rfl) ?_
  refine lw_args hx hb hX hbl hbA hS (lv_at hl 1 rfl) (lv_at hl 0 rfl) h6 hL 1 967 1 _ d2 (by omega) ?_
  have ea : argV xs i 1 1 = [.int (xs (i + 1))] := rfl
  -- behind the class's call: the reference's, and the answers compared
  have ref : ∀ (v : Int32) (ln2 : Nat) (tx2 : Nat → Nat) (w2 : va_W) (H : Heap) (locs : List Loc), ln2 ≤ 25 → (∀ j, j < ln2 → tx2 j < 128) → Txw tA (ρ 300000) (ln2, tx2) w2 → Wn 40 127 (fun r2 M2 => r2 = some (.int v) ∧ JV (bb + 64) ln2 tx2 M2) (0, lv_args 0 (.ref 114 :: argV xs i 1 1), [], M) → va_P D clx ([oC tA qo g] ++ (wl ρ tA M ++ w2)) H → va_D A ([oC tA qo g] ++ (wl ρ tA M ++ w2)) → va_S A s.heap H locs → W p l e room_1 s m args below meth c H locs (cells + 15) (slots + 510) Qf (F0 m 976 ls [.int v]) := by
    intro v ln2 tx2 w2 H locs hln2 htx2 hw2 hM hP hD hS
    refine lv_aload_n hx hb (dcL_eq d4) rfl (lv_at hl 3 rfl) ?_
    refine lw_args hx hb hX hbl hbA hS (lv_at hl 1 rfl) (lv_at hl 0 rfl) h6 hL 1 977 1 _ d5 (by omega) ?_
    refine lw_callB CL d8 (dcL_eq d6) rfl hl.1 ⟨by show cells + 15 ≤ 601024; omega, by show slots + 510 ≤ 7293034; omega⟩ (by show 1 + 0 ≤ 8; decide) hP.rgt.lft.down hS hM (fun r M2 H2 locs2 hq hP2 hS2 hk2 => ?_)
    obtain ⟨rfl, hJ2⟩ := hq
    refine lv_icmp_eq (x := v) (y := v) (tgt := 1265) hx hb (dcL_eq d7) (by decide) (fun _ => ?_) (fun h => absurd rfl h)
    exact go ln2 tx2 M2 H2 locs2 ls (cells + 15) (slots + 510) hJ2 hP2 hS2 ⟨hln2, htx2, w2, g, hw2, xk_D hD, xk_P hD (va_P.app hP.lft hP.rgt.rgt) hk2⟩ hl (by omega) (by omega)
  have hPa : va_P D clx ([oC tA qo g] ++ (wl ρ tA M ++ w)) H := va_P.app hPx.lft (va_P.app hP.up hPx.rgt)
  have hrv := va_recv (ci := 9) (q0 := 0) (q := (cR9, cT9, 17)) hK hPa.rgt.lft rfl (wl_get (ρ := ρ) (tA := tA) (M := M) (p := 0) (a := 0) (b := 9) rfl (by decide))
  rw [ea] at ref ⊢
  generalize xs (i + 1) = x at ref ⊢
  have hcs2 : cells + 15 ≤ room_1.cells ∧ slots + 510 ≤ room_1.slots := ⟨by show cells + 15 ≤ 601024; omega, by show slots + 510 ≤ 7293034; omega⟩
  have hro : 10 + 1 ≤ room_1.frames ∧ 200 * (10 + 1) ≤ room_1.locals := ⟨Nat.le_of_ble_eq_true rfl, Nat.le_of_ble_eq_true rfl⟩
  have hJ0 := hJ
  obtain ⟨σ, n, H9, ν, T, L9, fk, ak, nw, uw, hj, td, sn, A9, S, U, i0, i1, hC, hM, hU⟩ := hJ
  have hV := hU.1.1
  have b6 := Bd_2 hV.1
  by_cases hp : pI σ x
  · obtain ⟨q, hq, rfl⟩ := pI_n hp b6
    obtain ⟨W, hW, hb8, eν⟩ := hU.2.2.2.2.2.2.1 q hq
    refine k_callVA (n := 1) (n1 := 1051) (n2 := 1052) (n3 := 1053) (n4 := 105) (n5 := 1054) (As := [.int (nI q)]) (rest := []) (wr := [oC tA qo g]) C0 (c_lin ρ M σ q W (ln, tx) w hk hC.1.1 hV hq (by rw [hC.1.2.2 q hq, eν]) hW hb8 hw) (by decide +kernel) hrv hPa hD hS hl.1 rfl (Nat.zero_le _) hro hcs2 (dcL_eq d3) rfl (fun r w1 H1 locs1 hQ hP1 hD1 hS1 => ?_)
    obtain ⟨rfl, w2, rfl, hw2⟩ := hQ
    refine ref _ (lnT σ q W).1 (lnT σ q W).2 w2 H1 locs1 (lnT_len hW σ q) (Lw8_lnT hV.1 (by omega) hb8) hw2 ?_ hP1 hD1 hS1
    refine (c_m_line 36 M σ ⟨hM.1, hV.1⟩ q hq W (by rw [hM.2.2.1 q hq, eν]) hW hb8).mono (fun r M2 k => ?_)
    have hF : FM M M2 := fr_up k.2.2.2 (by decide)
    exact ⟨k.1, σ, n, H9, ν, T, L9, fk, ak, nw, uw, hj, td, sn, A9, S, U, i0, i1, CA_FM hF hC, MA_ln k.2.2.2 k.2.2.1 k.2.1 hM, PUr_up hU (by omega)⟩
  · refine k_callVA (n := 1) (n1 := 1051) (n2 := 1052) (n3 := 1053) (n4 := 105) (n5 := 1054) (As := [.int x]) (rest := []) (wr := [oC tA qo g]) C0 (c_linX ρ M σ x w hk hC.1.1 hV hp) (by decide +kernel) hrv hPa hD hS hl.1 rfl (Nat.zero_le _) hro hcs2 (dcL_eq d3) rfl (fun r w1 H1 locs1 hQ hP1 hD1 hS1 => ?_)
    obtain ⟨rfl, rfl⟩ := hQ
    refine ref _ ln tx w H1 locs1 hln htx hw ?_ hP1 hD1 hS1
    exact (M_POt hC hM hU (c_m_lineP 38 M σ ⟨hM.1, hV.1⟩ x hp)).mono (fun r M2 k => ⟨k.1, k.2.1⟩)
set_option maxHeartbeats 4000000 in
set_option maxRecDepth 100000 in
theorem sp_byteAt {p : Program} {l : Launch} {e : Env} {s : State} {m : MethodId} {args : Array Value} {below : List Frame} {meth : Method} {c : Code} {D : va_G} {tA : Nat → ClassId} {κ ρ : Nat → Nat} {A : Nat → Prop} {Qf : State → Prop} {b L qo : Nat} {xs : Nat → Int32} (C0 : Kf κ "IceMannersLaw" code 7 p s m args c D tA A) (hk : ∀ i, 100000 ≤ i → i < 300000 → ρ i = κ i) (hX : va_X b L xs s s.heap) (hbl : b < s.heap.size) (hbA : ¬ A b) (hL : L ≤ 3072) : SpL p l e s m args below meth c D tA ρ A Qf b L qo (Ex ρ tA D A qo) 991 := by
  have hx := C0.1
  have hb := C0.2.1
  have hK := C0.2.2.2.2.2.1
  have hd := ld_byteAt
  simp only [Bool.and_eq_true] at hd
  obtain ⟨⟨⟨⟨⟨⟨⟨d1, d2⟩, d3⟩, d4⟩, d5⟩, d6⟩, d7⟩, d8⟩ := hd
  intro i bb ln tx M H locs ls cells slots h6 hbb hcs hJ hP hS hE hl go
  obtain ⟨hln, htx, w, g, hw, hDx, hPx⟩ := hE
  have hcr : cells + 60 ≤ 601024 ∧ slots + 1200 ≤ 7293034 := ⟨by have := hcs.1; omega, by have := hcs.2; omega⟩
  have hD : va_D A ([oC tA qo g] ++ (wl ρ tA M ++ w)) := xk_D hDx
  have CL : Lw "IceMannersLaw" code 7 p s m args c D tA ρ A := C0.lw hk hDx.rgt.lft
  refine lv_aload_n hx hb (dcL_eq d1) rfl (lv_at hl 2 rfl) ?_
  refine lw_args hx hb hX hbl hbA hS (lv_at hl 1 rfl) (lv_at hl 0 rfl) h6 hL 1 992 1 _ d2 (by omega) ?_
  have ea : argV xs i 1 1 = [.int (xs (i + 1))] := rfl
  -- behind the class's call: the reference's, and the answers compared
  have ref : ∀ (v : Int32) (ln2 : Nat) (tx2 : Nat → Nat) (w2 : va_W) (H : Heap) (locs : List Loc), ln2 ≤ 25 → (∀ j, j < ln2 → tx2 j < 128) → Txw tA (ρ 300000) (ln2, tx2) w2 → Wn 40 128 (fun r2 M2 => r2 = some (.int v) ∧ JV (bb + 64) ln2 tx2 M2) (0, lv_args 0 (.ref 114 :: argV xs i 1 1), [], M) → va_P D clx ([oC tA qo g] ++ (wl ρ tA M ++ w2)) H → va_D A ([oC tA qo g] ++ (wl ρ tA M ++ w2)) → va_S A s.heap H locs → W p l e room_1 s m args below meth c H locs (cells + 15) (slots + 510) Qf (F0 m 1001 ls [.int v]) := by
    intro v ln2 tx2 w2 H locs hln2 htx2 hw2 hM hP hD hS
    refine lv_aload_n hx hb (dcL_eq d4) rfl (lv_at hl 3 rfl) ?_
    refine lw_args hx hb hX hbl hbA hS (lv_at hl 1 rfl) (lv_at hl 0 rfl) h6 hL 1 1002 1 _ d5 (by omega) ?_
    refine lw_callB CL d8 (dcL_eq d6) rfl hl.1 ⟨by show cells + 15 ≤ 601024; omega, by show slots + 510 ≤ 7293034; omega⟩ (by show 1 + 0 ≤ 8; decide) hP.rgt.lft.down hS hM (fun r M2 H2 locs2 hq hP2 hS2 hk2 => ?_)
    obtain ⟨rfl, hJ2⟩ := hq
    refine lv_icmp_eq (x := v) (y := v) (tgt := 1265) hx hb (dcL_eq d7) (by decide) (fun _ => ?_) (fun h => absurd rfl h)
    exact go ln2 tx2 M2 H2 locs2 ls (cells + 15) (slots + 510) hJ2 hP2 hS2 ⟨hln2, htx2, w2, g, hw2, xk_D hD, xk_P hD (va_P.app hP.lft hP.rgt.rgt) hk2⟩ hl (by omega) (by omega)
  have hPa : va_P D clx ([oC tA qo g] ++ (wl ρ tA M ++ w)) H := va_P.app hPx.lft (va_P.app hP.up hPx.rgt)
  have hrv := va_recv (ci := 9) (q0 := 0) (q := (cR9, cT9, 17)) hK hPa.rgt.lft rfl (wl_get (ρ := ρ) (tA := tA) (M := M) (p := 0) (a := 0) (b := 9) rfl (by decide))
  rw [ea] at ref ⊢
  generalize xs (i + 1) = x at ref ⊢
  have hcs2 : cells + 15 ≤ room_1.cells ∧ slots + 510 ≤ room_1.slots := ⟨by show cells + 15 ≤ 601024; omega, by show slots + 510 ≤ 7293034; omega⟩
  have hro : 10 + 1 ≤ room_1.frames ∧ 200 * (10 + 1) ≤ room_1.locals := ⟨Nat.le_of_ble_eq_true rfl, Nat.le_of_ble_eq_true rfl⟩
  have hJ0 := hJ
  obtain ⟨σ, n, H9, ν, T, L9, fk, ak, nw, uw, hj, td, sn, A9, S, U, i0, i1, hC, hM, hU⟩ := hJ
  have hV := hU.1.1
  have b6 := Bd_2 hV.1
  have hn := hM.2.2.2.2.2.2.2.2.2.2.2.2.1
  have ht := hM.2.2.2.2.2.2.2.2.2.2.2.2.2
  by_cases hp : x < 0 ∨ nI ln ≤ x
  · refine k_callVA (n := 1) (n1 := 1251) (n2 := 1252) (n3 := 1253) (n4 := 105) (n5 := 1254) (As := [.int x]) (rest := []) (wr := [oC tA qo g]) C0 (c_bytX ρ M (ln, tx) w x hk hw hp) (by decide +kernel) hrv hPa hD hS hl.1 rfl (Nat.zero_le _) hro hcs2 (dcL_eq d3) rfl (fun r w1 H1 locs1 hQ hP1 hD1 hS1 => ?_)
    obtain ⟨rfl, rfl⟩ := hQ
    refine ref _ ln tx w H1 locs1 hln htx hw ?_ hP1 hD1 hS1
    exact (M_POt hC hM hU (c_m_byteAtX 39 M ln hn (by omega) x hp)).mono (fun r M2 k => ⟨k.1, k.2.1⟩)
  · have h0 : ¬ x < 0 := fun h => hp (Or.inl h)
    have h1 : ¬ nI ln ≤ x := fun h => hp (Or.inr h)
    rw [Int32.lt_iff_toInt_lt, Int32.toInt_zero] at h0
    rw [Int32.le_iff_toInt_le, nI_toInt (by omega)] at h1
    obtain ⟨k9, hk9, rfl, -⟩ := i32_nat (x := x) (n := ln) (by omega) (by omega) (by omega)
    have e9 : M.1 127 k9 = nI (tx k9) := ht k9 hk9
    refine k_callVA (n := 1) (n1 := 1251) (n2 := 1252) (n3 := 1253) (n4 := 105) (n5 := 1254) (As := [.int (nI k9)]) (rest := []) (wr := [oC tA qo g]) C0 (c_byt ρ M (ln, tx) w k9 hk hw hk9 (htx k9 hk9)) (by decide +kernel) hrv hPa hD hS hl.1 rfl (Nat.zero_le _) hro hcs2 (dcL_eq d3) rfl (fun r w1 H1 locs1 hQ hP1 hD1 hS1 => ?_)
    obtain ⟨rfl, rfl⟩ := hQ
    refine ref _ ln tx w H1 locs1 hln htx hw ?_ hP1 hD1 hS1
    have h9 := c_m_byteAt 39 M ln hn (by omega) k9 hk9
    rw [e9] at h9
    exact (M_POt hC hM hU h9).mono (fun r M2 k => ⟨k.1, k.2.1⟩)
