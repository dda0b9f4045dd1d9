/-! line and byteAt of the class: their contracts. Printed by wip/whole/pFA.py. -/
theorem Lk_of {M : Mm} {σ : Nat → Nat} (h : StC M 6 σ) : LkC M 3 σ := h.2.1
set_option maxHeartbeats 4000000 in
set_option maxRecDepth 100000 in
theorem c_lin {l : Launch} {κ : Nat → Nat} {D : va_G} {tA : Nat → ClassId} (ρ : Nat → Nat) (M : Mm) (σ : Nat → Nat) (q nm9 : Nat) (t : Txt) (w : va_W) (hk : ∀ i, 100000 ≤ i → i < 300000 → ρ i = κ i) (hSt : StC M 6 σ) (hI9 : Inv σ) (hq : q < σ 2) (hN : M.2.1 4 q = Int64.ofNat nm9) (hW : nm9 < 72057594037927936) (hb8 : ∀ k, k < 8 → nm9 / 2 ^ (8 * k) % 256 < 128) (hw : Txw tA (ρ 300000) t w) : Ct l κ D tA ky_lin kc_lin 3 (some .int) 10 15 510 [.ref (ρ 0), .int (nI q)] (wl ρ tA M ++ w) (QLn ρ tA M (lnT σ q nm9)) := by
  refine Ct.of rfl (Nat.le_of_ble_eq_true rfl) ?_
  intro p e s m args below meth c A ls C0 hr hlocks hin hP hD hS hl
  have hx := C0.1
  have hb := C0.2.1
  have hK := C0.2.2.2.2.2.1
  have hB := hI9.1
  have b6 := Bd_2 hB
  have hl : lv_has ls 3 [(0, .ref (ρ 0)), (1, .int (nI q))] := hl
  refine lv_aload_n hx hb kd_lin_0 rfl (lv_at hl 0 rfl) ?_
  refine lg_get (pl := 0) (ci := 9) (k := 2) (q := (5, 2)) (n9 := 525) (C0.lw hk hD.lft) hP.lft.down (by decide +kernel) rfl rfl kd_lin_1 ?_
  refine lg_get (pl := 2) (ci := 8) (k := 0) (q := (3, 1)) (n9 := 323) (C0.lw hk hD.lft) hP.lft.down (by decide +kernel) rfl rfl kd_lin_4 ?_
  refine lv_iload_n hx hb kd_lin_7 rfl (lv_at hl 1 rfl) ?_
  refine lg_call (d := 0) (p0 := 3) (ix := 133) (n9 := 791) (j := 164) (n := 1) (k9 := 2) (As := [.int (nI q)]) (v := .int (nI 1)) (st := []) (C0.lw hk hD.lft) (by decide +kernel) rfl rfl (Nat.le_of_ble_eq_true rfl) (Nat.zero_le _) ⟨Nat.le_of_ble_eq_true rfl, ?_⟩ ⟨Nat.zero_le _, Nat.zero_le _⟩ kd_lin_8 rfl hl.1 hP.lft.down hS (w_lk_isPersonT 0 M 3 σ (Lk_of hSt) hB q hq _ ⟨rfl, rfl⟩) (fun H1 locs1 hP1 hS1 hkp => ?_)
  · have h9 := (mok_sp 164 (by decide)).1.2.2.2.1
    show 8 + (mL 164 + 11) + 200 * 3 ≤ 2000
    omega
  replace hP := wl_beside hP hD hkp hP1
  clear hP1 hkp
  refine lv_if_ne (tgt := 16) hx hb kd_lin_11 (by decide) (fun h9 => ?_) (fun h9 => absurd h9 (show ¬ nI 1 = 0 by decide))
  refine lv_aload_n hx hb kd_lin_16 rfl (lv_at hl 0 rfl) ?_
  refine lg_get (pl := 0) (ci := 9) (k := 2) (q := (5, 2)) (n9 := 525) (C0.lw hk hD.lft) hP.lft.down (by decide +kernel) rfl rfl kd_lin_17 ?_
  refine lg_get (pl := 2) (ci := 8) (k := 1) (q := (3, 4)) (n9 := 327) (C0.lw hk hD.lft) hP.lft.down (by decide +kernel) rfl rfl kd_lin_20 ?_
  refine lv_astore_n (lv' := [(2, .ref (ρ 6)), (0, .ref (ρ 0)), (1, .int (nI q))]) hx hb kd_lin_23 rfl hl (by decide) rfl (fun ls hl => ?_)
  refine lv_aload_n hx hb kd_lin_24 rfl (lv_at hl 1 rfl) ?_
  refine lg_get (pl := 0) (ci := 9) (k := 12) (q := (5, 300000)) (n9 := 535) (C0.lw hk hD.lft) hP.lft.down (by decide +kernel) rfl rfl kd_lin_25 ?_
  refine lv_iconst (v := 0) hx hb kd_lin_28 (by decide) ?_
  obtain ⟨qb, n, f, ml, g1, g2, g3, g4, rfl⟩ := hw
  refine k_callVA (n := 1) (n1 := 1055) (n2 := 1056) (n3 := 1057) (n4 := 119) (n5 := 1058) (As := [.int 0]) (rest := []) C0 (s_ssetl (ρ 300000) qb n t.1 f (fun j => nI (t.2 j)) ml g1 g2 g3 g4) (by decide +kernel) (va_recv hK hP.rgt (ci := 11) (q0 := 0) rfl rfl) hP hD hS1 hl.1 rfl (Nat.zero_le _) ⟨Nat.le_of_ble_eq_true rfl, Nat.le_of_ble_eq_true rfl⟩ ⟨Nat.le_of_ble_eq_true rfl, Nat.le_of_ble_eq_true rfl⟩ kd_lin_29 rfl (fun r w1 H locs hQ hP hD hS => ?_)
  obtain ⟨rfl, hw1⟩ := hQ
  have hw2 : Txw tA (ρ 300000) (0, fun _ => 0) w1 := TWp_cg (cnt := 0) hw1 (fun j hj => absurd hj (Nat.not_lt_zero _))
  refine lv_aload_n hx hb kd_lin_32 rfl (lv_at hl 1 rfl) ?_
  refine lv_aload_n hx hb kd_lin_33 rfl (lv_at hl 1 rfl) ?_
  refine lg_get (pl := 0) (ci := 9) (k := 2) (q := (5, 2)) (n9 := 525) (C0.lw hk hD.lft) hP.lft.down (by decide +kernel) rfl rfl kd_lin_34 ?_
  refine lg_get (pl := 2) (ci := 8) (k := 0) (q := (3, 1)) (n9 := 323) (C0.lw hk hD.lft) hP.lft.down (by decide +kernel) rfl rfl kd_lin_37 ?_
  refine lg_get (pl := 3) (ci := 2) (k := 8) (q := (3, 1)) (n9 := 193) (C0.lw hk hD.lft) hP.lft.down (by decide +kernel) rfl rfl kd_lin_40 ?_
  refine lv_iload_n hx hb kd_lin_43 rfl (lv_at hl 2 rfl) ?_
  refine lg_lald (pl := 4) (n := 6) (k := q) (C0.lw hk hD.lft) hP.lft.down rfl rfl (by omega) (by decide) kd_lin_44 ?_
  rw [hN]
  have hrv := va_recv (ci := 9) (q0 := 0) (q := (cR9, cT9, 17)) hK hP.lft rfl (wl_get (ρ := ρ) (tA := tA) (M := M) (p := 0) (a := 0) (b := 9) rfl (by decide))
  refine k_callVA (n := 1) (n1 := 1109) (n2 := 1111) (n3 := 26) (n4 := 105) (n5 := 1112) (As := [.long (Int64.ofNat nm9)]) (rest := []) (wr := []) C0 (c_put ρ M nm9 (0, fun _ => 0) w1 hk (by omega) hb8 (Nat.le_of_ble_eq_true rfl) hw2) (by decide +kernel) hrv (by rw [List.nil_append]; exact hP) (by rw [List.nil_append]; exact hD) hS hl.1 rfl (Nat.zero_le _) ⟨Nat.le_of_ble_eq_true rfl, Nat.le_of_ble_eq_true rfl⟩ ⟨Nat.le_of_ble_eq_true rfl, Nat.le_of_ble_eq_true rfl⟩ kd_lin_45 rfl (fun r w2 H locs hQ hP hD hS => ?_)
  obtain ⟨rfl, w3, rfl, hw3⟩ := hQ
  rw [List.nil_append] at hP hD
  refine lin_1 C0 hr hlocks hk hSt hI9 hq ?_ ?_ ⟨Nat.le_of_ble_eq_true rfl, Nat.le_of_ble_eq_true rfl⟩ hw3 hP hD hS hl
  · exact Nat.le_trans (spl_len nm9 7 (0, fun _ => 0)).2 (Nat.le_of_ble_eq_true rfl)
  · unfold lnT
    rw [spl_7 hW]
set_option maxHeartbeats 4000000 in
set_option maxRecDepth 100000 in
theorem c_linX {l : Launch} {κ : Nat → Nat} {D : va_G} {tA : Nat → ClassId} (ρ : Nat → Nat) (M : Mm) (σ : Nat → Nat) (x : Int32) (w : va_W) (hk : ∀ i, 100000 ≤ i → i < 300000 → ρ i = κ i) (hSt : StC M 6 σ) (hI9 : Inv σ) (hnp : ¬ pI σ x) : Ct l κ D tA ky_lin kc_lin 3 (some .int) 10 15 510 [.ref (ρ 0), .int x] (wl ρ tA M ++ w) (fun r w2 => r = some (.int (-1)) ∧ w2 = wl ρ tA M ++ w) := by
  refine Ct.of rfl (Nat.le_of_ble_eq_true rfl) ?_
  intro p e s m args below meth c A ls C0 hr hlocks hin hP hD hS hl
  have hx := C0.1
  have hb := C0.2.1
  have hB := hI9.1
  have hl : lv_has ls 3 [(0, .ref (ρ 0)), (1, .int x)] := hl
  refine lv_aload_n hx hb kd_lin_0 rfl (lv_at hl 0 rfl) ?_
  refine lg_get (pl := 0) (ci := 9) (k := 2) (q := (5, 2)) (n9 := 525) (C0.lw hk hD.lft) hP.lft.down (by decide +kernel) rfl rfl kd_lin_1 ?_
  refine lg_get (pl := 2) (ci := 8) (k := 0) (q := (3, 1)) (n9 := 323) (C0.lw hk hD.lft) hP.lft.down (by decide +kernel) rfl rfl kd_lin_4 ?_
  refine lv_iload_n hx hb kd_lin_7 rfl (lv_at hl 1 rfl) ?_
  refine lg_call (d := 0) (p0 := 3) (ix := 133) (n9 := 791) (j := 164) (n := 1) (k9 := 2) (As := [.int x]) (v := .int (nI 0)) (st := []) (C0.lw hk hD.lft) (by decide +kernel) rfl rfl (Nat.le_of_ble_eq_true rfl) (Nat.zero_le _) ⟨Nat.le_of_ble_eq_true rfl, ?_⟩ ⟨Nat.zero_le _, Nat.zero_le _⟩ kd_lin_8 rfl hl.1 hP.lft.down hS (w_lk_isPersonF 0 M 3 σ (Lk_of hSt) hB x hnp _ ⟨rfl, rfl⟩) (fun H1 locs1 hP1 hS1 hkp => ?_)
  · have h9 := (mok_sp 164 (by decide)).1.2.2.2.1
    show 8 + (mL 164 + 11) + 200 * 3 ≤ 2000
    omega
  replace hP := wl_beside hP hD hkp hP1
  refine lv_if_ne (tgt := 16) hx hb kd_lin_11 (by decide) (fun h9 => absurd (show nI 0 = 0 by decide) h9) (fun h9 => ?_)
  refine lv_iconst (v := -1) hx hb kd_lin_14 (by decide) ?_
  exact k_iret C0 hr hlocks hP hD hS1 ⟨rfl, rfl⟩ ⟨Nat.zero_le _, Nat.zero_le _⟩ kd_lin_15
set_option maxHeartbeats 4000000 in
set_option maxRecDepth 100000 in
theorem c_byt {l : Launch} {κ : Nat → Nat} {D : va_G} {tA : Nat → ClassId} (ρ : Nat → Nat) (M : Mm) (t : Txt) (w : va_W) (k9 : Nat) (hk : ∀ i, 100000 ≤ i → i < 300000 → ρ i = κ i) (hw : Txw tA (ρ 300000) t w) (hk9 : k9 < t.1) (h8 : t.2 k9 < 128) : Ct l κ D tA ky_byt kc_byt 2 (some .int) 10 15 510 [.ref (ρ 0), .int (nI k9)] (wl ρ tA M ++ w) (fun r w2 => r = some (.int (nI (t.2 k9))) ∧ w2 = wl ρ tA M ++ w) := by
  refine Ct.of rfl (Nat.le_of_ble_eq_true rfl) ?_
  intro p e s m args below meth c A ls C0 hr hlocks hin hP hD hS hl
  have hx := C0.1
  have hb := C0.2.1
  have hK := C0.2.2.2.2.2.1
  have hl : lv_has ls 2 [(0, .ref (ρ 0)), (1, .int (nI k9))] := hl
  obtain ⟨qb, n, f, ml, g1, g2, g3, g4, rfl⟩ := hw
  have hn : n ≤ 34 := by omega
  refine lv_iload_n hx hb kd_byt_0 rfl (lv_at hl 1 rfl) ?_
  refine lv_if_lt (tgt := 26) hx hb kd_byt_1 (by decide) (fun h9 => absurd h9 (nI_not_neg (by omega))) (fun h9 => ?_)
  refine lv_iload_n hx hb kd_byt_4 rfl (lv_at hl 1 rfl) ?_
  refine lv_aload_n hx hb kd_byt_5 rfl (lv_at hl 0 rfl) ?_
  refine lg_get (pl := 0) (ci := 9) (k := 12) (q := (5, 300000)) (n9 := 535) (C0.lw hk hD.lft) hP.lft.down (by decide +kernel) rfl rfl kd_byt_6 ?_
  refine k_callVA (n := 0) (n1 := 1244) (n2 := 1245) (n3 := 1246) (n4 := 119) (n5 := 1247) (As := []) (rest := [.int (nI k9)]) C0 (s_slenb (ρ 300000) qb n t.1 f ml) (by decide +kernel) (va_recv hK hP.rgt (ci := 11) (q0 := 0) rfl rfl) hP hD hS hl.1 rfl (show 1 + 0 ≤ 8 by decide) ⟨Nat.le_of_ble_eq_true rfl, Nat.le_of_ble_eq_true rfl⟩ ⟨Nat.le_of_ble_eq_true rfl, Nat.le_of_ble_eq_true rfl⟩ kd_byt_9 rfl (fun r w1 H locs hQ hP hD hS => ?_)
  obtain ⟨rfl, rfl⟩ := hQ
  refine lv_icmp_ge (tgt := 26) hx hb kd_byt_12 (by decide) (fun h9 => absurd h9 (by rw [Int32.le_iff_toInt_le, nI_toInt (by omega), nI_toInt (by omega)]; omega)) (fun h9 => ?_)
  refine lv_aload_n hx hb kd_byt_15 rfl (lv_at hl 0 rfl) ?_
  refine lg_get (pl := 0) (ci := 9) (k := 12) (q := (5, 300000)) (n9 := 535) (C0.lw hk hD.lft) hP.lft.down (by decide +kernel) rfl rfl kd_byt_16 ?_
  refine lv_iload_n hx hb kd_byt_19 rfl (lv_at hl 1 rfl) ?_
  refine k_callVA (n := 1) (n1 := 1255) (n2 := 1256) (n3 := 1257) (n4 := 119) (n5 := 1258) (As := [.int (nI k9)]) (rest := []) C0 (s_schr (ρ 300000) qb n t.1 f ml k9 (t.2 k9) (by omega) g2 hk9 (g4 k9 hk9) h8) (by decide +kernel) (va_recv hK hP.rgt (ci := 11) (q0 := 0) rfl rfl) hP hD hS hl.1 rfl (Nat.zero_le _) ⟨Nat.le_of_ble_eq_true rfl, Nat.le_of_ble_eq_true rfl⟩ ⟨Nat.le_of_ble_eq_true rfl, Nat.le_of_ble_eq_true rfl⟩ kd_byt_20 rfl (fun r w1 H locs hQ hP hD hS => ?_)
  obtain ⟨rfl, rfl⟩ := hQ
  refine lv_goto (tgt := 27) hx hb kd_byt_23 (by decide) ?_
  exact k_iret C0 hr hlocks hP hD hS ⟨rfl, rfl⟩ ⟨Nat.le_of_ble_eq_true rfl, Nat.le_of_ble_eq_true rfl⟩ kd_byt_27
set_option maxHeartbeats 4000000 in
set_option maxRecDepth 100000 in
theorem c_bytX {l : Launch} {κ : Nat → Nat} {D : va_G} {tA : Nat → ClassId} (ρ : Nat → Nat) (M : Mm) (t : Txt) (w : va_W) (x : Int32) (hk : ∀ i, 100000 ≤ i → i < 300000 → ρ i = κ i) (hw : Txw tA (ρ 300000) t w) (hx9 : x < 0 ∨ nI t.1 ≤ x) : Ct l κ D tA ky_byt kc_byt 2 (some .int) 10 15 510 [.ref (ρ 0), .int x] (wl ρ tA M ++ w) (fun r w2 => r = some (.int (-1)) ∧ w2 = wl ρ tA M ++ w) := by
  refine Ct.of rfl (Nat.le_of_ble_eq_true rfl) ?_
  intro p e s m args below meth c A ls C0 hr hlocks hin hP hD hS hl
  have hx := C0.1
  have hb := C0.2.1
  have hK := C0.2.2.2.2.2.1
  have hl : lv_has ls 2 [(0, .ref (ρ 0)), (1, .int x)] := hl
  obtain ⟨qb, n, f, ml, g1, g2, g3, g4, rfl⟩ := hw
  refine lv_iload_n hx hb kd_byt_0 rfl (lv_at hl 1 rfl) ?_
  refine lv_if_lt (tgt := 26) hx hb kd_byt_1 (by decide) (fun h9 => ?_) (fun h9 => ?_)
  · refine lv_iconst (v := -1) hx hb kd_byt_26 (by decide) ?_
    exact k_iret C0 hr hlocks hP hD hS ⟨rfl, rfl⟩ ⟨Nat.zero_le _, Nat.zero_le _⟩ kd_byt_27
  · have hx8 : nI t.1 ≤ x := hx9.resolve_left h9
    refine lv_iload_n hx hb kd_byt_4 rfl (lv_at hl 1 rfl) ?_
    refine lv_aload_n hx hb kd_byt_5 rfl (lv_at hl 0 rfl) ?_
    refine lg_get (pl := 0) (ci := 9) (k := 12) (q := (5, 300000)) (n9 := 535) (C0.lw hk hD.lft) hP.lft.down (by decide +kernel) rfl rfl kd_byt_6 ?_
    refine k_callVA (n := 0) (n1 := 1244) (n2 := 1245) (n3 := 1246) (n4 := 119) (n5 := 1247) (As := []) (rest := [.int x]) C0 (s_slenb (ρ 300000) qb n t.1 f ml) (by decide +kernel) (va_recv hK hP.rgt (ci := 11) (q0 := 0) rfl rfl) hP hD hS hl.1 rfl (show 1 + 0 ≤ 8 by decide) ⟨Nat.le_of_ble_eq_true rfl, Nat.le_of_ble_eq_true rfl⟩ ⟨Nat.le_of_ble_eq_true rfl, Nat.le_of_ble_eq_true rfl⟩ kd_byt_9 rfl (fun r w1 H locs hQ hP hD hS => ?_)
    obtain ⟨rfl, rfl⟩ := hQ
    refine lv_icmp_ge (tgt := 26) hx hb kd_byt_12 (by decide) (fun h9 => ?_) (fun h9 => absurd hx8 h9)
    refine lv_iconst (v := -1) hx hb kd_byt_26 (by decide) ?_
    exact k_iret C0 hr hlocks hP hD hS ⟨rfl, rfl⟩ ⟨Nat.zero_le _, Nat.zero_le _⟩ kd_byt_27
