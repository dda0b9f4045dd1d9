/-! The text: digits, its length, its characters. Printed by wip/whole/pF6.py. -/
theorem nI_dc1 (a : Nat) : nI (a + 1) + Int32.ofInt (-1) = nI a := by
  rw [show nI (a + 1) = Int32.ofInt ((a + 1 : Nat) : Int) from rfl, ← Int32.ofInt_add, show ((a + 1 : Nat) : Int) + -1 = (a : Int) from by omega]
  rfl
theorem dg_1 {d : Nat} (hd : d < 10) : ¬ nI d < 0 ∧ ¬ -nI d ≤ -10 ∧ -100 < -nI d ∧ -(-nI d) = nI d ∧ -9 ≤ -nI d ∧ 0 ≤ nI d := by
  have h : ∀ d, d < 10 → ¬ nI d < 0 ∧ ¬ -nI d ≤ -10 ∧ -100 < -nI d ∧ -(-nI d) = nI d ∧ -9 ≤ -nI d ∧ 0 ≤ nI d := by decide +kernel
  exact h d hd
theorem chr_1 {v : Nat} (hv : v < 128) : nI v &&& 255 = nI v ∧ ((nI v).toUInt32 % 65536).toInt32 = nI v ∧ narrow .char (.int (nI v)) = .int (nI v) := by
  have h : ∀ v, v < 128 → nI v &&& 255 = nI v ∧ ((nI v).toUInt32 % 65536).toInt32 = nI v ∧ narrow .char (.int (nI v)) = .int (nI v) := by decide +kernel
  exact h v hv
abbrev kc_ssz : ByteArray := prog_23_method_13_code
def ky_ssz : MethodName := ⟨"java/lang/Integer", "stringSize", "(I)I"⟩
set_option maxRecDepth 100000 in
theorem kd_ssz_0 : decode kc_ssz 0 = .ok (.iconst 1, 1) := by decide +kernel
set_option maxRecDepth 100000 in
theorem kd_ssz_1 : decode kc_ssz 1 = .ok (.istore_n 1, 1) := by decide +kernel
set_option maxRecDepth 100000 in
theorem kd_ssz_2 : decode kc_ssz 2 = .ok (.iload_n 0, 1) := by decide +kernel
set_option maxRecDepth 100000 in
theorem kd_ssz_3 : decode kc_ssz 3 = .ok (.ifCond .lt 8, 3) := by decide +kernel
set_option maxRecDepth 100000 in
theorem kd_ssz_6 : decode kc_ssz 6 = .ok (.iconst 0, 1) := by decide +kernel
set_option maxRecDepth 100000 in
theorem kd_ssz_7 : decode kc_ssz 7 = .ok (.istore_n 1, 1) := by decide +kernel
set_option maxRecDepth 100000 in
theorem kd_ssz_8 : decode kc_ssz 8 = .ok (.iload_n 0, 1) := by decide +kernel
set_option maxRecDepth 100000 in
theorem kd_ssz_9 : decode kc_ssz 9 = .ok (.ineg, 1) := by decide +kernel
set_option maxRecDepth 100000 in
theorem kd_ssz_10 : decode kc_ssz 10 = .ok (.istore_n 0, 1) := by decide +kernel
set_option maxRecDepth 100000 in
theorem kd_ssz_11 : decode kc_ssz 11 = .ok (.bipush (-10), 2) := by decide +kernel
set_option maxRecDepth 100000 in
theorem kd_ssz_13 : decode kc_ssz 13 = .ok (.istore_n 2, 1) := by decide +kernel
set_option maxRecDepth 100000 in
theorem kd_ssz_14 : decode kc_ssz 14 = .ok (.iconst 1, 1) := by decide +kernel
set_option maxRecDepth 100000 in
theorem kd_ssz_15 : decode kc_ssz 15 = .ok (.istore_n 3, 1) := by decide +kernel
set_option maxRecDepth 100000 in
theorem kd_ssz_16 : decode kc_ssz 16 = .ok (.iload_n 3, 1) := by decide +kernel
set_option maxRecDepth 100000 in
theorem kd_ssz_17 : decode kc_ssz 17 = .ok (.bipush 10, 2) := by decide +kernel
set_option maxRecDepth 100000 in
theorem kd_ssz_19 : decode kc_ssz 19 = .ok (.if_icmp .ge 23, 3) := by decide +kernel
set_option maxRecDepth 100000 in
theorem kd_ssz_22 : decode kc_ssz 22 = .ok (.iload_n 0, 1) := by decide +kernel
set_option maxRecDepth 100000 in
theorem kd_ssz_23 : decode kc_ssz 23 = .ok (.iload_n 2, 1) := by decide +kernel
set_option maxRecDepth 100000 in
theorem kd_ssz_24 : decode kc_ssz 24 = .ok (.if_icmp .le 7, 3) := by decide +kernel
set_option maxRecDepth 100000 in
theorem kd_ssz_27 : decode kc_ssz 27 = .ok (.iload_n 3, 1) := by decide +kernel
set_option maxRecDepth 100000 in
theorem kd_ssz_28 : decode kc_ssz 28 = .ok (.iload_n 1, 1) := by decide +kernel
set_option maxRecDepth 100000 in
theorem kd_ssz_29 : decode kc_ssz 29 = .ok (.iadd, 1) := by decide +kernel
set_option maxRecDepth 100000 in
theorem kd_ssz_30 : decode kc_ssz 30 = .ok (.ireturn, 1) := by decide +kernel
set_option maxHeartbeats 4000000 in
set_option maxRecDepth 100000 in
theorem t_ssz {l : Launch} {κ : Nat → Nat} {D : va_G} {tA : Nat → ClassId} (d : Nat) (hd : d < 10) : Ct l κ D tA ky_ssz kc_ssz 4 (some FieldType.int) 0 0 0 [.int (nI d)] [] (fun r w => r = some (.int 1) ∧ w = []) := by
  refine Ct.of rfl (Nat.le_of_ble_eq_true rfl) ?_
  intro p e s m args below meth c A ls C0 hr hlocks hin hP hD hS hl
  obtain ⟨hx, hb, hml, hown, hts, hK, hA, hI⟩ := id C0
  have hl : lv_has ls 4 [(0, .int (nI d))] := hl
  have hin : meth.name = "stringSize" := hin
  refine lv_iconst (v := 1) hx hb kd_ssz_0 (by decide) ?_
  refine lv_istore_n (lv' := [(1, .int 1), (0, .int (nI d))]) hx hb kd_ssz_1 rfl hl (by decide) rfl (fun ls hl => ?_)
  refine lv_iload_n hx hb kd_ssz_2 rfl (lv_at hl 1 rfl) ?_
  refine lv_if_lt (tgt := 11) hx hb kd_ssz_3 (by decide) (fun h9 => absurd h9 ((dg_1 hd).1)) (fun h9 => ?_)
  refine lv_iconst (v := 0) hx hb kd_ssz_6 (by decide) ?_
  refine lv_istore_n (lv' := [(1, .int 0), (0, .int (nI d))]) hx hb kd_ssz_7 rfl hl (by decide) rfl (fun ls hl => ?_)
  refine lv_iload_n hx hb kd_ssz_8 rfl (lv_at hl 1 rfl) ?_
  refine lv_ineg hx hb kd_ssz_9 ?_
  refine lv_istore_n (lv' := [(0, .int (-(nI d))), (1, .int 0)]) hx hb kd_ssz_10 rfl hl (by decide) rfl (fun ls hl => ?_)
  refine lv_bipush (v := (-10)) hx hb kd_ssz_11 (by decide) ?_
  refine lv_istore_n (lv' := [(2, .int (-10)), (0, .int (-(nI d))), (1, .int 0)]) hx hb kd_ssz_13 rfl hl (by decide) rfl (fun ls hl => ?_)
  refine lv_iconst (v := 1) hx hb kd_ssz_14 (by decide) ?_
  refine lv_istore_n (lv' := [(3, .int 1), (2, .int (-10)), (0, .int (-(nI d))), (1, .int 0)]) hx hb kd_ssz_15 rfl hl (by decide) rfl (fun ls hl => ?_)
  refine lv_iload_n hx hb kd_ssz_16 rfl (lv_at hl 0 rfl) ?_
  refine lv_bipush (v := 10) hx hb kd_ssz_17 (by decide) ?_
  refine lv_icmp_ge (tgt := 42) hx hb kd_ssz_19 (by decide) (fun h9 => absurd h9 (by decide)) (fun h9 => ?_)
  refine lv_iload_n hx hb kd_ssz_22 rfl (lv_at hl 2 rfl) ?_
  refine lv_iload_n hx hb kd_ssz_23 rfl (lv_at hl 1 rfl) ?_
  refine lv_icmp_le (tgt := 31) hx hb kd_ssz_24 (by decide) (fun h9 => absurd h9 ((dg_1 hd).2.1)) (fun h9 => ?_)
  refine lv_iload_n hx hb kd_ssz_27 rfl (lv_at hl 0 rfl) ?_
  refine lv_iload_n hx hb kd_ssz_28 rfl (lv_at hl 3 rfl) ?_
  refine lv_iadd hx hb kd_ssz_29 ?_
  refine W.eq (g2 := F0 m 30 ls [.int 1]) (by rfl) ?_
  exact k_iret C0 hr hlocks hP hD hS ⟨rfl, rfl⟩ ⟨Nat.le_of_ble_eq_true rfl, Nat.le_of_ble_eq_true rfl⟩ kd_ssz_30
abbrev kc_gch : ByteArray := prog_23_method_12_code
def ky_gch : MethodName := ⟨"java/lang/Integer", "getChars", "(II[B)I"⟩
set_option maxRecDepth 100000 in
theorem kd_gch_0 : decode kc_gch 0 = .ok (.iload_n 1, 1) := by decide +kernel
set_option maxRecDepth 100000 in
theorem kd_gch_1 : decode kc_gch 1 = .ok (.istore 5, 2) := by decide +kernel
set_option maxRecDepth 100000 in
theorem kd_gch_3 : decode kc_gch 3 = .ok (.iload_n 0, 1) := by decide +kernel
set_option maxRecDepth 100000 in
theorem kd_gch_4 : decode kc_gch 4 = .ok (.ifCond .ge 7, 3) := by decide +kernel
set_option maxRecDepth 100000 in
theorem kd_gch_11 : decode kc_gch 11 = .ok (.iconst 0, 1) := by decide +kernel
set_option maxRecDepth 100000 in
theorem kd_gch_12 : decode kc_gch 12 = .ok (.istore 6, 2) := by decide +kernel
set_option maxRecDepth 100000 in
theorem kd_gch_14 : decode kc_gch 14 = .ok (.iload 6, 2) := by decide +kernel
set_option maxRecDepth 100000 in
theorem kd_gch_16 : decode kc_gch 16 = .ok (.ifCond .ne 6, 3) := by decide +kernel
set_option maxRecDepth 100000 in
theorem kd_gch_19 : decode kc_gch 19 = .ok (.iload_n 0, 1) := by decide +kernel
set_option maxRecDepth 100000 in
theorem kd_gch_20 : decode kc_gch 20 = .ok (.ineg, 1) := by decide +kernel
set_option maxRecDepth 100000 in
theorem kd_gch_21 : decode kc_gch 21 = .ok (.istore_n 0, 1) := by decide +kernel
set_option maxRecDepth 100000 in
theorem kd_gch_22 : decode kc_gch 22 = .ok (.iload_n 0, 1) := by decide +kernel
set_option maxRecDepth 100000 in
theorem kd_gch_23 : decode kc_gch 23 = .ok (.bipush (-100), 2) := by decide +kernel
set_option maxRecDepth 100000 in
theorem kd_gch_25 : decode kc_gch 25 = .ok (.if_icmp .gt 47, 3) := by decide +kernel
set_option maxRecDepth 100000 in
theorem kd_gch_72 : decode kc_gch 72 = .ok (.aload_n 2, 1) := by decide +kernel
set_option maxRecDepth 100000 in
theorem kd_gch_73 : decode kc_gch 73 = .ok (.iinc 5 (-1), 3) := by decide +kernel
set_option maxRecDepth 100000 in
theorem kd_gch_76 : decode kc_gch 76 = .ok (.iload 5, 2) := by decide +kernel
set_option maxRecDepth 100000 in
theorem kd_gch_78 : decode kc_gch 78 = .ok (.getstatic 83, 3) := by decide +kernel
set_option maxRecDepth 100000 in
theorem kd_gch_81 : decode kc_gch 81 = .ok (.iload_n 0, 1) := by decide +kernel
set_option maxRecDepth 100000 in
theorem kd_gch_82 : decode kc_gch 82 = .ok (.ineg, 1) := by decide +kernel
set_option maxRecDepth 100000 in
theorem kd_gch_83 : decode kc_gch 83 = .ok (.baload, 1) := by decide +kernel
set_option maxRecDepth 100000 in
theorem kd_gch_84 : decode kc_gch 84 = .ok (.bastore, 1) := by decide +kernel
set_option maxRecDepth 100000 in
theorem kd_gch_85 : decode kc_gch 85 = .ok (.iload_n 0, 1) := by decide +kernel
set_option maxRecDepth 100000 in
theorem kd_gch_86 : decode kc_gch 86 = .ok (.bipush (-9), 2) := by decide +kernel
set_option maxRecDepth 100000 in
theorem kd_gch_88 : decode kc_gch 88 = .ok (.if_icmp .ge 16, 3) := by decide +kernel
set_option maxRecDepth 100000 in
theorem kd_gch_104 : decode kc_gch 104 = .ok (.iload 6, 2) := by decide +kernel
set_option maxRecDepth 100000 in
theorem kd_gch_106 : decode kc_gch 106 = .ok (.ifCond .eq 12, 3) := by decide +kernel
set_option maxRecDepth 100000 in
theorem kd_gch_118 : decode kc_gch 118 = .ok (.iload 5, 2) := by decide +kernel
set_option maxRecDepth 100000 in
theorem kd_gch_120 : decode kc_gch 120 = .ok (.ireturn, 1) := by decide +kernel
set_option maxHeartbeats 4000000 in
set_option maxRecDepth 100000 in
theorem t_gch {l : Launch} {κ : Nat → Nat} {D : va_G} {tA : Nat → ClassId} (qb n ix d : Nat) (f : Nat → Int32) (hd : d < 10) (hn : n < 1000) (hix : ix < n) : Ct l κ D tA ky_gch kc_gch 7 (some FieldType.int) 1 0 0 [.int (nI d), .int (nI (ix + 1)), .ref qb] [(qb, .inl (tA 1, n, .inl f))] (fun r w => r = some (.int (nI ix)) ∧ w = [(qb, .inl (tA 1, n, .inl (upd f ix (nI (48 + d)))))]) := by
  refine Ct.of rfl (Nat.le_of_ble_eq_true rfl) ?_
  intro p e s m args below meth c A ls C0 hr hlocks hin hP hD hS hl
  obtain ⟨hx, hb, hml, hown, hts, hK, hA, hI⟩ := id C0
  have hl : lv_has ls 7 [(0, .int (nI d)), (1, .int (nI (ix + 1))), (2, .ref qb)] := hl
  have hin : meth.name = "getChars" := hin
  refine lv_iload_n hx hb kd_gch_0 rfl (lv_at hl 1 rfl) ?_
  refine lv_istore (lv' := [(5, .int (nI (ix + 1))), (0, .int (nI d)), (1, .int (nI (ix + 1))), (2, .ref qb)]) hx hb kd_gch_1 hl (by decide) rfl (fun ls hl => ?_)
  refine lv_iload_n hx hb kd_gch_3 rfl (lv_at hl 1 rfl) ?_
  refine lv_if_ge (tgt := 11) hx hb kd_gch_4 (by decide) (fun h9 => ?_) (fun h9 => absurd ((dg_1 hd).2.2.2.2.2) h9)
  refine lv_iconst (v := 0) hx hb kd_gch_11 (by decide) ?_
  refine lv_istore (lv' := [(6, .int 0), (5, .int (nI (ix + 1))), (0, .int (nI d)), (1, .int (nI (ix + 1))), (2, .ref qb)]) hx hb kd_gch_12 hl (by decide) rfl (fun ls hl => ?_)
  refine lv_iload hx hb kd_gch_14 (lv_at hl 0 rfl) ?_
  refine lv_if_ne (tgt := 22) hx hb kd_gch_16 (by decide) (fun h9 => absurd h9 (fun h => h rfl)) (fun h9 => ?_)
  refine lv_iload_n hx hb kd_gch_19 rfl (lv_at hl 2 rfl) ?_
  refine lv_ineg hx hb kd_gch_20 ?_
  refine lv_istore_n (lv' := [(0, .int (-(nI d))), (6, .int 0), (5, .int (nI (ix + 1))), (1, .int (nI (ix + 1))), (2, .ref qb)]) hx hb kd_gch_21 rfl hl (by decide) rfl (fun ls hl => ?_)
  refine lv_iload_n hx hb kd_gch_22 rfl (lv_at hl 0 rfl) ?_
  refine lv_bipush (v := (-100)) hx hb kd_gch_23 (by decide) ?_
  refine lv_icmp_gt (tgt := 72) hx hb kd_gch_25 (by decide) (fun h9 => ?_) (fun h9 => absurd ((dg_1 hd).2.2.1) h9)
  refine lv_aload_n hx hb kd_gch_72 rfl (lv_at hl 4 rfl) ?_
  refine lv_iinc (v := (nI ix)) (lv' := [(5, .int (nI ix)), (0, .int (-(nI d))), (6, .int 0), (1, .int (nI (ix + 1))), (2, .ref qb)]) hx hb kd_gch_73 hl (k := 2) rfl (nI_dc1 ix) (by decide) rfl (fun ls hl => ?_)
  refine lv_iload hx hb kd_gch_76 (lv_at hl 0 rfl) ?_
  refine va_gets hx hb hI.2.1.2.1.1 hS hown (hts _ (lkB_in (n := 1230) (w := .fieldLink "java/lang/Integer" 83 "java/lang/Integer" "DigitOnes" "[B") (by decide +kernel))) (fun _ h9 => h9) kd_gch_78 ?_
  refine lv_iload_n hx hb kd_gch_81 rfl (lv_at hl 1 rfl) ?_
  refine lv_ineg hx hb kd_gch_82 ?_
  refine W.eq (g2 := F0 m 83 ls [.int (nI d), .ref (κ 400020), .int (nI ix), .ref qb]) (by first | (rw [(dg_1 hd).2.2.2.1]; done) | (rw [(dg_1 hd).2.2.2.1]; rfl)) ?_
  refine va_tb hx hb hI.2.1.2.1.2.1 hS (vp_in_nI (by omega) (by decide)) (v := .int (nI (48 + d))) (by show Value.int (nI (48 + (nI d).toNatClampNeg % 10)) = _; rw [nI_clamp (by omega), Nat.mod_eq_of_lt hd]) kd_gch_83 ?_
  refine va_bast hx hb hK hP hD hS 0 1 rfl rfl (vp_in_nI hix (by omega)) kd_gch_84 (fun H locs hP hD hS => ?_)
  have hP : va_P D clx [(qb, .inl (tA 1, n, .inl (upd f (nI ix).toNatClampNeg (vp_nar .byte (nI (48 + d))))))] H := hP
  have hD : va_D A [(qb, .inl (tA 1, n, .inl (upd f (nI ix).toNatClampNeg (vp_nar .byte (nI (48 + d))))))] := hD
  rw [nI_clamp (n := ix) (by omega), byt_nar (by omega)] at hP hD
  have hP : va_P D clx [(qb, .inl (tA 1, n, .inl (upd f ix (nI (48 + d)))))] H := hP
  have hD : va_D A [(qb, .inl (tA 1, n, .inl (upd f ix (nI (48 + d)))))] := hD
  refine lv_iload_n hx hb kd_gch_85 rfl (lv_at hl 1 rfl) ?_
  refine lv_bipush (v := (-9)) hx hb kd_gch_86 (by decide) ?_
  refine lv_icmp_ge (tgt := 104) hx hb kd_gch_88 (by decide) (fun h9 => ?_) (fun h9 => absurd ((dg_1 hd).2.2.2.2.1) h9)
  refine lv_iload hx hb kd_gch_104 (lv_at hl 2 rfl) ?_
  refine lv_if_eq (tgt := 118) hx hb kd_gch_106 (by decide) (fun h9 => ?_) (fun h9 => absurd (by rfl) h9)
  refine lv_iload hx hb kd_gch_118 (lv_at hl 0 rfl) ?_
  exact k_iret C0 hr hlocks hP hD hS ⟨rfl, rfl⟩ ⟨Nat.le_of_ble_eq_true rfl, Nat.le_of_ble_eq_true rfl⟩ kd_gch_120
abbrev kc_appi : ByteArray := prog_16_method_32_code
def ky_appi : MethodName := ⟨"java/lang/AbstractStringBuilder", "append", "(I)Ljava/lang/AbstractStringBuilder;"⟩
set_option maxRecDepth 100000 in
theorem kd_appi_0 : decode kc_appi 0 = .ok (.aload_n 0, 1) := by decide +kernel
set_option maxRecDepth 100000 in
theorem kd_appi_1 : decode kc_appi 1 = .ok (.getfield 79, 3) := by decide +kernel
set_option maxRecDepth 100000 in
theorem kd_appi_4 : decode kc_appi 4 = .ok (.istore_n 2, 1) := by decide +kernel
set_option maxRecDepth 100000 in
theorem kd_appi_5 : decode kc_appi 5 = .ok (.iload_n 2, 1) := by decide +kernel
set_option maxRecDepth 100000 in
theorem kd_appi_6 : decode kc_appi 6 = .ok (.iload_n 1, 1) := by decide +kernel
set_option maxRecDepth 100000 in
theorem kd_appi_7 : decode kc_appi 7 = .ok (.invokestatic 245, 3) := by decide +kernel
set_option maxRecDepth 100000 in
theorem kd_appi_10 : decode kc_appi 10 = .ok (.iadd, 1) := by decide +kernel
set_option maxRecDepth 100000 in
theorem kd_appi_11 : decode kc_appi 11 = .ok (.istore_n 3, 1) := by decide +kernel
set_option maxRecDepth 100000 in
theorem kd_appi_12 : decode kc_appi 12 = .ok (.aload_n 0, 1) := by decide +kernel
set_option maxRecDepth 100000 in
theorem kd_appi_13 : decode kc_appi 13 = .ok (.iload_n 3, 1) := by decide +kernel
set_option maxRecDepth 100000 in
theorem kd_appi_14 : decode kc_appi 14 = .ok (.invokevirtual 100, 3) := by decide +kernel
set_option maxRecDepth 100000 in
theorem kd_appi_17 : decode kc_appi 17 = .ok (.aload_n 0, 1) := by decide +kernel
set_option maxRecDepth 100000 in
theorem kd_appi_18 : decode kc_appi 18 = .ok (.invokevirtual 83, 3) := by decide +kernel
set_option maxRecDepth 100000 in
theorem kd_appi_21 : decode kc_appi 21 = .ok (.ifCond .eq 16, 3) := by decide +kernel
set_option maxRecDepth 100000 in
theorem kd_appi_24 : decode kc_appi 24 = .ok (.iload_n 1, 1) := by decide +kernel
set_option maxRecDepth 100000 in
theorem kd_appi_25 : decode kc_appi 25 = .ok (.iload_n 3, 1) := by decide +kernel
set_option maxRecDepth 100000 in
theorem kd_appi_26 : decode kc_appi 26 = .ok (.aload_n 0, 1) := by decide +kernel
set_option maxRecDepth 100000 in
theorem kd_appi_27 : decode kc_appi 27 = .ok (.getfield 15, 3) := by decide +kernel
set_option maxRecDepth 100000 in
theorem kd_appi_30 : decode kc_appi 30 = .ok (.invokestatic 248, 3) := by decide +kernel
set_option maxRecDepth 100000 in
theorem kd_appi_33 : decode kc_appi 33 = .ok (.pop, 1) := by decide +kernel
set_option maxRecDepth 100000 in
theorem kd_appi_34 : decode kc_appi 34 = .ok (.goto 14, 3) := by decide +kernel
set_option maxRecDepth 100000 in
theorem kd_appi_48 : decode kc_appi 48 = .ok (.aload_n 0, 1) := by decide +kernel
set_option maxRecDepth 100000 in
theorem kd_appi_49 : decode kc_appi 49 = .ok (.iload_n 3, 1) := by decide +kernel
set_option maxRecDepth 100000 in
theorem kd_appi_50 : decode kc_appi 50 = .ok (.putfield 79, 3) := by decide +kernel
set_option maxRecDepth 100000 in
theorem kd_appi_53 : decode kc_appi 53 = .ok (.aload_n 0, 1) := by decide +kernel
set_option maxRecDepth 100000 in
theorem kd_appi_54 : decode kc_appi 54 = .ok (.areturn, 1) := by decide +kernel
set_option maxHeartbeats 4000000 in
set_option maxRecDepth 100000 in
theorem t_appi {l : Launch} {κ : Nat → Nat} {D : va_G} {tA : Nat → ClassId} (qt qb n cnt : Nat) (f g9 : Nat → Int32) (ml : Int32) (hn : n = 16 ∨ n = 34) (hc : cnt ≤ n) (hf : Byt f n) (hg : ∀ j, j < cnt → f j = g9 j) (d : Nat) (hd : d < 10) (hm : cnt + 1 ≤ 34) : Ct l κ D tA ky_appi kc_appi 4 (some (FieldType.object "java/lang/AbstractStringBuilder")) 6 1 34 [.ref qt, .int (nI d)] [(qt, .inr (11, [.ref qb, .int 0, .int ml, .int (nI cnt)])), (qb, .inl (tA 1, n, .inl f))] (fun r w => r = some (.ref qt) ∧ TWp tA qt (cnt + 1) (fun j => if j < cnt then g9 j else nI (48 + d)) w) := by
  refine Ct.of rfl (Nat.le_of_ble_eq_true rfl) ?_
  intro p e s m args below meth c A ls C0 hr hlocks hin hP hD hS hl
  obtain ⟨hx, hb, hml, hown, hts, hK, hA, hI⟩ := id C0
  have hl : lv_has ls 4 [(0, .ref qt), (1, .int (nI d))] := hl
  have hin : meth.name = "append" := hin
  refine lv_aload_n hx hb kd_appi_0 rfl (lv_at hl 0 rfl) ?_
  refine k_get (k := 3) (v := .int (nI cnt)) C0 hP 0 512 rfl (by decide +kernel) rfl kd_appi_1 ?_
  refine lv_istore_n (lv' := [(2, .int (nI cnt)), (0, .ref qt), (1, .int (nI d))]) hx hb kd_appi_4 rfl hl (by decide) rfl (fun ls hl => ?_)
  refine lv_iload_n hx hb kd_appi_5 rfl (lv_at hl 0 rfl) ?_
  refine lv_iload_n hx hb kd_appi_6 rfl (lv_at hl 2 rfl) ?_
  refine k_callS (n := 1) (n1 := 1224) (n2 := 1225) (n4 := 134) (n5 := 1226) (As := [.int (nI d)]) (rest := [.int (nI cnt)]) (wr := [(qt, .inr (11, [.ref qb, .int 0, .int ml, .int (nI cnt)])), (qb, .inl (tA 1, n, .inl f))]) C0 (t_ssz d hd) (by decide +kernel) hP hD hS [] [0, 1] rfl rfl rfl rfl (by decide) hl.1 rfl (Nat.le_of_ble_eq_true rfl) ⟨Nat.le_of_ble_eq_true rfl, Nat.le_of_ble_eq_true rfl⟩ ⟨Nat.le_of_ble_eq_true rfl, Nat.le_of_ble_eq_true rfl⟩ kd_appi_7 rfl (fun r w1 H locs hQ hP hD hS => ?_)
  obtain ⟨rfl, rfl⟩ := hQ
  have hP : va_P D clx [(qt, .inr (11, [.ref qb, .int 0, .int ml, .int (nI cnt)])), (qb, .inl (tA 1, n, .inl f))] H := hP
  have hD : va_D A [(qt, .inr (11, [.ref qb, .int 0, .int ml, .int (nI cnt)])), (qb, .inl (tA 1, n, .inl f))] := hD
  refine lv_iadd hx hb kd_appi_10 ?_
  refine W.eq (g2 := F0 m 11 ls [.int (nI (cnt + 1))]) (by first | (rw [← nI_1]; done) | (rw [← nI_1]; rfl)) ?_
  refine lv_istore_n (lv' := [(3, .int (nI (cnt + 1))), (2, .int (nI cnt)), (0, .ref qt), (1, .int (nI d))]) hx hb kd_appi_11 rfl hl (by decide) rfl (fun ls hl => ?_)
  refine lv_aload_n hx hb kd_appi_12 rfl (lv_at hl 2 rfl) ?_
  refine lv_iload_n hx hb kd_appi_13 rfl (lv_at hl 0 rfl) ?_
  refine k_callU (n := 1) (n1 := 1062) (n2 := 1064) (n3 := 2135) (n4 := 118) (n5 := 1065) (As := [.int (nI (cnt + 1))]) (rest := []) (wr := []) C0 (t_ens qt qb n cnt (cnt + 1) f g9 ml hn hm hc hf hg) (by decide +kernel) ((hI.2.2.2.2.2.2.2.2 _ (by decide)).use rfl) (va_recv hK hP (ci := 11) (q0 := 0) rfl rfl) hP hD hS [0, 1] [] rfl rfl rfl rfl (by decide) hl.1 rfl (Nat.le_of_ble_eq_true rfl) ⟨Nat.le_of_ble_eq_true rfl, Nat.le_of_ble_eq_true rfl⟩ ⟨Nat.le_of_ble_eq_true rfl, Nat.le_of_ble_eq_true rfl⟩ kd_appi_14 rfl (fun r w1 H locs hQ hP hD hS => ?_)
  obtain ⟨rfl, b2, n2, f2, hn2, hm2, hc2, hf2, hg2, rfl⟩ := hQ
  have hP : va_P D clx [(qt, .inr (11, [.ref b2, .int 0, .int ml, .int (nI cnt)])), (b2, .inl (tA 1, n2, .inl f2))] H := hP
  have hD : va_D A [(qt, .inr (11, [.ref b2, .int 0, .int ml, .int (nI cnt)])), (b2, .inl (tA 1, n2, .inl f2))] := hD
  refine lv_aload_n hx hb kd_appi_17 rfl (lv_at hl 2 rfl) ?_
  refine k_callU (n := 0) (n1 := 1091) (n2 := 1092) (n3 := 1093) (n4 := 118) (n5 := 1095) (As := []) (rest := []) (wr := []) C0 (t_isl qt b2 n2 cnt f2 ml) (by decide +kernel) (hts _ (lkB_in (n := 1094) (by decide +kernel))) (va_recv hK hP (ci := 11) (q0 := 0) rfl rfl) hP hD hS [0, 1] [] rfl rfl rfl rfl (by decide) hl.1 rfl (Nat.le_of_ble_eq_true rfl) ⟨Nat.le_of_ble_eq_true rfl, Nat.le_of_ble_eq_true rfl⟩ ⟨Nat.le_of_ble_eq_true rfl, Nat.le_of_ble_eq_true rfl⟩ kd_appi_18 rfl (fun r w1 H locs hQ hP hD hS => ?_)
  obtain ⟨rfl, rfl⟩ := hQ
  have hP : va_P D clx [(qt, .inr (11, [.ref b2, .int 0, .int ml, .int (nI cnt)])), (b2, .inl (tA 1, n2, .inl f2))] H := hP
  have hD : va_D A [(qt, .inr (11, [.ref b2, .int 0, .int ml, .int (nI cnt)])), (b2, .inl (tA 1, n2, .inl f2))] := hD
  refine lv_if_eq (tgt := 37) hx hb kd_appi_21 (by decide) (fun h9 => absurd h9 (by decide)) (fun h9 => ?_)
  refine lv_iload_n hx hb kd_appi_24 rfl (lv_at hl 3 rfl) ?_
  refine lv_iload_n hx hb kd_appi_25 rfl (lv_at hl 0 rfl) ?_
  refine lv_aload_n hx hb kd_appi_26 rfl (lv_at hl 2 rfl) ?_
  refine k_get (k := 0) (v := .ref b2) C0 hP 0 509 rfl (by decide +kernel) rfl kd_appi_27 ?_
  refine k_callS (n := 3) (n1 := 1227) (n2 := 1228) (n4 := 134) (n5 := 1229) (As := [.int (nI d), .int (nI (cnt + 1)), .ref b2]) (rest := []) (wr := [(qt, .inr (11, [.ref b2, .int 0, .int ml, .int (nI cnt)]))]) C0 (t_gch b2 n2 cnt d f2 hd (by omega) hm2) (by decide +kernel) hP hD hS [1] [0] rfl rfl rfl rfl (by decide) hl.1 rfl (Nat.le_of_ble_eq_true rfl) ⟨Nat.le_of_ble_eq_true rfl, Nat.le_of_ble_eq_true rfl⟩ ⟨Nat.le_of_ble_eq_true rfl, Nat.le_of_ble_eq_true rfl⟩ kd_appi_30 rfl (fun r w1 H locs hQ hP hD hS => ?_)
  obtain ⟨rfl, rfl⟩ := hQ
  have hP : va_P D clx [(qt, .inr (11, [.ref b2, .int 0, .int ml, .int (nI cnt)])), (b2, .inl (tA 1, n2, .inl (upd f2 cnt (nI (48 + d)))))] H := hP
  have hD : va_D A [(qt, .inr (11, [.ref b2, .int 0, .int ml, .int (nI cnt)])), (b2, .inl (tA 1, n2, .inl (upd f2 cnt (nI (48 + d)))))] := hD
  refine lv_pop hx hb kd_appi_33 rfl ?_
  refine lv_goto (tgt := 48) hx hb kd_appi_34 (by decide) ?_
  refine lv_aload_n hx hb kd_appi_48 rfl (lv_at hl 2 rfl) ?_
  refine lv_iload_n hx hb kd_appi_49 rfl (lv_at hl 0 rfl) ?_
  refine k_put (k := 3) (v := .int (nI (cnt + 1))) C0 hP hD hS 0 512 rfl (by decide +kernel) rfl rfl (Nat.le_of_ble_eq_true rfl) kd_appi_50 (fun H locs hP hD hS => ?_)
  have hP : va_P D clx [(qt, .inr (11, [.ref b2, .int 0, .int ml, .int (nI (cnt + 1))])), (b2, .inl (tA 1, n2, .inl (upd f2 cnt (nI (48 + d)))))] H := hP
  have hD : va_D A [(qt, .inr (11, [.ref b2, .int 0, .int ml, .int (nI (cnt + 1))])), (b2, .inl (tA 1, n2, .inl (upd f2 cnt (nI (48 + d)))))] := hD
  refine lv_aload_n hx hb kd_appi_53 rfl (lv_at hl 2 rfl) ?_
  refine k_aret C0 hr (Or.inl ⟨_, rfl⟩) hlocks hP hD hS ⟨rfl, b2, n2, _, ml, hn2, hm2, ?_, ?_, rfl⟩ ⟨Nat.le_of_ble_eq_true rfl, Nat.le_of_ble_eq_true rfl⟩ kd_appi_54
  · intro j hj
    unfold upd
    try dsimp only
    by_cases h7 : j = cnt
    · rw [if_pos h7]; exact byt_fit (by omega)
    · rw [if_neg h7]; exact hf2 j hj
  · intro j hj
    unfold upd
    try dsimp only
    by_cases h7 : j = cnt
    · rw [if_pos h7, if_neg (by omega)]
    · rw [if_neg h7, if_pos (by omega)]; exact hg2 j (by omega)
abbrev kc_setl : ByteArray := prog_16_method_13_code
def ky_setl : MethodName := ⟨"java/lang/AbstractStringBuilder", "setLength", "(I)V"⟩
set_option maxRecDepth 100000 in
theorem kd_setl_0 : decode kc_setl 0 = .ok (.iload_n 1, 1) := by decide +kernel
set_option maxRecDepth 100000 in
theorem kd_setl_1 : decode kc_setl 1 = .ok (.ifCond .ge 12, 3) := by decide +kernel
set_option maxRecDepth 100000 in
theorem kd_setl_13 : decode kc_setl 13 = .ok (.aload_n 0, 1) := by decide +kernel
set_option maxRecDepth 100000 in
theorem kd_setl_14 : decode kc_setl 14 = .ok (.iload_n 1, 1) := by decide +kernel
set_option maxRecDepth 100000 in
theorem kd_setl_15 : decode kc_setl 15 = .ok (.invokevirtual 100, 3) := by decide +kernel
set_option maxRecDepth 100000 in
theorem kd_setl_18 : decode kc_setl 18 = .ok (.aload_n 0, 1) := by decide +kernel
set_option maxRecDepth 100000 in
theorem kd_setl_19 : decode kc_setl 19 = .ok (.getfield 79, 3) := by decide +kernel
set_option maxRecDepth 100000 in
theorem kd_setl_22 : decode kc_setl 22 = .ok (.iload_n 1, 1) := by decide +kernel
set_option maxRecDepth 100000 in
theorem kd_setl_23 : decode kc_setl 23 = .ok (.if_icmp .ge 40, 3) := by decide +kernel
set_option maxRecDepth 100000 in
theorem kd_setl_63 : decode kc_setl 63 = .ok (.aload_n 0, 1) := by decide +kernel
set_option maxRecDepth 100000 in
theorem kd_setl_64 : decode kc_setl 64 = .ok (.getfield 79, 3) := by decide +kernel
set_option maxRecDepth 100000 in
theorem kd_setl_67 : decode kc_setl 67 = .ok (.iload_n 1, 1) := by decide +kernel
set_option maxRecDepth 100000 in
theorem kd_setl_68 : decode kc_setl 68 = .ok (.if_icmp .le 8, 3) := by decide +kernel
set_option maxRecDepth 100000 in
theorem kd_setl_71 : decode kc_setl 71 = .ok (.aload_n 0, 1) := by decide +kernel
set_option maxRecDepth 100000 in
theorem kd_setl_72 : decode kc_setl 72 = .ok (.iconst 1, 1) := by decide +kernel
set_option maxRecDepth 100000 in
theorem kd_setl_73 : decode kc_setl 73 = .ok (.putfield 73, 3) := by decide +kernel
set_option maxRecDepth 100000 in
theorem kd_setl_76 : decode kc_setl 76 = .ok (.aload_n 0, 1) := by decide +kernel
set_option maxRecDepth 100000 in
theorem kd_setl_77 : decode kc_setl 77 = .ok (.iload_n 1, 1) := by decide +kernel
set_option maxRecDepth 100000 in
theorem kd_setl_78 : decode kc_setl 78 = .ok (.putfield 79, 3) := by decide +kernel
set_option maxRecDepth 100000 in
theorem kd_setl_81 : decode kc_setl 81 = .ok (.return_, 1) := by decide +kernel
set_option maxHeartbeats 4000000 in
set_option maxRecDepth 100000 in
theorem setl_end {l : Launch} {κ : Nat → Nat} {D : va_G} {tA : Nat → ClassId} {p : Program} {e : Env} {s : State} {m : MethodId} {args : Array Value} {below : List Frame} {meth : Method} {c : Code} {A : Nat → Prop} {ls : Array Slot} {H : Heap} {locs : List Loc} {cells slots qt b2 n2 cnt : Nat} {f2 : Nat → Int32} {ml : Int32} (C0 : Kf κ "java/lang/AbstractStringBuilder" kc_setl 2 p s m args c D tA A) (hr : meth.sig.returnType = none) (hlocks : meth.locks = false) (hl : lv_has ls 2 [(0, .ref qt), (1, .int 0)]) (hP : va_P D clx [(qt, .inr (11, [.ref b2, .int 0, .int ml, .int (nI cnt)])), (b2, .inl (tA 1, n2, .inl f2))] H) (hD : va_D A [(qt, .inr (11, [.ref b2, .int 0, .int ml, .int (nI cnt)])), (b2, .inl (tA 1, n2, .inl f2))]) (hS : va_S A s.heap H locs) (hn2 : n2 = 16 ∨ n2 = 34) (hf2 : Byt f2 n2) (hcs : cells ≤ 1 ∧ slots ≤ 34) : W p l e (rmc 6 1 34) s m args below meth c H locs cells slots (Ke D (fun r w => r = none ∧ TWp tA qt 0 (fun _ => 0) w) A below args s 1 34) (F0 m 76 ls []) := by
  obtain ⟨hx, hb, hml, hown, hts, hK, hA, hI⟩ := id C0
  refine lv_aload_n hx hb kd_setl_76 rfl (lv_at hl 0 rfl) ?_
  refine lv_iload_n hx hb kd_setl_77 rfl (lv_at hl 1 rfl) ?_
  refine k_put (k := 3) (v := .int 0) C0 hP hD hS 0 512 rfl (by decide +kernel) rfl rfl (Nat.le_of_ble_eq_true rfl) kd_setl_78 (fun H locs hP hD hS => ?_)
  have hP : va_P D clx [(qt, .inr (11, [.ref b2, .int 0, .int ml, .int 0])), (b2, .inl (tA 1, n2, .inl f2))] H := hP
  have hD : va_D A [(qt, .inr (11, [.ref b2, .int 0, .int ml, .int 0])), (b2, .inl (tA 1, n2, .inl f2))] := hD
  exact k_vret C0 hr hlocks hP hD hS ⟨rfl, b2, n2, f2, ml, hn2, Nat.zero_le _, hf2, fun j hj => absurd hj (Nat.not_lt_zero _), rfl⟩ ⟨hcs.1, hcs.2⟩ kd_setl_81
set_option maxHeartbeats 4000000 in
set_option maxRecDepth 100000 in
theorem t_setl {l : Launch} {κ : Nat → Nat} {D : va_G} {tA : Nat → ClassId} (qt qb n cnt : Nat) (f g9 : Nat → Int32) (ml : Int32) (hn : n = 16 ∨ n = 34) (hc : cnt ≤ n) (hf : Byt f n) (hg : ∀ j, j < cnt → f j = g9 j) : Ct l κ D tA ky_setl kc_setl 2 none 6 1 34 [.ref qt, .int 0] [(qt, .inr (11, [.ref qb, .int 0, .int ml, .int (nI cnt)])), (qb, .inl (tA 1, n, .inl f))] (fun r w => r = none ∧ TWp tA qt 0 (fun _ => 0) w) := by
  refine Ct.of rfl (Nat.le_of_ble_eq_true rfl) ?_
  intro p e s m args below meth c A ls C0 hr hlocks hin hP hD hS hl
  obtain ⟨hx, hb, hml, hown, hts, hK, hA, hI⟩ := id C0
  have hl : lv_has ls 2 [(0, .ref qt), (1, .int 0)] := hl
  have hin : meth.name = "setLength" := hin
  refine lv_iload_n hx hb kd_setl_0 rfl (lv_at hl 1 rfl) ?_
  refine lv_if_ge (tgt := 13) hx hb kd_setl_1 (by decide) (fun h9 => ?_) (fun h9 => absurd (by decide) h9)
  refine lv_aload_n hx hb kd_setl_13 rfl (lv_at hl 0 rfl) ?_
  refine lv_iload_n hx hb kd_setl_14 rfl (lv_at hl 1 rfl) ?_
  refine k_callU (n := 1) (n1 := 1062) (n2 := 1064) (n3 := 2135) (n4 := 118) (n5 := 1065) (As := [.int 0]) (rest := []) (wr := []) C0 (t_ens qt qb n cnt 0 f g9 ml hn (by omega) hc hf hg) (by decide +kernel) ((hI.2.2.2.2.2.2.2.2 _ (by decide)).use rfl) (va_recv hK hP (ci := 11) (q0 := 0) rfl rfl) hP hD hS [0, 1] [] rfl rfl rfl rfl (by decide) hl.1 rfl (Nat.le_of_ble_eq_true rfl) ⟨Nat.le_of_ble_eq_true rfl, Nat.le_of_ble_eq_true rfl⟩ ⟨Nat.le_of_ble_eq_true rfl, Nat.le_of_ble_eq_true rfl⟩ kd_setl_15 rfl (fun r w1 H locs hQ hP hD hS => ?_)
  obtain ⟨rfl, b2, n2, f2, hn2, hm2, hc2, hf2, hg2, rfl⟩ := hQ
  have hP : va_P D clx [(qt, .inr (11, [.ref b2, .int 0, .int ml, .int (nI cnt)])), (b2, .inl (tA 1, n2, .inl f2))] H := hP
  have hD : va_D A [(qt, .inr (11, [.ref b2, .int 0, .int ml, .int (nI cnt)])), (b2, .inl (tA 1, n2, .inl f2))] := hD
  refine lv_aload_n hx hb kd_setl_18 rfl (lv_at hl 0 rfl) ?_
  refine k_get (k := 3) (v := .int (nI cnt)) C0 hP 0 512 rfl (by decide +kernel) rfl kd_setl_19 ?_
  refine lv_iload_n hx hb kd_setl_22 rfl (lv_at hl 1 rfl) ?_
  refine lv_icmp_ge (tgt := 63) hx hb kd_setl_23 (by decide) (fun h9 => ?_) (fun h9 => absurd ((nI_le (Nat.zero_le cnt) (by omega) : nI 0 ≤ nI cnt)) h9)
  refine lv_aload_n hx hb kd_setl_63 rfl (lv_at hl 0 rfl) ?_
  refine k_get (k := 3) (v := .int (nI cnt)) C0 hP 0 512 rfl (by decide +kernel) rfl kd_setl_64 ?_
  refine lv_iload_n hx hb kd_setl_67 rfl (lv_at hl 1 rfl) ?_
  refine lv_icmp_le (tgt := 76) hx hb kd_setl_68 (by decide) (fun h9 => ?_) (fun h9 => ?_)
  · refine setl_end (ml := ml) C0 hr hlocks hl hP hD hS hn2 hf2 ⟨Nat.le_of_ble_eq_true rfl, Nat.le_of_ble_eq_true rfl⟩
  · refine lv_aload_n hx hb kd_setl_71 rfl (lv_at hl 0 rfl) ?_
    refine lv_iconst (v := 1) hx hb kd_setl_72 (by decide) ?_
    refine k_put (k := 2) (v := .int 1) C0 hP hD hS 0 511 rfl (by decide +kernel) rfl rfl (Nat.le_of_ble_eq_true rfl) kd_setl_73 (fun H locs hP hD hS => ?_)
    have hP : va_P D clx [(qt, .inr (11, [.ref b2, .int 0, .int 1, .int (nI cnt)])), (b2, .inl (tA 1, n2, .inl f2))] H := hP
    have hD : va_D A [(qt, .inr (11, [.ref b2, .int 0, .int 1, .int (nI cnt)])), (b2, .inl (tA 1, n2, .inl f2))] := hD
    exact setl_end (ml := 1) C0 hr hlocks hl hP hD hS hn2 hf2 ⟨Nat.le_of_ble_eq_true rfl, Nat.le_of_ble_eq_true rfl⟩
abbrev kc_chk : ByteArray := prog_38_method_11_code
def ky_chk : MethodName := ⟨"jdk/internal/util/Preconditions", "checkIndex", "(IILjava/util/function/BiFunction;)I"⟩
set_option maxRecDepth 100000 in
theorem kd_chk_0 : decode kc_chk 0 = .ok (.iload_n 0, 1) := by decide +kernel
set_option maxRecDepth 100000 in
theorem kd_chk_1 : decode kc_chk 1 = .ok (.ifCond .lt 8, 3) := by decide +kernel
set_option maxRecDepth 100000 in
theorem kd_chk_4 : decode kc_chk 4 = .ok (.iload_n 0, 1) := by decide +kernel
set_option maxRecDepth 100000 in
theorem kd_chk_5 : decode kc_chk 5 = .ok (.iload_n 1, 1) := by decide +kernel
set_option maxRecDepth 100000 in
theorem kd_chk_6 : decode kc_chk 6 = .ok (.if_icmp .lt 10, 3) := by decide +kernel
set_option maxRecDepth 100000 in
theorem kd_chk_16 : decode kc_chk 16 = .ok (.iload_n 0, 1) := by decide +kernel
set_option maxRecDepth 100000 in
theorem kd_chk_17 : decode kc_chk 17 = .ok (.ireturn, 1) := by decide +kernel
set_option maxHeartbeats 4000000 in
set_option maxRecDepth 100000 in
theorem t_chkN {l : Launch} {κ : Nat → Nat} {D : va_G} {tA : Nat → ClassId} (ix cnt : Nat) (hix : ix < cnt) (hc : cnt < 1000) : Ct l κ D tA ky_chk kc_chk 3 (some FieldType.int) 0 0 0 [.int (nI ix), .int (nI cnt), .null] [] (fun r w => r = some (.int (nI ix)) ∧ w = []) := by
  refine Ct.of rfl (Nat.le_of_ble_eq_true rfl) ?_
  intro p e s m args below meth c A ls C0 hr hlocks hin hP hD hS hl
  obtain ⟨hx, hb, hml, hown, hts, hK, hA, hI⟩ := id C0
  have hl : lv_has ls 3 [(0, .int (nI ix)), (1, .int (nI cnt)), (2, .null)] := hl
  have hin : meth.name = "checkIndex" := hin
  refine lv_iload_n hx hb kd_chk_0 rfl (lv_at hl 0 rfl) ?_
  refine lv_if_lt (tgt := 9) hx hb kd_chk_1 (by decide) (fun h9 => absurd h9 (nI_not_neg (by omega))) (fun h9 => ?_)
  refine lv_iload_n hx hb kd_chk_4 rfl (lv_at hl 0 rfl) ?_
  refine lv_iload_n hx hb kd_chk_5 rfl (lv_at hl 1 rfl) ?_
  refine lv_icmp_lt (tgt := 16) hx hb kd_chk_6 (by decide) (fun h9 => ?_) (fun h9 => absurd (nI_lt hix (by omega)) h9)
  refine lv_iload_n hx hb kd_chk_16 rfl (lv_at hl 0 rfl) ?_
  exact k_iret C0 hr hlocks hP hD hS ⟨rfl, rfl⟩ ⟨Nat.le_of_ble_eq_true rfl, Nat.le_of_ble_eq_true rfl⟩ kd_chk_17
set_option maxHeartbeats 4000000 in
set_option maxRecDepth 100000 in
theorem t_chkR {l : Launch} {κ : Nat → Nat} {D : va_G} {tA : Nat → ClassId} (z9 : Nat) (ix cnt : Nat) (hix : ix < cnt) (hc : cnt < 1000) : Ct l κ D tA ky_chk kc_chk 3 (some FieldType.int) 0 0 0 [.int (nI ix), .int (nI cnt), .ref z9] [] (fun r w => r = some (.int (nI ix)) ∧ w = []) := by
  refine Ct.of rfl (Nat.le_of_ble_eq_true rfl) ?_
  intro p e s m args below meth c A ls C0 hr hlocks hin hP hD hS hl
  obtain ⟨hx, hb, hml, hown, hts, hK, hA, hI⟩ := id C0
  have hl : lv_has ls 3 [(0, .int (nI ix)), (1, .int (nI cnt)), (2, .ref z9)] := hl
  have hin : meth.name = "checkIndex" := hin
  refine lv_iload_n hx hb kd_chk_0 rfl (lv_at hl 0 rfl) ?_
  refine lv_if_lt (tgt := 9) hx hb kd_chk_1 (by decide) (fun h9 => absurd h9 (nI_not_neg (by omega))) (fun h9 => ?_)
  refine lv_iload_n hx hb kd_chk_4 rfl (lv_at hl 0 rfl) ?_
  refine lv_iload_n hx hb kd_chk_5 rfl (lv_at hl 1 rfl) ?_
  refine lv_icmp_lt (tgt := 16) hx hb kd_chk_6 (by decide) (fun h9 => ?_) (fun h9 => absurd (nI_lt hix (by omega)) h9)
  refine lv_iload_n hx hb kd_chk_16 rfl (lv_at hl 0 rfl) ?_
  exact k_iret C0 hr hlocks hP hD hS ⟨rfl, rfl⟩ ⟨Nat.le_of_ble_eq_true rfl, Nat.le_of_ble_eq_true rfl⟩ kd_chk_17
abbrev kc_schk : ByteArray := prog_27_method_155_code
def ky_schk : MethodName := ⟨"java/lang/String", "checkIndex", "(II)V"⟩
set_option maxRecDepth 100000 in
theorem kd_schk_0 : decode kc_schk 0 = .ok (.iload_n 0, 1) := by decide +kernel
set_option maxRecDepth 100000 in
theorem kd_schk_1 : decode kc_schk 1 = .ok (.iload_n 1, 1) := by decide +kernel
set_option maxRecDepth 100000 in
theorem kd_schk_2 : decode kc_schk 2 = .ok (.getstatic 1053, 3) := by decide +kernel
set_option maxRecDepth 100000 in
theorem kd_schk_5 : decode kc_schk 5 = .ok (.invokestatic 1059, 3) := by decide +kernel
set_option maxRecDepth 100000 in
theorem kd_schk_8 : decode kc_schk 8 = .ok (.pop, 1) := by decide +kernel
set_option maxRecDepth 100000 in
theorem kd_schk_9 : decode kc_schk 9 = .ok (.return_, 1) := by decide +kernel
set_option maxHeartbeats 4000000 in
set_option maxRecDepth 100000 in
theorem t_schk {l : Launch} {κ : Nat → Nat} {D : va_G} {tA : Nat → ClassId} (ix cnt : Nat) (hix : ix < cnt) (hc : cnt < 1000) : Ct l κ D tA ky_schk kc_schk 2 none 1 0 0 [.int (nI ix), .int (nI cnt)] [] (fun r w => r = none ∧ w = []) := by
  refine Ct.of rfl (Nat.le_of_ble_eq_true rfl) ?_
  intro p e s m args below meth c A ls C0 hr hlocks hin hP hD hS hl
  obtain ⟨hx, hb, hml, hown, hts, hK, hA, hI⟩ := id C0
  have hl : lv_has ls 2 [(0, .int (nI ix)), (1, .int (nI cnt))] := hl
  have hin : meth.name = "checkIndex" := hin
  refine lv_iload_n hx hb kd_schk_0 rfl (lv_at hl 0 rfl) ?_
  refine lv_iload_n hx hb kd_schk_1 rfl (lv_at hl 1 rfl) ?_
  rcases hI.2.1.2.1.2.2 with hz | ⟨z9, hz⟩
  · refine va_gets hx hb hz hS hown (hts _ (lkB_in (n := 1142) (w := .fieldLink "java/lang/String" 1053 "jdk/internal/util/Preconditions" "SIOOBE_FORMATTER" "Ljava/util/function/BiFunction;") (by decide +kernel))) (fun _ h9 => h9) kd_schk_2 ?_
    refine k_callS (n := 3) (n1 := 1165) (n2 := 1166) (n4 := 132) (n5 := 1167) (As := [.int (nI ix), .int (nI cnt), .null]) (rest := []) (wr := []) C0 (t_chkN ix cnt hix hc) (by decide +kernel) hP hD hS [] [] rfl rfl rfl rfl (by decide) hl.1 rfl (Nat.le_of_ble_eq_true rfl) ⟨Nat.le_of_ble_eq_true rfl, Nat.le_of_ble_eq_true rfl⟩ ⟨Nat.le_of_ble_eq_true rfl, Nat.le_of_ble_eq_true rfl⟩ kd_schk_5 rfl (fun r w1 H locs hQ hP hD hS => ?_)
    obtain ⟨rfl, rfl⟩ := hQ
    have hP : va_P D clx [] H := hP
    have hD : va_D A [] := hD
    refine lv_pop hx hb kd_schk_8 rfl ?_
    exact k_vret C0 hr hlocks hP hD hS ⟨rfl, rfl⟩ ⟨Nat.le_of_ble_eq_true rfl, Nat.le_of_ble_eq_true rfl⟩ kd_schk_9
  · refine va_gets hx hb hz hS hown (hts _ (lkB_in (n := 1142) (w := .fieldLink "java/lang/String" 1053 "jdk/internal/util/Preconditions" "SIOOBE_FORMATTER" "Ljava/util/function/BiFunction;") (by decide +kernel))) (fun _ h9 => h9) kd_schk_2 ?_
    refine k_callS (n := 3) (n1 := 1165) (n2 := 1166) (n4 := 132) (n5 := 1167) (As := [.int (nI ix), .int (nI cnt), .ref z9]) (rest := []) (wr := []) C0 (t_chkR z9 ix cnt hix hc) (by decide +kernel) hP hD hS [] [] rfl rfl rfl rfl (by decide) hl.1 rfl (Nat.le_of_ble_eq_true rfl) ⟨Nat.le_of_ble_eq_true rfl, Nat.le_of_ble_eq_true rfl⟩ ⟨Nat.le_of_ble_eq_true rfl, Nat.le_of_ble_eq_true rfl⟩ kd_schk_5 rfl (fun r w1 H locs hQ hP hD hS => ?_)
    obtain ⟨rfl, rfl⟩ := hQ
    have hP : va_P D clx [] H := hP
    have hD : va_D A [] := hD
    refine lv_pop hx hb kd_schk_8 rfl ?_
    exact k_vret C0 hr hlocks hP hD hS ⟨rfl, rfl⟩ ⟨Nat.le_of_ble_eq_true rfl, Nat.le_of_ble_eq_true rfl⟩ kd_schk_9
abbrev kc_chr : ByteArray := prog_16_method_14_code
def ky_chr : MethodName := ⟨"java/lang/AbstractStringBuilder", "charAt", "(I)C"⟩
set_option maxRecDepth 100000 in
theorem kd_chr_0 : decode kc_chr 0 = .ok (.aload_n 0, 1) := by decide +kernel
set_option maxRecDepth 100000 in
theorem kd_chr_1 : decode kc_chr 1 = .ok (.getfield 22, 3) := by decide +kernel
set_option maxRecDepth 100000 in
theorem kd_chr_4 : decode kc_chr 4 = .ok (.istore_n 2, 1) := by decide +kernel
set_option maxRecDepth 100000 in
theorem kd_chr_5 : decode kc_chr 5 = .ok (.aload_n 0, 1) := by decide +kernel
set_option maxRecDepth 100000 in
theorem kd_chr_6 : decode kc_chr 6 = .ok (.getfield 15, 3) := by decide +kernel
set_option maxRecDepth 100000 in
theorem kd_chr_9 : decode kc_chr 9 = .ok (.astore_n 3, 1) := by decide +kernel
set_option maxRecDepth 100000 in
theorem kd_chr_10 : decode kc_chr 10 = .ok (.aload_n 0, 1) := by decide +kernel
set_option maxRecDepth 100000 in
theorem kd_chr_11 : decode kc_chr 11 = .ok (.getfield 79, 3) := by decide +kernel
set_option maxRecDepth 100000 in
theorem kd_chr_14 : decode kc_chr 14 = .ok (.aload_n 3, 1) := by decide +kernel
set_option maxRecDepth 100000 in
theorem kd_chr_15 : decode kc_chr 15 = .ok (.arraylength, 1) := by decide +kernel
set_option maxRecDepth 100000 in
theorem kd_chr_16 : decode kc_chr 16 = .ok (.iload_n 2, 1) := by decide +kernel
set_option maxRecDepth 100000 in
theorem kd_chr_17 : decode kc_chr 17 = .ok (.ishr, 1) := by decide +kernel
set_option maxRecDepth 100000 in
theorem kd_chr_18 : decode kc_chr 18 = .ok (.invokestatic 138, 3) := by decide +kernel
set_option maxRecDepth 100000 in
theorem kd_chr_21 : decode kc_chr 21 = .ok (.istore 4, 2) := by decide +kernel
set_option maxRecDepth 100000 in
theorem kd_chr_23 : decode kc_chr 23 = .ok (.iload_n 1, 1) := by decide +kernel
set_option maxRecDepth 100000 in
theorem kd_chr_24 : decode kc_chr 24 = .ok (.iload 4, 2) := by decide +kernel
set_option maxRecDepth 100000 in
theorem kd_chr_26 : decode kc_chr 26 = .ok (.invokestatic 144, 3) := by decide +kernel
set_option maxRecDepth 100000 in
theorem kd_chr_29 : decode kc_chr 29 = .ok (.iload_n 2, 1) := by decide +kernel
set_option maxRecDepth 100000 in
theorem kd_chr_30 : decode kc_chr 30 = .ok (.ifCond .ne 12, 3) := by decide +kernel
set_option maxRecDepth 100000 in
theorem kd_chr_33 : decode kc_chr 33 = .ok (.aload_n 3, 1) := by decide +kernel
set_option maxRecDepth 100000 in
theorem kd_chr_34 : decode kc_chr 34 = .ok (.iload_n 1, 1) := by decide +kernel
set_option maxRecDepth 100000 in
theorem kd_chr_35 : decode kc_chr 35 = .ok (.baload, 1) := by decide +kernel
set_option maxRecDepth 100000 in
theorem kd_chr_36 : decode kc_chr 36 = .ok (.sipush 255, 3) := by decide +kernel
set_option maxRecDepth 100000 in
theorem kd_chr_39 : decode kc_chr 39 = .ok (.iand, 1) := by decide +kernel
set_option maxRecDepth 100000 in
theorem kd_chr_40 : decode kc_chr 40 = .ok (.i2c, 1) := by decide +kernel
set_option maxRecDepth 100000 in
theorem kd_chr_41 : decode kc_chr 41 = .ok (.ireturn, 1) := by decide +kernel
set_option maxHeartbeats 4000000 in
set_option maxRecDepth 100000 in
theorem t_chr {l : Launch} {κ : Nat → Nat} {D : va_G} {tA : Nat → ClassId} (qt qb n cnt : Nat) (f : Nat → Int32) (ml : Int32) (ix v : Nat) (hn : n < 1000) (hc : cnt ≤ n) (hix : ix < cnt) (hv : f ix = nI v) (h8 : v < 128) : Ct l κ D tA ky_chr kc_chr 5 (some FieldType.char) 2 0 0 [.ref qt, .int (nI ix)] [(qt, .inr (11, [.ref qb, .int 0, .int ml, .int (nI cnt)])), (qb, .inl (tA 1, n, .inl f))] (fun r w => r = some (.int (nI v)) ∧ w = [(qt, .inr (11, [.ref qb, .int 0, .int ml, .int (nI cnt)])), (qb, .inl (tA 1, n, .inl f))]) := by
  refine Ct.of rfl (Nat.le_of_ble_eq_true rfl) ?_
  intro p e s m args below meth c A ls C0 hr hlocks hin hP hD hS hl
  obtain ⟨hx, hb, hml, hown, hts, hK, hA, hI⟩ := id C0
  have hl : lv_has ls 5 [(0, .ref qt), (1, .int (nI ix))] := hl
  have hin : meth.name = "charAt" := hin
  refine lv_aload_n hx hb kd_chr_0 rfl (lv_at hl 0 rfl) ?_
  refine k_get (k := 1) (v := .int 0) C0 hP 0 510 rfl (by decide +kernel) rfl kd_chr_1 ?_
  refine lv_istore_n (lv' := [(2, .int 0), (0, .ref qt), (1, .int (nI ix))]) hx hb kd_chr_4 rfl hl (by decide) rfl (fun ls hl => ?_)
  refine lv_aload_n hx hb kd_chr_5 rfl (lv_at hl 1 rfl) ?_
  refine k_get (k := 0) (v := .ref qb) C0 hP 0 509 rfl (by decide +kernel) rfl kd_chr_6 ?_
  refine lv_astore_n (lv' := [(3, .ref qb), (2, .int 0), (0, .ref qt), (1, .int (nI ix))]) hx hb kd_chr_9 rfl hl (by decide) rfl (fun ls hl => ?_)
  refine lv_aload_n hx hb kd_chr_10 rfl (lv_at hl 2 rfl) ?_
  refine k_get (k := 3) (v := .int (nI cnt)) C0 hP 0 512 rfl (by decide +kernel) rfl kd_chr_11 ?_
  refine lv_aload_n hx hb kd_chr_14 rfl (lv_at hl 0 rfl) ?_
  refine k_alen (t0 := 1) C0 hP 1 rfl rfl kd_chr_15 ?_
  refine lv_iload_n hx hb kd_chr_16 rfl (lv_at hl 1 rfl) ?_
  refine lv_ishr hx hb kd_chr_17 ?_
  refine W.eq (g2 := F0 m 18 ls [.int (nI n), .int (nI cnt)]) (by first | (rw [sh0r]; done) | (rw [sh0r]; rfl)) ?_
  refine k_min (v := (nI cnt)) (n1 := 1262) C0 (by decide +kernel) hl.1 ⟨Nat.le_of_ble_eq_true rfl, Nat.le_of_ble_eq_true rfl⟩ (Nat.le_of_ble_eq_true rfl) ⟨Nat.le_of_ble_eq_true rfl, Nat.le_of_ble_eq_true rfl⟩ kd_chr_18 (if_neg (fun h => by have := (nI_ltI (by omega) (by omega)).mp h; omega)) ?_
  refine lv_istore (lv' := [(4, .int (nI cnt)), (3, .ref qb), (2, .int 0), (0, .ref qt), (1, .int (nI ix))]) hx hb kd_chr_21 hl (by decide) rfl (fun ls hl => ?_)
  refine lv_iload_n hx hb kd_chr_23 rfl (lv_at hl 4 rfl) ?_
  refine lv_iload hx hb kd_chr_24 (lv_at hl 0 rfl) ?_
  refine k_callS (n := 2) (n1 := 1263) (n2 := 1163) (n4 := 120) (n5 := 1164) (As := [.int (nI ix), .int (nI cnt)]) (rest := []) (wr := [(qt, .inr (11, [.ref qb, .int 0, .int ml, .int (nI cnt)])), (qb, .inl (tA 1, n, .inl f))]) C0 (t_schk ix cnt hix (by omega)) (by decide +kernel) hP hD hS [] [0, 1] rfl rfl rfl rfl (by decide) hl.1 rfl (Nat.le_of_ble_eq_true rfl) ⟨Nat.le_of_ble_eq_true rfl, Nat.le_of_ble_eq_true rfl⟩ ⟨Nat.le_of_ble_eq_true rfl, Nat.le_of_ble_eq_true rfl⟩ kd_chr_26 rfl (fun r w1 H locs hQ hP hD hS => ?_)
  obtain ⟨rfl, rfl⟩ := hQ
  have hP : va_P D clx [(qt, .inr (11, [.ref qb, .int 0, .int ml, .int (nI cnt)])), (qb, .inl (tA 1, n, .inl f))] H := hP
  have hD : va_D A [(qt, .inr (11, [.ref qb, .int 0, .int ml, .int (nI cnt)])), (qb, .inl (tA 1, n, .inl f))] := hD
  refine lv_iload_n hx hb kd_chr_29 rfl (lv_at hl 2 rfl) ?_
  refine lv_if_ne (tgt := 42) hx hb kd_chr_30 (by decide) (fun h9 => absurd h9 (fun h => h rfl)) (fun h9 => ?_)
  refine lv_aload_n hx hb kd_chr_33 rfl (lv_at hl 1 rfl) ?_
  refine lv_iload_n hx hb kd_chr_34 rfl (lv_at hl 4 rfl) ?_
  refine va_bald hx hb hK hP 1 1 rfl rfl (vp_in_nI (by omega) (by omega)) kd_chr_35 ?_
  refine W.eq (g2 := F0 m 36 ls [.int (nI v)]) (by first | (rw [nI_clamp (by omega), hv]; done) | (rw [nI_clamp (by omega), hv]; rfl)) ?_
  refine lv_sipush (v := 255) hx hb kd_chr_36 (by decide) ?_
  refine lv_iand hx hb kd_chr_39 ?_
  refine W.eq (g2 := F0 m 40 ls [.int (nI v)]) (by first | (rw [(chr_1 h8).1]; done) | (rw [(chr_1 h8).1]; rfl)) ?_
  refine lv_i2c (v := (nI v)) hx hb kd_chr_40 ((chr_1 h8).2.1) ?_
  exact k_zret C0 hr ((chr_1 h8).2.2) hlocks hP hD hS ⟨rfl, rfl⟩ ⟨Nat.le_of_ble_eq_true rfl, Nat.le_of_ble_eq_true rfl⟩ kd_chr_41
abbrev kc_len : ByteArray := prog_16_method_6_code
def ky_len : MethodName := ⟨"java/lang/AbstractStringBuilder", "length", "()I"⟩
set_option maxRecDepth 100000 in
theorem kd_len_0 : decode kc_len 0 = .ok (.aload_n 0, 1) := by decide +kernel
set_option maxRecDepth 100000 in
theorem kd_len_1 : decode kc_len 1 = .ok (.getfield 79, 3) := by decide +kernel
set_option maxRecDepth 100000 in
theorem kd_len_4 : decode kc_len 4 = .ok (.ireturn, 1) := by decide +kernel
set_option maxHeartbeats 4000000 in
set_option maxRecDepth 100000 in
theorem t_len {l : Launch} {κ : Nat → Nat} {D : va_G} {tA : Nat → ClassId} (qt qb n cnt : Nat) (f : Nat → Int32) (ml : Int32) : Ct l κ D tA ky_len kc_len 1 (some FieldType.int) 0 0 0 [.ref qt] [(qt, .inr (11, [.ref qb, .int 0, .int ml, .int (nI cnt)])), (qb, .inl (tA 1, n, .inl f))] (fun r w => r = some (.int (nI cnt)) ∧ w = [(qt, .inr (11, [.ref qb, .int 0, .int ml, .int (nI cnt)])), (qb, .inl (tA 1, n, .inl f))]) := by
  refine Ct.of rfl (Nat.le_of_ble_eq_true rfl) ?_
  intro p e s m args below meth c A ls C0 hr hlocks hin hP hD hS hl
  obtain ⟨hx, hb, hml, hown, hts, hK, hA, hI⟩ := id C0
  have hl : lv_has ls 1 [(0, .ref qt)] := hl
  have hin : meth.name = "length" := hin
  refine lv_aload_n hx hb kd_len_0 rfl (lv_at hl 0 rfl) ?_
  refine k_get (k := 3) (v := .int (nI cnt)) C0 hP 0 512 rfl (by decide +kernel) rfl kd_len_1 ?_
  exact k_iret C0 hr hlocks hP hD hS ⟨rfl, rfl⟩ ⟨Nat.le_of_ble_eq_true rfl, Nat.le_of_ble_eq_true rfl⟩ kd_len_4
abbrev kc_sapc : ByteArray := prog_28_method_14_code
def ky_sapc : MethodName := ⟨"java/lang/StringBuilder", "append", "(C)Ljava/lang/StringBuilder;"⟩
set_option maxRecDepth 100000 in
theorem kd_sapc_0 : decode kc_sapc 0 = .ok (.aload_n 0, 1) := by decide +kernel
set_option maxRecDepth 100000 in
theorem kd_sapc_1 : decode kc_sapc 1 = .ok (.iload_n 1, 1) := by decide +kernel
set_option maxRecDepth 100000 in
theorem kd_sapc_2 : decode kc_sapc 2 = .ok (.invokespecial 50, 3) := by decide +kernel
set_option maxRecDepth 100000 in
theorem kd_sapc_5 : decode kc_sapc 5 = .ok (.pop, 1) := by decide +kernel
set_option maxRecDepth 100000 in
theorem kd_sapc_6 : decode kc_sapc 6 = .ok (.aload_n 0, 1) := by decide +kernel
set_option maxRecDepth 100000 in
theorem kd_sapc_7 : decode kc_sapc 7 = .ok (.areturn, 1) := by decide +kernel
set_option maxHeartbeats 4000000 in
set_option maxRecDepth 100000 in
theorem s_sapc {l : Launch} {κ : Nat → Nat} {D : va_G} {tA : Nat → ClassId} (qt qb n cnt : Nat) (f g9 : Nat → Int32) (ml : Int32) (hn : n = 16 ∨ n = 34) (hc : cnt ≤ n) (hf : Byt f n) (hg : ∀ j, j < cnt → f j = g9 j) (v : Nat) (hv : v < 128) (hm : cnt + 1 ≤ 34) : Ct l κ D tA ky_sapc kc_sapc 2 (some (FieldType.object "java/lang/StringBuilder")) 7 1 34 [.ref qt, .int (nI v)] [(qt, .inr (11, [.ref qb, .int 0, .int ml, .int (nI cnt)])), (qb, .inl (tA 1, n, .inl f))] (fun r w => r = some (.ref qt) ∧ TWp tA qt (cnt + 1) (fun j => if j < cnt then g9 j else nI v) w) := by
  refine Ct.of rfl (Nat.le_of_ble_eq_true rfl) ?_
  intro p e s m args below meth c A ls C0 hr hlocks hin hP hD hS hl
  obtain ⟨hx, hb, hml, hown, hts, hK, hA, hI⟩ := id C0
  have hl : lv_has ls 2 [(0, .ref qt), (1, .int (nI v))] := hl
  have hin : meth.name = "append" := hin
  refine lv_aload_n hx hb kd_sapc_0 rfl (lv_at hl 0 rfl) ?_
  refine lv_iload_n hx hb kd_sapc_1 rfl (lv_at hl 1 rfl) ?_
  refine k_callP (n := 1) (n1 := 1117) (n2 := 1118) (n3 := 2137) (n4 := 118) (n5 := 1119) (n6 := 521) (As := [.int (nI v)]) (rest := []) (wr := []) C0 (t_appc qt qb n cnt f g9 ml hn hc hf hg v hv hm) (by decide +kernel) (by decide +kernel) (by decide) (hK.1 11 _ rfl).2 (va_recv hK hP (ci := 11) (q0 := 0) rfl rfl) hP hD hS [0, 1] [] rfl rfl rfl rfl (by decide) hl.1 rfl (Nat.le_of_ble_eq_true rfl) ⟨Nat.le_of_ble_eq_true rfl, Nat.le_of_ble_eq_true rfl⟩ ⟨Nat.le_of_ble_eq_true rfl, Nat.le_of_ble_eq_true rfl⟩ kd_sapc_2 rfl (fun r w1 H locs hQ hP hD hS => ?_)
  obtain ⟨rfl, hw⟩ := hQ
  have hP : va_P D clx (w1) H := hP
  have hD : va_D A (w1) := hD
  refine lv_pop hx hb kd_sapc_5 rfl ?_
  refine lv_aload_n hx hb kd_sapc_6 rfl (lv_at hl 0 rfl) ?_
  exact k_aret C0 hr (Or.inl ⟨_, rfl⟩) hlocks hP hD hS ⟨rfl, hw⟩ ⟨Nat.le_of_ble_eq_true rfl, Nat.le_of_ble_eq_true rfl⟩ kd_sapc_7
abbrev kc_sapi : ByteArray := prog_28_method_15_code
def ky_sapi : MethodName := ⟨"java/lang/StringBuilder", "append", "(I)Ljava/lang/StringBuilder;"⟩
set_option maxRecDepth 100000 in
theorem kd_sapi_0 : decode kc_sapi 0 = .ok (.aload_n 0, 1) := by decide +kernel
set_option maxRecDepth 100000 in
theorem kd_sapi_1 : decode kc_sapi 1 = .ok (.iload_n 1, 1) := by decide +kernel
set_option maxRecDepth 100000 in
theorem kd_sapi_2 : decode kc_sapi 2 = .ok (.invokespecial 53, 3) := by decide +kernel
set_option maxRecDepth 100000 in
theorem kd_sapi_5 : decode kc_sapi 5 = .ok (.pop, 1) := by decide +kernel
set_option maxRecDepth 100000 in
theorem kd_sapi_6 : decode kc_sapi 6 = .ok (.aload_n 0, 1) := by decide +kernel
set_option maxRecDepth 100000 in
theorem kd_sapi_7 : decode kc_sapi 7 = .ok (.areturn, 1) := by decide +kernel
set_option maxHeartbeats 4000000 in
set_option maxRecDepth 100000 in
theorem s_sapi {l : Launch} {κ : Nat → Nat} {D : va_G} {tA : Nat → ClassId} (qt qb n cnt : Nat) (f g9 : Nat → Int32) (ml : Int32) (hn : n = 16 ∨ n = 34) (hc : cnt ≤ n) (hf : Byt f n) (hg : ∀ j, j < cnt → f j = g9 j) (d : Nat) (hd : d < 10) (hm : cnt + 1 ≤ 34) : Ct l κ D tA ky_sapi kc_sapi 2 (some (FieldType.object "java/lang/StringBuilder")) 7 1 34 [.ref qt, .int (nI d)] [(qt, .inr (11, [.ref qb, .int 0, .int ml, .int (nI cnt)])), (qb, .inl (tA 1, n, .inl f))] (fun r w => r = some (.ref qt) ∧ TWp tA qt (cnt + 1) (fun j => if j < cnt then g9 j else nI (48 + d)) w) := by
  refine Ct.of rfl (Nat.le_of_ble_eq_true rfl) ?_
  intro p e s m args below meth c A ls C0 hr hlocks hin hP hD hS hl
  obtain ⟨hx, hb, hml, hown, hts, hK, hA, hI⟩ := id C0
  have hl : lv_has ls 2 [(0, .ref qt), (1, .int (nI d))] := hl
  have hin : meth.name = "append" := hin
  refine lv_aload_n hx hb kd_sapi_0 rfl (lv_at hl 0 rfl) ?_
  refine lv_iload_n hx hb kd_sapi_1 rfl (lv_at hl 1 rfl) ?_
  refine k_callP (n := 1) (n1 := 1221) (n2 := 1222) (n3 := 2143) (n4 := 118) (n5 := 1223) (n6 := 521) (As := [.int (nI d)]) (rest := []) (wr := []) C0 (t_appi qt qb n cnt f g9 ml hn hc hf hg d hd hm) (by decide +kernel) (by decide +kernel) (by decide) (hK.1 11 _ rfl).2 (va_recv hK hP (ci := 11) (q0 := 0) rfl rfl) hP hD hS [0, 1] [] rfl rfl rfl rfl (by decide) hl.1 rfl (Nat.le_of_ble_eq_true rfl) ⟨Nat.le_of_ble_eq_true rfl, Nat.le_of_ble_eq_true rfl⟩ ⟨Nat.le_of_ble_eq_true rfl, Nat.le_of_ble_eq_true rfl⟩ kd_sapi_2 rfl (fun r w1 H locs hQ hP hD hS => ?_)
  obtain ⟨rfl, hw⟩ := hQ
  have hP : va_P D clx (w1) H := hP
  have hD : va_D A (w1) := hD
  refine lv_pop hx hb kd_sapi_5 rfl ?_
  refine lv_aload_n hx hb kd_sapi_6 rfl (lv_at hl 0 rfl) ?_
  exact k_aret C0 hr (Or.inl ⟨_, rfl⟩) hlocks hP hD hS ⟨rfl, hw⟩ ⟨Nat.le_of_ble_eq_true rfl, Nat.le_of_ble_eq_true rfl⟩ kd_sapi_7
abbrev kc_saps : ByteArray := prog_28_method_7_code
def ky_saps : MethodName := ⟨"java/lang/StringBuilder", "append", "(Ljava/lang/String;)Ljava/lang/StringBuilder;"⟩
set_option maxRecDepth 100000 in
theorem kd_saps_0 : decode kc_saps 0 = .ok (.aload_n 0, 1) := by decide +kernel
set_option maxRecDepth 100000 in
theorem kd_saps_1 : decode kc_saps 1 = .ok (.aload_n 1, 1) := by decide +kernel
set_option maxRecDepth 100000 in
theorem kd_saps_2 : decode kc_saps 2 = .ok (.invokespecial 29, 3) := by decide +kernel
set_option maxRecDepth 100000 in
theorem kd_saps_5 : decode kc_saps 5 = .ok (.pop, 1) := by decide +kernel
set_option maxRecDepth 100000 in
theorem kd_saps_6 : decode kc_saps 6 = .ok (.aload_n 0, 1) := by decide +kernel
set_option maxRecDepth 100000 in
theorem kd_saps_7 : decode kc_saps 7 = .ok (.areturn, 1) := by decide +kernel
set_option maxHeartbeats 4000000 in
set_option maxRecDepth 100000 in
theorem s_saps {l : Launch} {κ : Nat → Nat} {D : va_G} {tA : Nat → ClassId} (qt qb n cnt : Nat) (f g9 : Nat → Int32) (ml : Int32) (hn : n = 16 ∨ n = 34) (hc : cnt ≤ n) (hf : Byt f n) (hg : ∀ j, j < cnt → f j = g9 j) (i : Nat) (q : Nat × String × List Int32) (hq : txL[i]? = some q) (hm : cnt + q.2.2.length ≤ 34) : Ct l κ D tA ky_saps kc_saps 2 (some (FieldType.object "java/lang/StringBuilder")) 7 1 34 [.ref qt, .ref (κ (400000 + i))] [(qt, .inr (11, [.ref qb, .int 0, .int ml, .int (nI cnt)])), (qb, .inl (tA 1, n, .inl f))] (fun r w => r = some (.ref qt) ∧ TWp tA qt (cnt + q.2.2.length) (fun j => if j < cnt then g9 j else q.2.2.getD (j - cnt) 0) w) := by
  refine Ct.of rfl (Nat.le_of_ble_eq_true rfl) ?_
  intro p e s m args below meth c A ls C0 hr hlocks hin hP hD hS hl
  obtain ⟨hx, hb, hml, hown, hts, hK, hA, hI⟩ := id C0
  have hl : lv_has ls 2 [(0, .ref qt), (1, .ref (κ (400000 + i)))] := hl
  have hin : meth.name = "append" := hin
  refine lv_aload_n hx hb kd_saps_0 rfl (lv_at hl 0 rfl) ?_
  refine lv_aload_n hx hb kd_saps_1 rfl (lv_at hl 1 rfl) ?_
  refine k_callP (n := 1) (n1 := 1173) (n2 := 1174) (n3 := 2139) (n4 := 118) (n5 := 1175) (n6 := 521) (As := [.ref (κ (400000 + i))]) (rest := []) (wr := []) C0 (t_apps qt qb n cnt f g9 ml hn hc hf hg i q hq hm) (by decide +kernel) (by decide +kernel) (by decide) (hK.1 11 _ rfl).2 (va_recv hK hP (ci := 11) (q0 := 0) rfl rfl) hP hD hS [0, 1] [] rfl rfl rfl rfl (by decide) hl.1 rfl (Nat.le_of_ble_eq_true rfl) ⟨Nat.le_of_ble_eq_true rfl, Nat.le_of_ble_eq_true rfl⟩ ⟨Nat.le_of_ble_eq_true rfl, Nat.le_of_ble_eq_true rfl⟩ kd_saps_2 rfl (fun r w1 H locs hQ hP hD hS => ?_)
  obtain ⟨rfl, hw⟩ := hQ
  have hP : va_P D clx (w1) H := hP
  have hD : va_D A (w1) := hD
  refine lv_pop hx hb kd_saps_5 rfl ?_
  refine lv_aload_n hx hb kd_saps_6 rfl (lv_at hl 0 rfl) ?_
  exact k_aret C0 hr (Or.inl ⟨_, rfl⟩) hlocks hP hD hS ⟨rfl, hw⟩ ⟨Nat.le_of_ble_eq_true rfl, Nat.le_of_ble_eq_true rfl⟩ kd_saps_7
abbrev kc_ssetl : ByteArray := prog_28_method_89_code
def ky_ssetl : MethodName := ⟨"java/lang/StringBuilder", "setLength", "(I)V"⟩
set_option maxRecDepth 100000 in
theorem kd_ssetl_0 : decode kc_ssetl 0 = .ok (.aload_n 0, 1) := by decide +kernel
set_option maxRecDepth 100000 in
theorem kd_ssetl_1 : decode kc_ssetl 1 = .ok (.iload_n 1, 1) := by decide +kernel
set_option maxRecDepth 100000 in
theorem kd_ssetl_2 : decode kc_ssetl 2 = .ok (.invokespecial 333, 3) := by decide +kernel
set_option maxRecDepth 100000 in
theorem kd_ssetl_5 : decode kc_ssetl 5 = .ok (.return_, 1) := by decide +kernel
set_option maxHeartbeats 4000000 in
set_option maxRecDepth 100000 in
theorem s_ssetl {l : Launch} {κ : Nat → Nat} {D : va_G} {tA : Nat → ClassId} (qt qb n cnt : Nat) (f g9 : Nat → Int32) (ml : Int32) (hn : n = 16 ∨ n = 34) (hc : cnt ≤ n) (hf : Byt f n) (hg : ∀ j, j < cnt → f j = g9 j) : Ct l κ D tA ky_ssetl kc_ssetl 2 none 7 1 34 [.ref qt, .int 0] [(qt, .inr (11, [.ref qb, .int 0, .int ml, .int (nI cnt)])), (qb, .inl (tA 1, n, .inl f))] (fun r w => r = none ∧ TWp tA qt 0 (fun _ => 0) w) := by
  refine Ct.of rfl (Nat.le_of_ble_eq_true rfl) ?_
  intro p e s m args below meth c A ls C0 hr hlocks hin hP hD hS hl
  obtain ⟨hx, hb, hml, hown, hts, hK, hA, hI⟩ := id C0
  have hl : lv_has ls 2 [(0, .ref qt), (1, .int 0)] := hl
  have hin : meth.name = "setLength" := hin
  refine lv_aload_n hx hb kd_ssetl_0 rfl (lv_at hl 0 rfl) ?_
  refine lv_iload_n hx hb kd_ssetl_1 rfl (lv_at hl 1 rfl) ?_
  refine k_callP (n := 1) (n1 := 1059) (n2 := 1060) (n3 := 2134) (n4 := 118) (n5 := 1061) (n6 := 521) (As := [.int 0]) (rest := []) (wr := []) C0 (t_setl qt qb n cnt f g9 ml hn hc hf hg) (by decide +kernel) (by decide +kernel) (by decide) (hK.1 11 _ rfl).2 (va_recv hK hP (ci := 11) (q0 := 0) rfl rfl) hP hD hS [0, 1] [] rfl rfl rfl rfl (by decide) hl.1 rfl (Nat.le_of_ble_eq_true rfl) ⟨Nat.le_of_ble_eq_true rfl, Nat.le_of_ble_eq_true rfl⟩ ⟨Nat.le_of_ble_eq_true rfl, Nat.le_of_ble_eq_true rfl⟩ kd_ssetl_2 rfl (fun r w1 H locs hQ hP hD hS => ?_)
  obtain ⟨rfl, hw⟩ := hQ
  have hP : va_P D clx (w1) H := hP
  have hD : va_D A (w1) := hD
  exact k_vret C0 hr hlocks hP hD hS ⟨rfl, hw⟩ ⟨Nat.le_of_ble_eq_true rfl, Nat.le_of_ble_eq_true rfl⟩ kd_ssetl_5
abbrev kc_slenb : ByteArray := prog_28_method_93_code
def ky_slenb : MethodName := ⟨"java/lang/StringBuilder", "length", "()I"⟩
set_option maxRecDepth 100000 in
theorem kd_slenb_0 : decode kc_slenb 0 = .ok (.aload_n 0, 1) := by decide +kernel
set_option maxRecDepth 100000 in
theorem kd_slenb_1 : decode kc_slenb 1 = .ok (.invokespecial 343, 3) := by decide +kernel
set_option maxRecDepth 100000 in
theorem kd_slenb_4 : decode kc_slenb 4 = .ok (.ireturn, 1) := by decide +kernel
set_option maxHeartbeats 4000000 in
set_option maxRecDepth 100000 in
theorem s_slenb {l : Launch} {κ : Nat → Nat} {D : va_G} {tA : Nat → ClassId} (qt qb n cnt : Nat) (f : Nat → Int32) (ml : Int32) : Ct l κ D tA ky_slenb kc_slenb 1 (some FieldType.int) 1 0 0 [.ref qt] [(qt, .inr (11, [.ref qb, .int 0, .int ml, .int (nI cnt)])), (qb, .inl (tA 1, n, .inl f))] (fun r w => r = some (.int (nI cnt)) ∧ w = [(qt, .inr (11, [.ref qb, .int 0, .int ml, .int (nI cnt)])), (qb, .inl (tA 1, n, .inl f))]) := by
  refine Ct.of rfl (Nat.le_of_ble_eq_true rfl) ?_
  intro p e s m args below meth c A ls C0 hr hlocks hin hP hD hS hl
  obtain ⟨hx, hb, hml, hown, hts, hK, hA, hI⟩ := id C0
  have hl : lv_has ls 1 [(0, .ref qt)] := hl
  have hin : meth.name = "length" := hin
  refine lv_aload_n hx hb kd_slenb_0 rfl (lv_at hl 0 rfl) ?_
  refine k_callP (n := 0) (n1 := 1248) (n2 := 1249) (n3 := 2144) (n4 := 118) (n5 := 1250) (n6 := 521) (As := []) (rest := []) (wr := []) C0 (t_len qt qb n cnt f ml) (by decide +kernel) (by decide +kernel) (by decide) (hK.1 11 _ rfl).2 (va_recv hK hP (ci := 11) (q0 := 0) rfl rfl) hP hD hS [0, 1] [] rfl rfl rfl rfl (by decide) hl.1 rfl (Nat.le_of_ble_eq_true rfl) ⟨Nat.le_of_ble_eq_true rfl, Nat.le_of_ble_eq_true rfl⟩ ⟨Nat.le_of_ble_eq_true rfl, Nat.le_of_ble_eq_true rfl⟩ kd_slenb_1 rfl (fun r w1 H locs hQ hP hD hS => ?_)
  obtain ⟨rfl, rfl⟩ := hQ
  have hP : va_P D clx [(qt, .inr (11, [.ref qb, .int 0, .int ml, .int (nI cnt)])), (qb, .inl (tA 1, n, .inl f))] H := hP
  have hD : va_D A [(qt, .inr (11, [.ref qb, .int 0, .int ml, .int (nI cnt)])), (qb, .inl (tA 1, n, .inl f))] := hD
  exact k_iret C0 hr hlocks hP hD hS ⟨rfl, rfl⟩ ⟨Nat.le_of_ble_eq_true rfl, Nat.le_of_ble_eq_true rfl⟩ kd_slenb_4
abbrev kc_schr : ByteArray := prog_28_method_88_code
def ky_schr : MethodName := ⟨"java/lang/StringBuilder", "charAt", "(I)C"⟩
set_option maxRecDepth 100000 in
theorem kd_schr_0 : decode kc_schr 0 = .ok (.aload_n 0, 1) := by decide +kernel
set_option maxRecDepth 100000 in
theorem kd_schr_1 : decode kc_schr 1 = .ok (.iload_n 1, 1) := by decide +kernel
set_option maxRecDepth 100000 in
theorem kd_schr_2 : decode kc_schr 2 = .ok (.invokespecial 329, 3) := by decide +kernel
set_option maxRecDepth 100000 in
theorem kd_schr_5 : decode kc_schr 5 = .ok (.ireturn, 1) := by decide +kernel
set_option maxHeartbeats 4000000 in
set_option maxRecDepth 100000 in
theorem s_schr {l : Launch} {κ : Nat → Nat} {D : va_G} {tA : Nat → ClassId} (qt qb n cnt : Nat) (f : Nat → Int32) (ml : Int32) (ix v : Nat) (hn : n < 1000) (hc : cnt ≤ n) (hix : ix < cnt) (hv : f ix = nI v) (h8 : v < 128) : Ct l κ D tA ky_schr kc_schr 2 (some FieldType.char) 3 0 0 [.ref qt, .int (nI ix)] [(qt, .inr (11, [.ref qb, .int 0, .int ml, .int (nI cnt)])), (qb, .inl (tA 1, n, .inl f))] (fun r w => r = some (.int (nI v)) ∧ w = [(qt, .inr (11, [.ref qb, .int 0, .int ml, .int (nI cnt)])), (qb, .inl (tA 1, n, .inl f))]) := by
  refine Ct.of rfl (Nat.le_of_ble_eq_true rfl) ?_
  intro p e s m args below meth c A ls C0 hr hlocks hin hP hD hS hl
  obtain ⟨hx, hb, hml, hown, hts, hK, hA, hI⟩ := id C0
  have hl : lv_has ls 2 [(0, .ref qt), (1, .int (nI ix))] := hl
  have hin : meth.name = "charAt" := hin
  refine lv_aload_n hx hb kd_schr_0 rfl (lv_at hl 0 rfl) ?_
  refine lv_iload_n hx hb kd_schr_1 rfl (lv_at hl 1 rfl) ?_
  refine k_callP (n := 1) (n1 := 1259) (n2 := 1260) (n3 := 2145) (n4 := 118) (n5 := 1261) (n6 := 521) (As := [.int (nI ix)]) (rest := []) (wr := []) C0 (t_chr qt qb n cnt f ml ix v hn hc hix hv h8) (by decide +kernel) (by decide +kernel) (by decide) (hK.1 11 _ rfl).2 (va_recv hK hP (ci := 11) (q0 := 0) rfl rfl) hP hD hS [0, 1] [] rfl rfl rfl rfl (by decide) hl.1 rfl (Nat.le_of_ble_eq_true rfl) ⟨Nat.le_of_ble_eq_true rfl, Nat.le_of_ble_eq_true rfl⟩ ⟨Nat.le_of_ble_eq_true rfl, Nat.le_of_ble_eq_true rfl⟩ kd_schr_2 rfl (fun r w1 H locs hQ hP hD hS => ?_)
  obtain ⟨rfl, rfl⟩ := hQ
  have hP : va_P D clx [(qt, .inr (11, [.ref qb, .int 0, .int ml, .int (nI cnt)])), (qb, .inl (tA 1, n, .inl f))] H := hP
  have hD : va_D A [(qt, .inr (11, [.ref qb, .int 0, .int ml, .int (nI cnt)])), (qb, .inl (tA 1, n, .inl f))] := hD
  exact k_zret C0 hr ((chr_1 h8).2.2) hlocks hP hD hS ⟨rfl, rfl⟩ ⟨Nat.le_of_ble_eq_true rfl, Nat.le_of_ble_eq_true rfl⟩ kd_schr_5
