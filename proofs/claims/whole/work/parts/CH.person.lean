/-! person and mean of the class: where they answer, and where they throw. Printed by wip/whole/pFC.py. -/
abbrev kc_per : ByteArray := prog_1_method_8_code
def ky_per : MethodName := ⟨"IceManners", "person", "(II)I"⟩
set_option maxRecDepth 100000 in
theorem kd_per_0 : decode kc_per 0 = .ok (.aload_n 0, 1) := by decide +kernel
set_option maxRecDepth 100000 in
theorem kd_per_1 : decode kc_per 1 = .ok (.getfield 16, 3) := by decide +kernel
set_option maxRecDepth 100000 in
theorem kd_per_4 : decode kc_per 4 = .ok (.getfield 33, 3) := by decide +kernel
set_option maxRecDepth 100000 in
theorem kd_per_7 : decode kc_per 7 = .ok (.iload_n 1, 1) := by decide +kernel
set_option maxRecDepth 100000 in
theorem kd_per_8 : decode kc_per 8 = .ok (.invokevirtual 133, 3) := by decide +kernel
set_option maxRecDepth 100000 in
theorem kd_per_11 : decode kc_per 11 = .ok (.ifCond .ne 13, 3) := by decide +kernel
set_option maxRecDepth 100000 in
theorem kd_per_14 : decode kc_per 14 = .ok (.new 139, 3) := by decide +kernel
set_option maxRecDepth 100000 in
theorem kd_per_17 : decode kc_per 17 = .ok (.dup, 1) := by decide +kernel
set_option maxRecDepth 100000 in
theorem kd_per_18 : decode kc_per 18 = .ok (.ldc 141, 2) := by decide +kernel
set_option maxRecDepth 100000 in
theorem kd_per_20 : decode kc_per 20 = .ok (.invokespecial 143, 3) := by decide +kernel
set_option maxRecDepth 100000 in
theorem kd_per_23 : decode kc_per 23 = .ok (.athrow, 1) := by decide +kernel
set_option maxRecDepth 100000 in
theorem kd_per_24 : decode kc_per 24 = .ok (.aload_n 0, 1) := by decide +kernel
set_option maxRecDepth 100000 in
theorem kd_per_25 : decode kc_per 25 = .ok (.getfield 16, 3) := by decide +kernel
set_option maxRecDepth 100000 in
theorem kd_per_28 : decode kc_per 28 = .ok (.getfield 146, 3) := by decide +kernel
set_option maxRecDepth 100000 in
theorem kd_per_31 : decode kc_per 31 = .ok (.astore_n 3, 1) := by decide +kernel
set_option maxRecDepth 100000 in
theorem kd_per_32 : decode kc_per 32 = .ok (.iload_n 2, 1) := by decide +kernel
set_option maxRecDepth 100000 in
theorem kd_per_33 : decode kc_per 33 = .ok (.tableswitch 120 0 7 #[47, 57, 67, 80, 87, 101, 108, 114], 47) := by decide +kernel
set_option maxRecDepth 100000 in
theorem kd_per_80 : decode kc_per 80 = .ok (.aload_n 3, 1) := by decide +kernel
set_option maxRecDepth 100000 in
theorem kd_per_81 : decode kc_per 81 = .ok (.getfield 149, 3) := by decide +kernel
set_option maxRecDepth 100000 in
theorem kd_per_84 : decode kc_per 84 = .ok (.iload_n 1, 1) := by decide +kernel
set_option maxRecDepth 100000 in
theorem kd_per_85 : decode kc_per 85 = .ok (.iaload, 1) := by decide +kernel
set_option maxRecDepth 100000 in
theorem kd_per_86 : decode kc_per 86 = .ok (.bipush 8, 2) := by decide +kernel
set_option maxRecDepth 100000 in
theorem kd_per_88 : decode kc_per 88 = .ok (.irem, 1) := by decide +kernel
set_option maxRecDepth 100000 in
theorem kd_per_89 : decode kc_per 89 = .ok (.ireturn, 1) := by decide +kernel
set_option maxRecDepth 100000 in
theorem kd_per_90 : decode kc_per 90 = .ok (.aload_n 3, 1) := by decide +kernel
set_option maxRecDepth 100000 in
theorem kd_per_91 : decode kc_per 91 = .ok (.getfield 149, 3) := by decide +kernel
set_option maxRecDepth 100000 in
theorem kd_per_94 : decode kc_per 94 = .ok (.iload_n 1, 1) := by decide +kernel
set_option maxRecDepth 100000 in
theorem kd_per_95 : decode kc_per 95 = .ok (.iaload, 1) := by decide +kernel
set_option maxRecDepth 100000 in
theorem kd_per_96 : decode kc_per 96 = .ok (.bipush 8, 2) := by decide +kernel
set_option maxRecDepth 100000 in
theorem kd_per_98 : decode kc_per 98 = .ok (.idiv, 1) := by decide +kernel
set_option maxRecDepth 100000 in
theorem kd_per_99 : decode kc_per 99 = .ok (.ireturn, 1) := by decide +kernel
set_option maxRecDepth 100000 in
theorem kd_per_100 : decode kc_per 100 = .ok (.aload_n 0, 1) := by decide +kernel
set_option maxRecDepth 100000 in
theorem kd_per_101 : decode kc_per 101 = .ok (.getfield 16, 3) := by decide +kernel
set_option maxRecDepth 100000 in
theorem kd_per_104 : decode kc_per 104 = .ok (.getfield 33, 3) := by decide +kernel
set_option maxRecDepth 100000 in
theorem kd_per_107 : decode kc_per 107 = .ok (.getfield 152, 3) := by decide +kernel
set_option maxRecDepth 100000 in
theorem kd_per_110 : decode kc_per 110 = .ok (.iload_n 1, 1) := by decide +kernel
set_option maxRecDepth 100000 in
theorem kd_per_111 : decode kc_per 111 = .ok (.iaload, 1) := by decide +kernel
set_option maxRecDepth 100000 in
theorem kd_per_112 : decode kc_per 112 = .ok (.ireturn, 1) := by decide +kernel
set_option maxRecDepth 100000 in
theorem kd_per_113 : decode kc_per 113 = .ok (.aload_n 3, 1) := by decide +kernel
set_option maxRecDepth 100000 in
theorem kd_per_114 : decode kc_per 114 = .ok (.getfield 155, 3) := by decide +kernel
set_option maxRecDepth 100000 in
theorem kd_per_117 : decode kc_per 117 = .ok (.iload_n 1, 1) := by decide +kernel
set_option maxRecDepth 100000 in
theorem kd_per_118 : decode kc_per 118 = .ok (.iaload, 1) := by decide +kernel
set_option maxRecDepth 100000 in
theorem kd_per_119 : decode kc_per 119 = .ok (.ireturn, 1) := by decide +kernel
set_option maxRecDepth 100000 in
theorem kd_per_120 : decode kc_per 120 = .ok (.aload_n 3, 1) := by decide +kernel
set_option maxRecDepth 100000 in
theorem kd_per_121 : decode kc_per 121 = .ok (.iload_n 1, 1) := by decide +kernel
set_option maxRecDepth 100000 in
theorem kd_per_122 : decode kc_per 122 = .ok (.invokevirtual 158, 3) := by decide +kernel
set_option maxRecDepth 100000 in
theorem kd_per_125 : decode kc_per 125 = .ok (.ifCond .eq 7, 3) := by decide +kernel
set_option maxRecDepth 100000 in
theorem kd_per_128 : decode kc_per 128 = .ok (.iconst 1, 1) := by decide +kernel
set_option maxRecDepth 100000 in
theorem kd_per_129 : decode kc_per 129 = .ok (.goto 4, 3) := by decide +kernel
set_option maxRecDepth 100000 in
theorem kd_per_132 : decode kc_per 132 = .ok (.iconst 0, 1) := by decide +kernel
set_option maxRecDepth 100000 in
theorem kd_per_133 : decode kc_per 133 = .ok (.ireturn, 1) := by decide +kernel
set_option maxRecDepth 100000 in
theorem kd_per_134 : decode kc_per 134 = .ok (.aload_n 3, 1) := by decide +kernel
set_option maxRecDepth 100000 in
theorem kd_per_135 : decode kc_per 135 = .ok (.getfield 161, 3) := by decide +kernel
set_option maxRecDepth 100000 in
theorem kd_per_138 : decode kc_per 138 = .ok (.iload_n 1, 1) := by decide +kernel
set_option maxRecDepth 100000 in
theorem kd_per_139 : decode kc_per 139 = .ok (.iaload, 1) := by decide +kernel
set_option maxRecDepth 100000 in
theorem kd_per_140 : decode kc_per 140 = .ok (.ireturn, 1) := by decide +kernel
set_option maxRecDepth 100000 in
theorem kd_per_141 : decode kc_per 141 = .ok (.aload_n 3, 1) := by decide +kernel
set_option maxRecDepth 100000 in
theorem kd_per_142 : decode kc_per 142 = .ok (.iload_n 1, 1) := by decide +kernel
set_option maxRecDepth 100000 in
theorem kd_per_143 : decode kc_per 143 = .ok (.invokevirtual 164, 3) := by decide +kernel
set_option maxRecDepth 100000 in
theorem kd_per_146 : decode kc_per 146 = .ok (.ireturn, 1) := by decide +kernel
set_option maxRecDepth 100000 in
theorem kd_per_147 : decode kc_per 147 = .ok (.aload_n 3, 1) := by decide +kernel
set_option maxRecDepth 100000 in
theorem kd_per_148 : decode kc_per 148 = .ok (.iload_n 1, 1) := by decide +kernel
set_option maxRecDepth 100000 in
theorem kd_per_149 : decode kc_per 149 = .ok (.invokevirtual 168, 3) := by decide +kernel
set_option maxRecDepth 100000 in
theorem kd_per_152 : decode kc_per 152 = .ok (.ireturn, 1) := by decide +kernel
set_option maxRecDepth 100000 in
theorem kd_per_153 : decode kc_per 153 = .ok (.new 139, 3) := by decide +kernel
set_option maxRecDepth 100000 in
theorem kd_per_156 : decode kc_per 156 = .ok (.dup, 1) := by decide +kernel
set_option maxRecDepth 100000 in
theorem kd_per_157 : decode kc_per 157 = .ok (.ldc 171, 2) := by decide +kernel
set_option maxRecDepth 100000 in
theorem kd_per_159 : decode kc_per 159 = .ok (.invokespecial 143, 3) := by decide +kernel
set_option maxRecDepth 100000 in
theorem kd_per_162 : decode kc_per 162 = .ok (.athrow, 1) := by decide +kernel
abbrev kc_mea : ByteArray := prog_1_method_12_code
def ky_mea : MethodName := ⟨"IceManners", "mean", "(I)I"⟩
set_option maxRecDepth 100000 in
theorem kd_mea_0 : decode kc_mea 0 = .ok (.iload_n 1, 1) := by decide +kernel
set_option maxRecDepth 100000 in
theorem kd_mea_1 : decode kc_mea 1 = .ok (.ifCond .eq 18, 3) := by decide +kernel
set_option maxRecDepth 100000 in
theorem kd_mea_4 : decode kc_mea 4 = .ok (.iload_n 1, 1) := by decide +kernel
set_option maxRecDepth 100000 in
theorem kd_mea_5 : decode kc_mea 5 = .ok (.iconst 1, 1) := by decide +kernel
set_option maxRecDepth 100000 in
theorem kd_mea_6 : decode kc_mea 6 = .ok (.if_icmp .eq 13, 3) := by decide +kernel
set_option maxRecDepth 100000 in
theorem kd_mea_9 : decode kc_mea 9 = .ok (.new 139, 3) := by decide +kernel
set_option maxRecDepth 100000 in
theorem kd_mea_12 : decode kc_mea 12 = .ok (.dup, 1) := by decide +kernel
set_option maxRecDepth 100000 in
theorem kd_mea_13 : decode kc_mea 13 = .ok (.ldc 235, 2) := by decide +kernel
set_option maxRecDepth 100000 in
theorem kd_mea_15 : decode kc_mea 15 = .ok (.invokespecial 143, 3) := by decide +kernel
set_option maxRecDepth 100000 in
theorem kd_mea_18 : decode kc_mea 18 = .ok (.athrow, 1) := by decide +kernel
set_option maxRecDepth 100000 in
theorem kd_mea_19 : decode kc_mea 19 = .ok (.aload_n 0, 1) := by decide +kernel
set_option maxRecDepth 100000 in
theorem kd_mea_20 : decode kc_mea 20 = .ok (.getfield 16, 3) := by decide +kernel
set_option maxRecDepth 100000 in
theorem kd_mea_23 : decode kc_mea 23 = .ok (.getfield 146, 3) := by decide +kernel
set_option maxRecDepth 100000 in
theorem kd_mea_26 : decode kc_mea 26 = .ok (.invokevirtual 196, 3) := by decide +kernel
set_option maxRecDepth 100000 in
theorem kd_mea_29 : decode kc_mea 29 = .ok (.istore_n 2, 1) := by decide +kernel
set_option maxRecDepth 100000 in
theorem kd_mea_30 : decode kc_mea 30 = .ok (.aload_n 0, 1) := by decide +kernel
set_option maxRecDepth 100000 in
theorem kd_mea_31 : decode kc_mea 31 = .ok (.getfield 16, 3) := by decide +kernel
set_option maxRecDepth 100000 in
theorem kd_mea_34 : decode kc_mea 34 = .ok (.getfield 33, 3) := by decide +kernel
set_option maxRecDepth 100000 in
theorem kd_mea_37 : decode kc_mea 37 = .ok (.getfield 211, 3) := by decide +kernel
set_option maxRecDepth 100000 in
theorem kd_mea_40 : decode kc_mea 40 = .ok (.aload_n 0, 1) := by decide +kernel
set_option maxRecDepth 100000 in
theorem kd_mea_41 : decode kc_mea 41 = .ok (.getfield 16, 3) := by decide +kernel
set_option maxRecDepth 100000 in
theorem kd_mea_44 : decode kc_mea 44 = .ok (.getfield 33, 3) := by decide +kernel
set_option maxRecDepth 100000 in
theorem kd_mea_47 : decode kc_mea 47 = .ok (.getfield 214, 3) := by decide +kernel
set_option maxRecDepth 100000 in
theorem kd_mea_50 : decode kc_mea 50 = .ok (.imul, 1) := by decide +kernel
set_option maxRecDepth 100000 in
theorem kd_mea_51 : decode kc_mea 51 = .ok (.istore_n 3, 1) := by decide +kernel
set_option maxRecDepth 100000 in
theorem kd_mea_52 : decode kc_mea 52 = .ok (.iload_n 3, 1) := by decide +kernel
set_option maxRecDepth 100000 in
theorem kd_mea_53 : decode kc_mea 53 = .ok (.iload_n 2, 1) := by decide +kernel
set_option maxRecDepth 100000 in
theorem kd_mea_54 : decode kc_mea 54 = .ok (.invokestatic 237, 3) := by decide +kernel
set_option maxRecDepth 100000 in
theorem kd_mea_57 : decode kc_mea 57 = .ok (.istore 4, 2) := by decide +kernel
set_option maxRecDepth 100000 in
theorem kd_mea_59 : decode kc_mea 59 = .ok (.iload_n 1, 1) := by decide +kernel
set_option maxRecDepth 100000 in
theorem kd_mea_60 : decode kc_mea 60 = .ok (.ifCond .ne 7, 3) := by decide +kernel
set_option maxRecDepth 100000 in
theorem kd_mea_63 : decode kc_mea 63 = .ok (.iload_n 2, 1) := by decide +kernel
set_option maxRecDepth 100000 in
theorem kd_mea_64 : decode kc_mea 64 = .ok (.goto 4, 3) := by decide +kernel
set_option maxRecDepth 100000 in
theorem kd_mea_67 : decode kc_mea 67 = .ok (.iload_n 3, 1) := by decide +kernel
set_option maxRecDepth 100000 in
theorem kd_mea_68 : decode kc_mea 68 = .ok (.iload 4, 2) := by decide +kernel
set_option maxRecDepth 100000 in
theorem kd_mea_70 : decode kc_mea 70 = .ok (.idiv, 1) := by decide +kernel
set_option maxRecDepth 100000 in
theorem kd_mea_71 : decode kc_mea 71 = .ok (.ireturn, 1) := by decide +kernel
set_option maxHeartbeats 4000000 in
set_option maxRecDepth 100000 in
theorem c_per {l : Launch} {κ : Nat → Nat} {D : va_G} {tA : Nat → ClassId} (ρ : Nat → Nat) (M : Mm) (σ : Nat → Nat) (q w : Nat) (hk : ∀ i, 100000 ≤ i → i < 300000 → ρ i = κ i) (hSt : StC M 6 σ) (hV : Inv σ) (hq : q < σ 2) (hw : w < 8) : Ct l κ D tA ky_per kc_per 4 (some FieldType.int) 12 2 12 [.ref (ρ 0), .int (nI q), .int (nI w)] (wl ρ tA M) (fun r w2 => r = some (.int (nI (perA σ q w))) ∧ w2 = wl ρ tA M) := by
  refine Ct.of rfl (Nat.le_of_ble_eq_true rfl) ?_
  intro p e s m args below meth c A ls C0 hr hlocks hin hP hD hS hl
  have hx := C0.1
  have hb := C0.2.1
  have hB := hV.1
  have b6 := Bd_2 hB
  have fq := Bd_q hB q (by omega)
  have hLk : LkC M 3 σ := hSt.2.1
  have hl : lv_has ls 4 [(0, .ref (ρ 0)), (1, .int (nI q)), (2, .int (nI w))] := hl
  refine lv_aload_n hx hb kd_per_0 rfl (lv_at hl 0 rfl) ?_
  refine lg_get (pl := 0) (ci := 9) (k := 2) (q := (5, 2)) (n9 := 525) (C0.lw hk hD) hP.down (by decide +kernel) rfl rfl kd_per_1 ?_
  refine lg_get (pl := 2) (ci := 8) (k := 0) (q := (3, 1)) (n9 := 323) (C0.lw hk hD) hP.down (by decide +kernel) rfl rfl kd_per_4 ?_
  refine lv_iload_n hx hb kd_per_7 rfl (lv_at hl 1 rfl) ?_
  refine lg_call (d := 0) (p0 := 3) (ix := 133) (n9 := 791) (j := 164) (n := 1) (k9 := 2) (As := [.int (nI q)]) (v := .int (nI 1)) (st := []) (C0.lw hk hD) (by decide +kernel) rfl rfl (Nat.le_of_ble_eq_true rfl) (Nat.zero_le _) ⟨Nat.le_of_ble_eq_true rfl, ?_⟩ ⟨Nat.zero_le _, Nat.zero_le _⟩ kd_per_8 rfl hl.1 hP.down hS (w_lk_isPersonT 0 M 3 σ hLk hB q hq _ ⟨rfl, rfl⟩) (fun H1 locs1 hP1 hS1 hkp => ?_)
  · have h9 := (mok_sp 164 (by decide)).1.2.2.2.1
    show 8 + (mL 164 + 11) + 200 * 3 ≤ 2400
    omega
  replace hP := hP1.up
  replace hS := hS1
  clear hP1 hS1 hkp
  refine lv_if_ne (tgt := 24) hx hb kd_per_11 (by decide) (fun h9 => ?_) (fun h9 => absurd h9 (show ¬ nI 1 = 0 by decide))
  refine lv_aload_n hx hb kd_per_24 rfl (lv_at hl 0 rfl) ?_
  refine lg_get (pl := 0) (ci := 9) (k := 2) (q := (5, 2)) (n9 := 525) (C0.lw hk hD) hP.down (by decide +kernel) rfl rfl kd_per_25 ?_
  refine lg_get (pl := 2) (ci := 8) (k := 1) (q := (3, 4)) (n9 := 327) (C0.lw hk hD) hP.down (by decide +kernel) rfl rfl kd_per_28 ?_
  refine lv_astore_n (lv' := [(3, .ref (ρ 6)), (0, .ref (ρ 0)), (1, .int (nI q)), (2, .int (nI w))]) hx hb kd_per_31 rfl hl (by decide) rfl (fun ls hl => ?_)
  refine lv_iload_n hx hb kd_per_32 rfl (lv_at hl 3 rfl) ?_
  clear h9
  match w, hw with
  | 0, _ =>
    refine lv_tableIn (x := nI 0) (off := 47) (tgt := 80) hx hb kd_per_33 (by decide) (by decide) rfl rfl ?_
    refine lv_aload_n hx hb kd_per_80 rfl (lv_at hl 0 rfl) ?_
    refine lg_get (pl := 6) (ci := 5) (k := 2) (q := (3, 2)) (n9 := 242) (C0.lw hk hD) hP.down (by decide +kernel) rfl rfl kd_per_81 ?_
    refine lv_iload_n hx hb kd_per_84 rfl (lv_at hl 2 rfl) ?_
    refine lg_iald (pl := 8) (n := 6) (k := q) (C0.lw hk hD) hP.down rfl rfl (by omega) (by decide) kd_per_85 ?_
    rw [hSt.2.2.2.2.1 q hq]
    refine lv_bipush (v := nI 8) hx hb kd_per_86 (by decide) ?_
    refine lv_irem hx hb kd_per_88 (by decide) ?_
    rw [pk_rem (by omega) (by decide) (by decide)]
    exact k_iret C0 hr hlocks hP hD hS ⟨rfl, rfl⟩ ⟨Nat.le_of_ble_eq_true rfl, Nat.le_of_ble_eq_true rfl⟩ kd_per_89
  | 1, _ =>
    refine lv_tableIn (x := nI 1) (off := 57) (tgt := 90) hx hb kd_per_33 (by decide) (by decide) rfl rfl ?_
    refine lv_aload_n hx hb kd_per_90 rfl (lv_at hl 0 rfl) ?_
    refine lg_get (pl := 6) (ci := 5) (k := 2) (q := (3, 2)) (n9 := 242) (C0.lw hk hD) hP.down (by decide +kernel) rfl rfl kd_per_91 ?_
    refine lv_iload_n hx hb kd_per_94 rfl (lv_at hl 2 rfl) ?_
    refine lg_iald (pl := 8) (n := 6) (k := q) (C0.lw hk hD) hP.down rfl rfl (by omega) (by decide) kd_per_95 ?_
    rw [hSt.2.2.2.2.1 q hq]
    refine lv_bipush (v := nI 8) hx hb kd_per_96 (by decide) ?_
    refine lv_idiv hx hb kd_per_98 (by decide) ?_
    rw [pk_div (by omega) (by decide) (by decide)]
    exact k_iret C0 hr hlocks hP hD hS ⟨rfl, rfl⟩ ⟨Nat.le_of_ble_eq_true rfl, Nat.le_of_ble_eq_true rfl⟩ kd_per_99
  | 2, _ =>
    refine lv_tableIn (x := nI 2) (off := 67) (tgt := 100) hx hb kd_per_33 (by decide) (by decide) rfl rfl ?_
    refine lv_aload_n hx hb kd_per_100 rfl (lv_at hl 1 rfl) ?_
    refine lg_get (pl := 0) (ci := 9) (k := 2) (q := (5, 2)) (n9 := 525) (C0.lw hk hD) hP.down (by decide +kernel) rfl rfl kd_per_101 ?_
    refine lg_get (pl := 2) (ci := 8) (k := 0) (q := (3, 1)) (n9 := 323) (C0.lw hk hD) hP.down (by decide +kernel) rfl rfl kd_per_104 ?_
    refine lg_get (pl := 3) (ci := 2) (k := 9) (q := (3, 2)) (n9 := 197) (C0.lw hk hD) hP.down (by decide +kernel) rfl rfl kd_per_107 ?_
    refine lv_iload_n hx hb kd_per_110 rfl (lv_at hl 2 rfl) ?_
    refine lg_iald (pl := 5) (n := 6) (k := q) (C0.lw hk hD) hP.down rfl rfl (by omega) (by decide) kd_per_111 ?_
    rw [hLk.2.2.2.2 q hq]
    exact k_iret C0 hr hlocks hP hD hS ⟨rfl, rfl⟩ ⟨Nat.le_of_ble_eq_true rfl, Nat.le_of_ble_eq_true rfl⟩ kd_per_112
  | 3, _ =>
    refine lv_tableIn (x := nI 3) (off := 80) (tgt := 113) hx hb kd_per_33 (by decide) (by decide) rfl rfl ?_
    refine lv_aload_n hx hb kd_per_113 rfl (lv_at hl 0 rfl) ?_
    refine lg_get (pl := 6) (ci := 5) (k := 3) (q := (3, 3)) (n9 := 245) (C0.lw hk hD) hP.down (by decide +kernel) rfl rfl kd_per_114 ?_
    refine lv_iload_n hx hb kd_per_117 rfl (lv_at hl 2 rfl) ?_
    refine lg_iald (pl := 9) (n := 6) (k := q) (C0.lw hk hD) hP.down rfl rfl (by omega) (by decide) kd_per_118 ?_
    rw [hSt.2.2.2.2.2.1 q hq]
    exact k_iret C0 hr hlocks hP hD hS ⟨rfl, rfl⟩ ⟨Nat.le_of_ble_eq_true rfl, Nat.le_of_ble_eq_true rfl⟩ kd_per_119
  | 4, _ =>
    refine lv_tableIn (x := nI 4) (off := 87) (tgt := 120) hx hb kd_per_33 (by decide) (by decide) rfl rfl ?_
    refine lv_aload_n hx hb kd_per_120 rfl (lv_at hl 0 rfl) ?_
    refine lv_iload_n hx hb kd_per_121 rfl (lv_at hl 2 rfl) ?_
    refine lg_call (d := 0) (p0 := 6) (ix := 158) (n9 := 941) (j := 200) (n := 1) (k9 := 5) (As := [.int (nI q)]) (v := .int (b2 (fal σ q = true))) (st := []) (C0.lw hk hD) (by decide +kernel) rfl rfl (Nat.le_of_ble_eq_true rfl) (Nat.zero_le _) ⟨Nat.le_of_ble_eq_true rfl, ?_⟩ ⟨Nat.zero_le _, Nat.zero_le _⟩ kd_per_122 rfl hl.1 hP.down hS (w_st_isFallen 0 M 6 σ hSt hB q (by omega) _ ⟨rfl, rfl⟩) (fun H1 locs1 hP1 hS1 hkp => ?_)
    · have h9 := (mok_sp 200 (by decide)).1.2.2.2.1
      show 8 + (mL 200 + 11) + 200 * 3 ≤ 2400
      omega
    replace hP := hP1.up
    replace hS := hS1
    refine lv_if_eq (tgt := 132) hx hb kd_per_125 (by decide) (fun h9 => ?_) (fun h9 => ?_)
    · have hf : ¬ fal σ q = true := b2_e0.mp h9
      have e9 : perA σ q 4 = 0 := show (if fal σ q = true then 1 else 0) = 0 from if_neg hf
      refine lv_iconst (v := nI 0) hx hb kd_per_132 (by decide) ?_
      exact k_iret C0 hr hlocks hP hD hS ⟨by rw [e9], rfl⟩ ⟨Nat.le_of_ble_eq_true rfl, Nat.le_of_ble_eq_true rfl⟩ kd_per_133
    · have hf : fal σ q = true := b2_n0.mp h9
      have e9 : perA σ q 4 = 1 := show (if fal σ q = true then 1 else 0) = 1 from if_pos hf
      refine lv_iconst (v := nI 1) hx hb kd_per_128 (by decide) ?_
      refine lv_goto (tgt := 133) hx hb kd_per_129 (by decide) ?_
      exact k_iret C0 hr hlocks hP hD hS ⟨by rw [e9], rfl⟩ ⟨Nat.le_of_ble_eq_true rfl, Nat.le_of_ble_eq_true rfl⟩ kd_per_133
  | 5, _ =>
    refine lv_tableIn (x := nI 5) (off := 101) (tgt := 134) hx hb kd_per_33 (by decide) (by decide) rfl rfl ?_
    refine lv_aload_n hx hb kd_per_134 rfl (lv_at hl 0 rfl) ?_
    refine lg_get (pl := 6) (ci := 5) (k := 4) (q := (3, 4)) (n9 := 249) (C0.lw hk hD) hP.down (by decide +kernel) rfl rfl kd_per_135 ?_
    refine lv_iload_n hx hb kd_per_138 rfl (lv_at hl 2 rfl) ?_
    refine lg_iald (pl := 10) (n := 6) (k := q) (C0.lw hk hD) hP.down rfl rfl (by omega) (by decide) kd_per_139 ?_
    rw [hSt.2.2.2.2.2.2 q hq]
    exact k_iret C0 hr hlocks hP hD hS ⟨rfl, rfl⟩ ⟨Nat.le_of_ble_eq_true rfl, Nat.le_of_ble_eq_true rfl⟩ kd_per_140
  | 6, _ =>
    refine lv_tableIn (x := nI 6) (off := 108) (tgt := 141) hx hb kd_per_33 (by decide) (by decide) rfl rfl ?_
    refine lv_aload_n hx hb kd_per_141 rfl (lv_at hl 0 rfl) ?_
    refine lv_iload_n hx hb kd_per_142 rfl (lv_at hl 2 rfl) ?_
    refine lg_call (d := 4) (p0 := 6) (ix := 164) (n9 := 1495) (j := 209) (n := 1) (k9 := 5) (As := [.int (nI q)]) (v := .int (nI (sdN σ q 4))) (st := []) (C0.lw hk hD) (by decide +kernel) rfl rfl (Nat.le_of_ble_eq_true rfl) (Nat.zero_le _) ⟨Nat.le_of_ble_eq_true rfl, ?_⟩ ⟨Nat.zero_le _, Nat.zero_le _⟩ kd_per_143 rfl hl.1 hP.down hS (w_st_openSides 0 M 6 σ hSt hB hV.2.1 q hq _ ⟨rfl, rfl⟩) (fun H1 locs1 hP1 hS1 hkp => ?_)
    · have h9 := (mok_sp 209 (by decide)).1.2.2.2.1
      show 8 + (mL 209 + 11) + 200 * 7 ≤ 2400
      omega
    replace hP := hP1.up
    replace hS := hS1
    exact k_iret C0 hr hlocks hP hD hS ⟨rfl, rfl⟩ ⟨Nat.le_of_ble_eq_true rfl, Nat.le_of_ble_eq_true rfl⟩ kd_per_146
  | 7, _ =>
    refine lv_tableIn (x := nI 7) (off := 114) (tgt := 147) hx hb kd_per_33 (by decide) (by decide) rfl rfl ?_
    refine lv_aload_n hx hb kd_per_147 rfl (lv_at hl 0 rfl) ?_
    refine lv_iload_n hx hb kd_per_148 rfl (lv_at hl 2 rfl) ?_
    refine lg_call (d := 2) (p0 := 6) (ix := 168) (n9 := 1499) (j := 211) (n := 1) (k9 := 5) (As := [.int (nI q)]) (v := .int (nI (dng σ q))) (st := []) (C0.lw hk hD) (by decide +kernel) rfl rfl (Nat.le_of_ble_eq_true rfl) (Nat.zero_le _) ⟨Nat.le_of_ble_eq_true rfl, ?_⟩ ⟨Nat.zero_le _, Nat.zero_le _⟩ kd_per_149 rfl hl.1 hP.down hS (w_st_dangerOf 0 M 6 σ hSt hB hV.2.1 q hq _ ⟨rfl, rfl⟩) (fun H1 locs1 hP1 hS1 hkp => ?_)
    · have h9 := (mok_sp 211 (by decide)).1.2.2.2.1
      show 8 + (mL 211 + 11) + 200 * 5 ≤ 2400
      omega
    replace hP := hP1.up
    replace hS := hS1
    exact k_iret C0 hr hlocks hP hD hS ⟨rfl, rfl⟩ ⟨Nat.le_of_ble_eq_true rfl, Nat.le_of_ble_eq_true rfl⟩ kd_per_152
  | n + 8, h => omega
set_option maxHeartbeats 4000000 in
set_option maxRecDepth 100000 in
theorem c_perP {l : Launch} {κ : Nat → Nat} {D : va_G} {tA : Nat → ClassId} (hl9 : l.stackTraces = false) (ρ : Nat → Nat) (M : Mm) (σ : Nat → Nat) (x w : Int32) (hnp : ¬ pI σ x) (hk : ∀ i, 100000 ≤ i → i < 300000 → ρ i = κ i) (hSt : StC M 6 σ) (hV : Inv σ) : Cth l κ D tA ky_per kc_per 4 (some FieldType.int) 12 2 12 [.ref (ρ 0), .int x, .int w] (wl ρ tA M) := by
  refine Cth.of rfl (Nat.le_of_ble_eq_true rfl) ?_
  intro p e s m args below meth c A ls C0 hr hlocks hout hP hD hS hl
  have hx := C0.1
  have hb := C0.2.1
  have hB := hV.1
  have hLk : LkC M 3 σ := hSt.2.1
  have hT := C0.2.2.2.2.2.2.2.2.2.2.1.2.2.2
  have hl : lv_has ls 4 [(0, .ref (ρ 0)), (1, .int x), (2, .int w)] := hl
  refine lv_aload_n hx hb kd_per_0 rfl (lv_at hl 0 rfl) ?_
  refine lg_get (pl := 0) (ci := 9) (k := 2) (q := (5, 2)) (n9 := 525) (C0.lw hk hD) hP.down (by decide +kernel) rfl rfl kd_per_1 ?_
  refine lg_get (pl := 2) (ci := 8) (k := 0) (q := (3, 1)) (n9 := 323) (C0.lw hk hD) hP.down (by decide +kernel) rfl rfl kd_per_4 ?_
  refine lv_iload_n hx hb kd_per_7 rfl (lv_at hl 1 rfl) ?_
  refine lg_call (d := 0) (p0 := 3) (ix := 133) (n9 := 791) (j := 164) (n := 1) (k9 := 2) (As := [.int x]) (v := .int (nI 0)) (st := []) (C0.lw hk hD) (by decide +kernel) rfl rfl (Nat.le_of_ble_eq_true rfl) (Nat.zero_le _) ⟨Nat.le_of_ble_eq_true rfl, ?_⟩ ⟨Nat.zero_le _, Nat.zero_le _⟩ kd_per_8 rfl hl.1 hP.down hS (w_lk_isPersonF 0 M 3 σ hLk hB x hnp _ ⟨rfl, rfl⟩) (fun H1 locs1 hP1 hS1 hkp => ?_)
  · have h9 := (mok_sp 164 (by decide)).1.2.2.2.1
    show 8 + (mL 164 + 11) + 200 * 3 ≤ 2400
    omega
  replace hP := hP1.up
  replace hS := hS1
  clear hP1 hS1 hkp
  refine lv_if_ne (tgt := 24) hx hb kd_per_11 (by decide) (fun h9 => absurd (show nI 0 = 0 by decide) h9) (fun h9 => ?_)
  obtain ⟨⟨sa, hm9⟩, -⟩ := hT
  exact ns_throw (C0 := C0) hl9 hm9 hP hS hl.1 kd_per_14 kd_per_17 kd_per_18 kd_per_20 kd_per_23 hout ⟨Nat.le_of_ble_eq_true rfl, Nat.le_of_ble_eq_true rfl⟩ ⟨Nat.le_of_ble_eq_true rfl, Nat.le_of_ble_eq_true rfl⟩ hlocks (Nat.le_of_ble_eq_true rfl) (Nat.le_of_ble_eq_true rfl)
set_option maxHeartbeats 4000000 in
set_option maxRecDepth 100000 in
theorem c_perW {l : Launch} {κ : Nat → Nat} {D : va_G} {tA : Nat → ClassId} (hl9 : l.stackTraces = false) (ρ : Nat → Nat) (M : Mm) (σ : Nat → Nat) (q : Nat) (w : Int32) (hq : q < σ 2) (hns : ¬ ((nI 0).toInt ≤ w.toInt ∧ w.toInt ≤ (nI 7).toInt)) (hk : ∀ i, 100000 ≤ i → i < 300000 → ρ i = κ i) (hSt : StC M 6 σ) (hV : Inv σ) : Cth l κ D tA ky_per kc_per 4 (some FieldType.int) 12 2 12 [.ref (ρ 0), .int (nI q), .int w] (wl ρ tA M) := by
  refine Cth.of rfl (Nat.le_of_ble_eq_true rfl) ?_
  intro p e s m args below meth c A ls C0 hr hlocks hout hP hD hS hl
  have hx := C0.1
  have hb := C0.2.1
  have hB := hV.1
  have hLk : LkC M 3 σ := hSt.2.1
  have hT := C0.2.2.2.2.2.2.2.2.2.2.1.2.2.2
  have hl : lv_has ls 4 [(0, .ref (ρ 0)), (1, .int (nI q)), (2, .int w)] := hl
  refine lv_aload_n hx hb kd_per_0 rfl (lv_at hl 0 rfl) ?_
  refine lg_get (pl := 0) (ci := 9) (k := 2) (q := (5, 2)) (n9 := 525) (C0.lw hk hD) hP.down (by decide +kernel) rfl rfl kd_per_1 ?_
  refine lg_get (pl := 2) (ci := 8) (k := 0) (q := (3, 1)) (n9 := 323) (C0.lw hk hD) hP.down (by decide +kernel) rfl rfl kd_per_4 ?_
  refine lv_iload_n hx hb kd_per_7 rfl (lv_at hl 1 rfl) ?_
  refine lg_call (d := 0) (p0 := 3) (ix := 133) (n9 := 791) (j := 164) (n := 1) (k9 := 2) (As := [.int (nI q)]) (v := .int (nI 1)) (st := []) (C0.lw hk hD) (by decide +kernel) rfl rfl (Nat.le_of_ble_eq_true rfl) (Nat.zero_le _) ⟨Nat.le_of_ble_eq_true rfl, ?_⟩ ⟨Nat.zero_le _, Nat.zero_le _⟩ kd_per_8 rfl hl.1 hP.down hS (w_lk_isPersonT 0 M 3 σ hLk hB q hq _ ⟨rfl, rfl⟩) (fun H1 locs1 hP1 hS1 hkp => ?_)
  · have h9 := (mok_sp 164 (by decide)).1.2.2.2.1
    show 8 + (mL 164 + 11) + 200 * 3 ≤ 2400
    omega
  replace hP := hP1.up
  replace hS := hS1
  clear hP1 hS1 hkp
  refine lv_if_ne (tgt := 24) hx hb kd_per_11 (by decide) (fun h9 => ?_) (fun h9 => absurd h9 (show ¬ nI 1 = 0 by decide))
  refine lv_aload_n hx hb kd_per_24 rfl (lv_at hl 0 rfl) ?_
  refine lg_get (pl := 0) (ci := 9) (k := 2) (q := (5, 2)) (n9 := 525) (C0.lw hk hD) hP.down (by decide +kernel) rfl rfl kd_per_25 ?_
  refine lg_get (pl := 2) (ci := 8) (k := 1) (q := (3, 4)) (n9 := 327) (C0.lw hk hD) hP.down (by decide +kernel) rfl rfl kd_per_28 ?_
  refine lv_astore_n (lv' := [(3, .ref (ρ 6)), (0, .ref (ρ 0)), (1, .int (nI q)), (2, .int w)]) hx hb kd_per_31 rfl hl (by decide) rfl (fun ls hl => ?_)
  refine lv_iload_n hx hb kd_per_32 rfl (lv_at hl 3 rfl) ?_
  have h7 : (nI 7).toInt = 7 := rfl
  have h0 : (nI 0).toInt = 0 := rfl
  refine lv_tableOut (tgt := 153) hx hb kd_per_33 (by omega) (by decide) ?_
  obtain ⟨-, ⟨sa, hm9⟩, -⟩ := hT
  exact ns_throw (C0 := C0) hl9 hm9 hP hS hl.1 kd_per_153 kd_per_156 kd_per_157 kd_per_159 kd_per_162 hout ⟨Nat.le_of_ble_eq_true rfl, Nat.le_of_ble_eq_true rfl⟩ ⟨Nat.le_of_ble_eq_true rfl, Nat.le_of_ble_eq_true rfl⟩ hlocks (Nat.le_of_ble_eq_true rfl) (Nat.le_of_ble_eq_true rfl)
theorem meaE (σ : Nat → Nat) (hV : Inv σ) : alI σ 64 = aiN σ 64 := alI_ai hV.2.2.1 64 (Nat.le_refl _)
set_option maxHeartbeats 4000000 in
set_option maxRecDepth 100000 in
theorem c_mea {l : Launch} {κ : Nat → Nat} {D : va_G} {tA : Nat → ClassId} (ρ : Nat → Nat) (M : Mm) (σ : Nat → Nat) (w : Nat) (hk : ∀ i, 100000 ≤ i → i < 300000 → ρ i = κ i) (hSt : StC M 6 σ) (hV : Inv σ) (hw : w < 2) : Ct l κ D tA ky_mea kc_mea 5 (some FieldType.int) 12 2 12 [.ref (ρ 0), .int (nI w)] (wl ρ tA M) (fun r w2 => r = some (.int (nI (meaA σ w))) ∧ w2 = wl ρ tA M) := by
  refine Ct.of rfl (Nat.le_of_ble_eq_true rfl) ?_
  intro p e s m args below meth c A ls C0 hr hlocks hin hP hD hS hl
  have hx := C0.1
  have hb := C0.2.1
  have hB := hV.1
  have hLk : LkC M 3 σ := hSt.2.1
  have wh := wh_le (Bd_0 hB) (Bd_1 hB)
  have ai9 := aiN_le hB 64 (Nat.le_refl _)
  have g9 : 0 < Nat.gcd (σ 0 * σ 1) (aiN σ 64) := Nat.gcd_pos_of_pos_left _ (by omega)
  have g8 : Nat.gcd (σ 0 * σ 1) (aiN σ 64) ≤ σ 0 * σ 1 := Nat.le_of_dvd (by omega) (Nat.gcd_dvd_left _ _)
  have hl : lv_has ls 5 [(0, .ref (ρ 0)), (1, .int (nI w))] := hl
  have go : W p l e (rmc 12 2 12) s m args below meth c s.heap [] 0 0 (Ke D (fun r w2 => r = some (.int (nI (meaA σ w))) ∧ w2 = wl ρ tA M) A below args s 2 12) (F0 m 19 ls []) := by
    refine lv_aload_n hx hb kd_mea_19 rfl (lv_at hl 0 rfl) ?_
    refine lg_get (pl := 0) (ci := 9) (k := 2) (q := (5, 2)) (n9 := 525) (C0.lw hk hD) hP.down (by decide +kernel) rfl rfl kd_mea_20 ?_
    refine lg_get (pl := 2) (ci := 8) (k := 1) (q := (3, 4)) (n9 := 327) (C0.lw hk hD) hP.down (by decide +kernel) rfl rfl kd_mea_23 ?_
    refine lg_call (d := 2) (p0 := 6) (ix := 196) (n9 := 770) (j := 207) (n := 0) (k9 := 5) (As := []) (v := .int (nI (aiN σ 64))) (st := []) (C0.lw hk hD) (by decide +kernel) rfl rfl (Nat.le_of_ble_eq_true rfl) (Nat.zero_le _) ⟨Nat.le_of_ble_eq_true rfl, ?_⟩ ⟨Nat.zero_le _, Nat.zero_le _⟩ kd_mea_26 rfl hl.1 hP.down hS (by rw [← meaE σ hV]; exact w_st_allIce 0 M 6 σ hSt hB _ ⟨rfl, rfl⟩) (fun H1 locs1 hP1 hS1 hkp => ?_)
    · have h9 := (mok_sp 207 (by decide)).1.2.2.2.1
      show 8 + (mL 207 + 11) + 200 * 5 ≤ 2400
      omega
    replace hP := hP1.up
    replace hS := hS1
    clear hP1 hS1 hkp
    refine lv_istore_n (lv' := [(2, .int (nI (aiN σ 64))), (0, .ref (ρ 0)), (1, .int (nI w))]) hx hb kd_mea_29 rfl hl (by decide) rfl (fun ls hl => ?_)
    refine lv_aload_n hx hb kd_mea_30 rfl (lv_at hl 1 rfl) ?_
    refine lg_get (pl := 0) (ci := 9) (k := 2) (q := (5, 2)) (n9 := 525) (C0.lw hk hD) hP.down (by decide +kernel) rfl rfl kd_mea_31 ?_
    refine lg_get (pl := 2) (ci := 8) (k := 0) (q := (3, 1)) (n9 := 323) (C0.lw hk hD) hP.down (by decide +kernel) rfl rfl kd_mea_34 ?_
    refine lg_get (pl := 3) (ci := 2) (k := 0) (q := (0, 0)) (n9 := 161) (C0.lw hk hD) hP.down (by decide +kernel) rfl rfl kd_mea_37 ?_
    refine lv_aload_n hx hb kd_mea_40 rfl (lv_at hl 1 rfl) ?_
    refine lg_get (pl := 0) (ci := 9) (k := 2) (q := (5, 2)) (n9 := 525) (C0.lw hk hD) hP.down (by decide +kernel) rfl rfl kd_mea_41 ?_
    refine lg_get (pl := 2) (ci := 8) (k := 0) (q := (3, 1)) (n9 := 323) (C0.lw hk hD) hP.down (by decide +kernel) rfl rfl kd_mea_44 ?_
    refine lg_get (pl := 3) (ci := 2) (k := 1) (q := (0, 0)) (n9 := 165) (C0.lw hk hD) hP.down (by decide +kernel) rfl rfl kd_mea_47 ?_
    refine W.eq (g2 := F0 m 50 ls [.int (nI (σ 1)), .int (nI (σ 0))]) (by show F0 m 50 ls [.int (M.1 3 1), .int (M.1 3 0)] = _; rw [hLk.2.2.2.1 0 (by decide), hLk.2.2.2.1 1 (by decide)]) ?_
    refine lv_imul hx hb kd_mea_50 ?_
    rw [show nI (σ 0) * nI (σ 1) = nI (σ 0 * σ 1) from n_mul rfl rfl]
    refine lv_istore_n (lv' := [(3, .int (nI (σ 0 * σ 1))), (2, .int (nI (aiN σ 64))), (0, .ref (ρ 0)), (1, .int (nI w))]) hx hb kd_mea_51 rfl hl (by decide) rfl (fun ls hl => ?_)
    refine lv_iload_n hx hb kd_mea_52 rfl (lv_at hl 0 rfl) ?_
    refine lv_iload_n hx hb kd_mea_53 rfl (lv_at hl 1 rfl) ?_
    refine lg_callS (d := 0) (ix := 237) (n9 := 1509) (j := 9) (n := 2) (As := [.int (nI (σ 0 * σ 1)), .int (nI (aiN σ 64))]) (v := .int (nI (Nat.gcd (σ 0 * σ 1) (aiN σ 64)))) (st := []) (C0.lw hk hD) (by decide +kernel) rfl (Nat.le_of_ble_eq_true rfl) (Nat.zero_le _) ⟨Nat.le_of_ble_eq_true rfl, ?_⟩ ⟨Nat.zero_le _, Nat.zero_le _⟩ kd_mea_54 rfl hl.1 hP.down hS (c_i_greatestDivisor 0 M (σ 0 * σ 1) (aiN σ 64) (by omega) (by omega) (by omega)) (fun H1 locs1 hP1 hS1 hkp => ?_)
    · have h9 := (mok_sp 9 (by decide)).1.2.2.2.1
      show 8 + (mL 9 + 11) + 200 * 3 ≤ 2400
      omega
    replace hP := hP1.up
    replace hS := hS1
    clear hP1 hS1 hkp
    generalize hG : Nat.gcd (σ 0 * σ 1) (aiN σ 64) = G at g9 g8
    refine lv_istore (lv' := [(4, .int (nI G)), (3, .int (nI (σ 0 * σ 1))), (2, .int (nI (aiN σ 64))), (0, .ref (ρ 0)), (1, .int (nI w))]) hx hb kd_mea_57 hl (by decide) (by rw [← hG]; rfl) (fun ls hl => ?_)
    refine lv_iload_n hx hb kd_mea_59 rfl (lv_at hl 4 rfl) ?_
    refine lv_if_ne (tgt := 67) hx hb kd_mea_60 (by decide) (fun h9 => ?_) (fun h9 => ?_)
    · have hw1 : ¬ w = 0 := fun e9 => h9 (by rw [e9]; rfl)
      refine lv_iload_n hx hb kd_mea_67 rfl (lv_at hl 1 rfl) ?_
      refine lv_iload hx hb kd_mea_68 (lv_at hl 0 rfl) ?_
      refine lv_idiv hx hb kd_mea_70 (n_ne0 rfl (by omega) (by omega)) ?_
      rw [show nI (σ 0 * σ 1) / nI G = nI (meaA σ w) from by rw [n_div rfl rfl (by omega) (by omega) (by omega)]; unfold meaA; rw [if_neg hw1, hG]]
      exact k_iret C0 hr hlocks hP hD hS ⟨rfl, rfl⟩ ⟨Nat.zero_le _, Nat.zero_le _⟩ kd_mea_71
    · have hw1 : w = 0 := nI_inj0 (by omega) h9
      refine lv_iload_n hx hb kd_mea_63 rfl (lv_at hl 2 rfl) ?_
      refine lv_goto (tgt := 68) hx hb kd_mea_64 (by decide) ?_
      refine lv_iload hx hb kd_mea_68 (lv_at hl 0 rfl) ?_
      refine lv_idiv hx hb kd_mea_70 (n_ne0 rfl (by omega) (by omega)) ?_
      rw [show nI (aiN σ 64) / nI G = nI (meaA σ w) from by rw [n_div rfl rfl (by omega) (by omega) (by omega)]; unfold meaA; rw [if_pos hw1, hG]]
      exact k_iret C0 hr hlocks hP hD hS ⟨rfl, rfl⟩ ⟨Nat.zero_le _, Nat.zero_le _⟩ kd_mea_71
  refine lv_iload_n hx hb kd_mea_0 rfl (lv_at hl 1 rfl) ?_
  refine lv_if_eq (tgt := 19) hx hb kd_mea_1 (by decide) (fun _ => go) (fun h9 => ?_)
  have hw1 : w = 1 := by
    have : ¬ w = 0 := fun e9 => h9 (by rw [e9]; rfl)
    omega
  refine lv_iload_n hx hb kd_mea_4 rfl (lv_at hl 1 rfl) ?_
  refine lv_iconst (v := nI 1) hx hb kd_mea_5 (by decide) ?_
  exact lv_icmp_eq (tgt := 19) hx hb kd_mea_6 (by decide) (fun _ => go) (fun h8 => absurd (by rw [hw1]) h8)
set_option maxHeartbeats 4000000 in
set_option maxRecDepth 100000 in
theorem c_meaX {l : Launch} {κ : Nat → Nat} {D : va_G} {tA : Nat → ClassId} (hl9 : l.stackTraces = false) (ρ : Nat → Nat) (M : Mm) (w : Int32) (hns : ¬ ((nI 0).toInt ≤ w.toInt ∧ w.toInt ≤ (nI 1).toInt)) : Cth l κ D tA ky_mea kc_mea 5 (some FieldType.int) 12 2 12 [.ref (ρ 0), .int w] (wl ρ tA M) := by
  refine Cth.of rfl (Nat.le_of_ble_eq_true rfl) ?_
  intro p e s m args below meth c A ls C0 hr hlocks hout hP hD hS hl
  have hx := C0.1
  have hb := C0.2.1
  have hT := C0.2.2.2.2.2.2.2.2.2.2.1.2.2.2
  have hl : lv_has ls 5 [(0, .ref (ρ 0)), (1, .int w)] := hl
  refine lv_iload_n hx hb kd_mea_0 rfl (lv_at hl 1 rfl) ?_
  refine lv_if_eq (tgt := 19) hx hb kd_mea_1 (by decide) (fun h9 => absurd ⟨by rw [h9]; decide, by rw [h9]; decide⟩ hns) (fun h9 => ?_)
  refine lv_iload_n hx hb kd_mea_4 rfl (lv_at hl 1 rfl) ?_
  refine lv_iconst (v := nI 1) hx hb kd_mea_5 (by decide) ?_
  refine lv_icmp_eq (tgt := 19) hx hb kd_mea_6 (by decide) (fun h9 => absurd ⟨by rw [h9]; decide, by rw [h9]; decide⟩ hns) (fun h8 => ?_)
  obtain ⟨-, -, ⟨sa, hm9⟩⟩ := hT
  exact ns_throw (C0 := C0) hl9 hm9 hP hS hl.1 kd_mea_9 kd_mea_12 kd_mea_13 kd_mea_15 kd_mea_18 hout ⟨Nat.le_of_ble_eq_true rfl, Nat.le_of_ble_eq_true rfl⟩ ⟨Nat.le_of_ble_eq_true rfl, Nat.le_of_ble_eq_true rfl⟩ hlocks (Nat.le_of_ble_eq_true rfl) (Nat.le_of_ble_eq_true rfl)
