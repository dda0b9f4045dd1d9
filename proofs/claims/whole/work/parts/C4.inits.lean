/-! Constructors of what holds others. Printed by wip/whole/pF1.py. -/
def scW (κ : Nat → Nat) (tA : Nat → ClassId) (z0 z1 z2 z3 z4 z5 z6 z7 z8 z9 z10 z11 z12 : Nat) : va_W := [(z0, .inr (8, [.ref z1, .ref z4, .ref z9])), (z1, .inr (2, [.int 5, .int 5, .int 0, .int 2, .int 1, .int 5, .int 3, .int 6, .ref z2, .ref z3])), (z2, .inl (tA 3, 6, .inr (.inl (fun _ => 0)))), (z3, .inl (tA 0, 6, .inl (fun _ => 0))), (z4, .inr (5, [.ref z1, .ref z5, .ref z6, .ref z7, .ref z8, .int 0, .int 0, .int 0, .int 0, .int 0, .int 0, .int 0, .int 0])), (z5, .inl (tA 0, 64, .inl (fun _ => 5))), (z6, .inl (tA 0, 6, .inl (fun _ => 0))), (z7, .inl (tA 0, 6, .inl (fun _ => 0))), (z8, .inl (tA 0, 6, .inl (fun _ => 0))), (z9, .inr (4, [.ref z10, .ref z11, .ref z12, .int 0, .int 0])), (z10, .inl (tA 4, 40, .inr (.inr (.inr (.inr (fun _ => some (κ 100000))))))), (z11, .inl (tA 4, 40, .inr (.inr (.inr (.inr (fun _ => some (κ 100000))))))), (z12, .inl (tA 0, 40, .inl (fun _ => 0)))]
def stW (tA : Nat → ClassId) (lk z0 z1 z2 z3 z4 : Nat) : va_W := [(z0, .inr (5, [.ref lk, .ref z1, .ref z2, .ref z3, .ref z4, .int 0, .int 0, .int 0, .int 0, .int 0, .int 0, .int 0, .int 0])), (z1, .inl (tA 0, 64, .inl (fun _ => 5))), (z2, .inl (tA 0, 6, .inl (fun _ => 0))), (z3, .inl (tA 0, 6, .inl (fun _ => 0))), (z4, .inl (tA 0, 6, .inl (fun _ => 0)))]
abbrev kc_scin : ByteArray := prog_8_method_1_code
def ky_scin : MethodName := ⟨"IceManners$Scene", "<init>", "()V"⟩
set_option maxRecDepth 100000 in
theorem kd_scin_0 : decode kc_scin 0 = .ok (.aload_n 0, 1) := by decide +kernel
set_option maxRecDepth 100000 in
theorem kd_scin_1 : decode kc_scin 1 = .ok (.invokespecial 1, 3) := by decide +kernel
set_option maxRecDepth 100000 in
theorem kd_scin_4 : decode kc_scin 4 = .ok (.aload_n 0, 1) := by decide +kernel
set_option maxRecDepth 100000 in
theorem kd_scin_5 : decode kc_scin 5 = .ok (.new 7, 3) := by decide +kernel
set_option maxRecDepth 100000 in
theorem kd_scin_8 : decode kc_scin 8 = .ok (.dup, 1) := by decide +kernel
set_option maxRecDepth 100000 in
theorem kd_scin_9 : decode kc_scin 9 = .ok (.invokespecial 9, 3) := by decide +kernel
set_option maxRecDepth 100000 in
theorem kd_scin_12 : decode kc_scin 12 = .ok (.putfield 10, 3) := by decide +kernel
set_option maxRecDepth 100000 in
theorem kd_scin_15 : decode kc_scin 15 = .ok (.aload_n 0, 1) := by decide +kernel
set_option maxRecDepth 100000 in
theorem kd_scin_16 : decode kc_scin 16 = .ok (.new 16, 3) := by decide +kernel
set_option maxRecDepth 100000 in
theorem kd_scin_19 : decode kc_scin 19 = .ok (.dup, 1) := by decide +kernel
set_option maxRecDepth 100000 in
theorem kd_scin_20 : decode kc_scin 20 = .ok (.aload_n 0, 1) := by decide +kernel
set_option maxRecDepth 100000 in
theorem kd_scin_21 : decode kc_scin 21 = .ok (.getfield 10, 3) := by decide +kernel
set_option maxRecDepth 100000 in
theorem kd_scin_24 : decode kc_scin 24 = .ok (.invokespecial 18, 3) := by decide +kernel
set_option maxRecDepth 100000 in
theorem kd_scin_27 : decode kc_scin 27 = .ok (.putfield 21, 3) := by decide +kernel
set_option maxRecDepth 100000 in
theorem kd_scin_30 : decode kc_scin 30 = .ok (.aload_n 0, 1) := by decide +kernel
set_option maxRecDepth 100000 in
theorem kd_scin_31 : decode kc_scin 31 = .ok (.new 25, 3) := by decide +kernel
set_option maxRecDepth 100000 in
theorem kd_scin_34 : decode kc_scin 34 = .ok (.dup, 1) := by decide +kernel
set_option maxRecDepth 100000 in
theorem kd_scin_35 : decode kc_scin 35 = .ok (.invokespecial 27, 3) := by decide +kernel
set_option maxRecDepth 100000 in
theorem kd_scin_38 : decode kc_scin 38 = .ok (.putfield 28, 3) := by decide +kernel
set_option maxRecDepth 100000 in
theorem kd_scin_41 : decode kc_scin 41 = .ok (.return_, 1) := by decide +kernel
set_option maxHeartbeats 4000000 in
set_option maxRecDepth 100000 in
theorem n_scin {l : Launch} {κ : Nat → Nat} {D : va_G} {tA : Nat → ClassId} (a : Nat) : Ct l κ D tA ky_scin kc_scin 1 none 3 20 400 [.ref a] [(a, .inr (8, [.null, .null, .null]))] (fun r w => ∃ q1 q2 q3 q4 q5 q6 q7 q8 q9 q10 q11 q12, r = none ∧ w = scW κ tA a q1 q2 q3 q4 q5 q6 q7 q8 q9 q10 q11 q12) := by
  refine Ct.of rfl (Nat.le_of_ble_eq_true rfl) ?_
  intro p e s m args below meth c A ls C0 hr hlocks hin hP hD hS hl
  obtain ⟨hx, hb, hml, hown, hts, hK, hA, hI⟩ := id C0
  have hl : lv_has ls 1 [(0, .ref a)] := hl
  have hin : meth.name = "<init>" := hin
  refine lv_aload_n hx hb kd_scin_0 rfl (lv_at hl 0 rfl) ?_
  refine k_obj (n1 := 148) C0 (by decide +kernel) hl.1 ⟨Nat.le_of_ble_eq_true rfl, Nat.le_of_ble_eq_true rfl⟩ kd_scin_1 ?_
  refine lv_aload_n hx hb kd_scin_4 rfl (lv_at hl 0 rfl) ?_
  refine k_new (ci := 2) (fs := [.int 0, .int 0, .int 0, .int 0, .int 0, .int 0, .int 0, .int 0, .null, .null]) (n1 := 149) (n2 := 150) (n3 := 107) C0 hP hD hS rfl (by decide +kernel) (by decide +kernel) ⟨Nat.le_of_ble_eq_true rfl, Nat.le_of_ble_eq_true rfl⟩ kd_scin_5 (fun q1 H hP hD hS => ?_)
  have hP : va_P D clx [(a, .inr (8, [.null, .null, .null])), (q1, .inr (2, [.int 0, .int 0, .int 0, .int 0, .int 0, .int 0, .int 0, .int 0, .null, .null]))] H := hP
  have hD : va_D A [(a, .inr (8, [.null, .null, .null])), (q1, .inr (2, [.int 0, .int 0, .int 0, .int 0, .int 0, .int 0, .int 0, .int 0, .null, .null]))] := hD
  refine lv_dup hx hb kd_scin_8 rfl ?_
  refine k_callI (n := 0) (n1 := 151) (n2 := 152) (n4 := 107) (n5 := 153) (As := []) (rest := [.ref q1, .ref a]) (wr := [(a, .inr (8, [.null, .null, .null]))]) C0 (n_lkin q1) (by decide +kernel) hP hD hS [1] [0] rfl rfl rfl rfl (by decide) hl.1 rfl (Nat.le_of_ble_eq_true rfl) ⟨Nat.le_of_ble_eq_true rfl, Nat.le_of_ble_eq_true rfl⟩ ⟨Nat.le_of_ble_eq_true rfl, Nat.le_of_ble_eq_true rfl⟩ kd_scin_9 rfl (fun r w1 H locs hQ hP hD hS => ?_)
  obtain ⟨q2, q3, rfl, rfl⟩ := hQ
  have hP : va_P D clx [(a, .inr (8, [.null, .null, .null])), (q1, .inr (2, [.int 5, .int 5, .int 0, .int 2, .int 1, .int 5, .int 3, .int 6, .ref q2, .ref q3])), (q2, .inl (tA 3, 6, .inr (.inl (fun _ => 0)))), (q3, .inl (tA 0, 6, .inl (fun _ => 0)))] H := hP
  have hD : va_D A [(a, .inr (8, [.null, .null, .null])), (q1, .inr (2, [.int 5, .int 5, .int 0, .int 2, .int 1, .int 5, .int 3, .int 6, .ref q2, .ref q3])), (q2, .inl (tA 3, 6, .inr (.inl (fun _ => 0)))), (q3, .inl (tA 0, 6, .inl (fun _ => 0)))] := hD
  refine k_putF (k := 0) (v := .ref q1) C0 hin hP hD hS 0 322 rfl (by decide +kernel) rfl rfl (Nat.le_of_ble_eq_true rfl) kd_scin_12 (fun H locs hP hD hS => ?_)
  have hP : va_P D clx [(a, .inr (8, [.ref q1, .null, .null])), (q1, .inr (2, [.int 5, .int 5, .int 0, .int 2, .int 1, .int 5, .int 3, .int 6, .ref q2, .ref q3])), (q2, .inl (tA 3, 6, .inr (.inl (fun _ => 0)))), (q3, .inl (tA 0, 6, .inl (fun _ => 0)))] H := hP
  have hD : va_D A [(a, .inr (8, [.ref q1, .null, .null])), (q1, .inr (2, [.int 5, .int 5, .int 0, .int 2, .int 1, .int 5, .int 3, .int 6, .ref q2, .ref q3])), (q2, .inl (tA 3, 6, .inr (.inl (fun _ => 0)))), (q3, .inl (tA 0, 6, .inl (fun _ => 0)))] := hD
  refine lv_aload_n hx hb kd_scin_15 rfl (lv_at hl 0 rfl) ?_
  refine k_new (ci := 5) (fs := [.null, .null, .null, .null, .null, .int 0, .int 0, .int 0, .int 0, .int 0, .int 0, .int 0, .int 0]) (n1 := 222) (n2 := 223) (n3 := 108) C0 hP hD hS rfl (by decide +kernel) (by decide +kernel) ⟨Nat.le_of_ble_eq_true rfl, Nat.le_of_ble_eq_true rfl⟩ kd_scin_16 (fun q4 H hP hD hS => ?_)
  have hP : va_P D clx [(a, .inr (8, [.ref q1, .null, .null])), (q1, .inr (2, [.int 5, .int 5, .int 0, .int 2, .int 1, .int 5, .int 3, .int 6, .ref q2, .ref q3])), (q2, .inl (tA 3, 6, .inr (.inl (fun _ => 0)))), (q3, .inl (tA 0, 6, .inl (fun _ => 0))), (q4, .inr (5, [.null, .null, .null, .null, .null, .int 0, .int 0, .int 0, .int 0, .int 0, .int 0, .int 0, .int 0]))] H := hP
  have hD : va_D A [(a, .inr (8, [.ref q1, .null, .null])), (q1, .inr (2, [.int 5, .int 5, .int 0, .int 2, .int 1, .int 5, .int 3, .int 6, .ref q2, .ref q3])), (q2, .inl (tA 3, 6, .inr (.inl (fun _ => 0)))), (q3, .inl (tA 0, 6, .inl (fun _ => 0))), (q4, .inr (5, [.null, .null, .null, .null, .null, .int 0, .int 0, .int 0, .int 0, .int 0, .int 0, .int 0, .int 0]))] := hD
  refine lv_dup hx hb kd_scin_19 rfl ?_
  refine lv_aload_n hx hb kd_scin_20 rfl (lv_at hl 0 rfl) ?_
  refine k_get (k := 0) (v := .ref q1) C0 hP 0 322 rfl (by decide +kernel) rfl kd_scin_21 ?_
  refine k_callI (n := 1) (n1 := 224) (n2 := 225) (n4 := 108) (n5 := 226) (As := [.ref q1]) (rest := [.ref q4, .ref a]) (wr := [(a, .inr (8, [.ref q1, .null, .null])), (q1, .inr (2, [.int 5, .int 5, .int 0, .int 2, .int 1, .int 5, .int 3, .int 6, .ref q2, .ref q3])), (q2, .inl (tA 3, 6, .inr (.inl (fun _ => 0)))), (q3, .inl (tA 0, 6, .inl (fun _ => 0)))]) C0 (n_stin q4 q1) (by decide +kernel) hP hD hS [4] [0, 1, 2, 3] rfl rfl rfl rfl (by decide) hl.1 rfl (Nat.le_of_ble_eq_true rfl) ⟨Nat.le_of_ble_eq_true rfl, Nat.le_of_ble_eq_true rfl⟩ ⟨Nat.le_of_ble_eq_true rfl, Nat.le_of_ble_eq_true rfl⟩ kd_scin_24 rfl (fun r w1 H locs hQ hP hD hS => ?_)
  obtain ⟨q5, q6, q7, q8, rfl, rfl⟩ := hQ
  have hP : va_P D clx [(a, .inr (8, [.ref q1, .null, .null])), (q1, .inr (2, [.int 5, .int 5, .int 0, .int 2, .int 1, .int 5, .int 3, .int 6, .ref q2, .ref q3])), (q2, .inl (tA 3, 6, .inr (.inl (fun _ => 0)))), (q3, .inl (tA 0, 6, .inl (fun _ => 0))), (q4, .inr (5, [.ref q1, .ref q5, .ref q6, .ref q7, .ref q8, .int 0, .int 0, .int 0, .int 0, .int 0, .int 0, .int 0, .int 0])), (q5, .inl (tA 0, 64, .inl (fun _ => 5))), (q6, .inl (tA 0, 6, .inl (fun _ => 0))), (q7, .inl (tA 0, 6, .inl (fun _ => 0))), (q8, .inl (tA 0, 6, .inl (fun _ => 0)))] H := hP
  have hD : va_D A [(a, .inr (8, [.ref q1, .null, .null])), (q1, .inr (2, [.int 5, .int 5, .int 0, .int 2, .int 1, .int 5, .int 3, .int 6, .ref q2, .ref q3])), (q2, .inl (tA 3, 6, .inr (.inl (fun _ => 0)))), (q3, .inl (tA 0, 6, .inl (fun _ => 0))), (q4, .inr (5, [.ref q1, .ref q5, .ref q6, .ref q7, .ref q8, .int 0, .int 0, .int 0, .int 0, .int 0, .int 0, .int 0, .int 0])), (q5, .inl (tA 0, 64, .inl (fun _ => 5))), (q6, .inl (tA 0, 6, .inl (fun _ => 0))), (q7, .inl (tA 0, 6, .inl (fun _ => 0))), (q8, .inl (tA 0, 6, .inl (fun _ => 0)))] := hD
  refine k_putF (k := 1) (v := .ref q4) C0 hin hP hD hS 0 325 rfl (by decide +kernel) rfl rfl (Nat.le_of_ble_eq_true rfl) kd_scin_27 (fun H locs hP hD hS => ?_)
  have hP : va_P D clx [(a, .inr (8, [.ref q1, .ref q4, .null])), (q1, .inr (2, [.int 5, .int 5, .int 0, .int 2, .int 1, .int 5, .int 3, .int 6, .ref q2, .ref q3])), (q2, .inl (tA 3, 6, .inr (.inl (fun _ => 0)))), (q3, .inl (tA 0, 6, .inl (fun _ => 0))), (q4, .inr (5, [.ref q1, .ref q5, .ref q6, .ref q7, .ref q8, .int 0, .int 0, .int 0, .int 0, .int 0, .int 0, .int 0, .int 0])), (q5, .inl (tA 0, 64, .inl (fun _ => 5))), (q6, .inl (tA 0, 6, .inl (fun _ => 0))), (q7, .inl (tA 0, 6, .inl (fun _ => 0))), (q8, .inl (tA 0, 6, .inl (fun _ => 0)))] H := hP
  have hD : va_D A [(a, .inr (8, [.ref q1, .ref q4, .null])), (q1, .inr (2, [.int 5, .int 5, .int 0, .int 2, .int 1, .int 5, .int 3, .int 6, .ref q2, .ref q3])), (q2, .inl (tA 3, 6, .inr (.inl (fun _ => 0)))), (q3, .inl (tA 0, 6, .inl (fun _ => 0))), (q4, .inr (5, [.ref q1, .ref q5, .ref q6, .ref q7, .ref q8, .int 0, .int 0, .int 0, .int 0, .int 0, .int 0, .int 0, .int 0])), (q5, .inl (tA 0, 64, .inl (fun _ => 5))), (q6, .inl (tA 0, 6, .inl (fun _ => 0))), (q7, .inl (tA 0, 6, .inl (fun _ => 0))), (q8, .inl (tA 0, 6, .inl (fun _ => 0)))] := hD
  refine lv_aload_n hx hb kd_scin_30 rfl (lv_at hl 0 rfl) ?_
  refine k_new (ci := 4) (fs := [.null, .null, .null, .int 0, .int 0]) (n1 := 295) (n2 := 296) (n3 := 110) C0 hP hD hS rfl (by decide +kernel) (by decide +kernel) ⟨Nat.le_of_ble_eq_true rfl, Nat.le_of_ble_eq_true rfl⟩ kd_scin_31 (fun q9 H hP hD hS => ?_)
  have hP : va_P D clx [(a, .inr (8, [.ref q1, .ref q4, .null])), (q1, .inr (2, [.int 5, .int 5, .int 0, .int 2, .int 1, .int 5, .int 3, .int 6, .ref q2, .ref q3])), (q2, .inl (tA 3, 6, .inr (.inl (fun _ => 0)))), (q3, .inl (tA 0, 6, .inl (fun _ => 0))), (q4, .inr (5, [.ref q1, .ref q5, .ref q6, .ref q7, .ref q8, .int 0, .int 0, .int 0, .int 0, .int 0, .int 0, .int 0, .int 0])), (q5, .inl (tA 0, 64, .inl (fun _ => 5))), (q6, .inl (tA 0, 6, .inl (fun _ => 0))), (q7, .inl (tA 0, 6, .inl (fun _ => 0))), (q8, .inl (tA 0, 6, .inl (fun _ => 0))), (q9, .inr (4, [.null, .null, .null, .int 0, .int 0]))] H := hP
  have hD : va_D A [(a, .inr (8, [.ref q1, .ref q4, .null])), (q1, .inr (2, [.int 5, .int 5, .int 0, .int 2, .int 1, .int 5, .int 3, .int 6, .ref q2, .ref q3])), (q2, .inl (tA 3, 6, .inr (.inl (fun _ => 0)))), (q3, .inl (tA 0, 6, .inl (fun _ => 0))), (q4, .inr (5, [.ref q1, .ref q5, .ref q6, .ref q7, .ref q8, .int 0, .int 0, .int 0, .int 0, .int 0, .int 0, .int 0, .int 0])), (q5, .inl (tA 0, 64, .inl (fun _ => 5))), (q6, .inl (tA 0, 6, .inl (fun _ => 0))), (q7, .inl (tA 0, 6, .inl (fun _ => 0))), (q8, .inl (tA 0, 6, .inl (fun _ => 0))), (q9, .inr (4, [.null, .null, .null, .int 0, .int 0]))] := hD
  refine lv_dup hx hb kd_scin_34 rfl ?_
  refine k_callI (n := 0) (n1 := 297) (n2 := 298) (n4 := 110) (n5 := 299) (As := []) (rest := [.ref q9, .ref a]) (wr := [(a, .inr (8, [.ref q1, .ref q4, .null])), (q1, .inr (2, [.int 5, .int 5, .int 0, .int 2, .int 1, .int 5, .int 3, .int 6, .ref q2, .ref q3])), (q2, .inl (tA 3, 6, .inr (.inl (fun _ => 0)))), (q3, .inl (tA 0, 6, .inl (fun _ => 0))), (q4, .inr (5, [.ref q1, .ref q5, .ref q6, .ref q7, .ref q8, .int 0, .int 0, .int 0, .int 0, .int 0, .int 0, .int 0, .int 0])), (q5, .inl (tA 0, 64, .inl (fun _ => 5))), (q6, .inl (tA 0, 6, .inl (fun _ => 0))), (q7, .inl (tA 0, 6, .inl (fun _ => 0))), (q8, .inl (tA 0, 6, .inl (fun _ => 0)))]) C0 (n_snin q9) (by decide +kernel) hP hD hS [9] [0, 1, 2, 3, 4, 5, 6, 7, 8] rfl rfl rfl rfl (by decide) hl.1 rfl (Nat.le_of_ble_eq_true rfl) ⟨Nat.le_of_ble_eq_true rfl, Nat.le_of_ble_eq_true rfl⟩ ⟨Nat.le_of_ble_eq_true rfl, Nat.le_of_ble_eq_true rfl⟩ kd_scin_35 rfl (fun r w1 H locs hQ hP hD hS => ?_)
  obtain ⟨q10, q11, q12, rfl, rfl⟩ := hQ
  have hP : va_P D clx [(a, .inr (8, [.ref q1, .ref q4, .null])), (q1, .inr (2, [.int 5, .int 5, .int 0, .int 2, .int 1, .int 5, .int 3, .int 6, .ref q2, .ref q3])), (q2, .inl (tA 3, 6, .inr (.inl (fun _ => 0)))), (q3, .inl (tA 0, 6, .inl (fun _ => 0))), (q4, .inr (5, [.ref q1, .ref q5, .ref q6, .ref q7, .ref q8, .int 0, .int 0, .int 0, .int 0, .int 0, .int 0, .int 0, .int 0])), (q5, .inl (tA 0, 64, .inl (fun _ => 5))), (q6, .inl (tA 0, 6, .inl (fun _ => 0))), (q7, .inl (tA 0, 6, .inl (fun _ => 0))), (q8, .inl (tA 0, 6, .inl (fun _ => 0))), (q9, .inr (4, [.ref q10, .ref q11, .ref q12, .int 0, .int 0])), (q10, .inl (tA 4, 40, .inr (.inr (.inr (.inr (fun _ => some (κ 100000))))))), (q11, .inl (tA 4, 40, .inr (.inr (.inr (.inr (fun _ => some (κ 100000))))))), (q12, .inl (tA 0, 40, .inl (fun _ => 0)))] H := hP
  have hD : va_D A [(a, .inr (8, [.ref q1, .ref q4, .null])), (q1, .inr (2, [.int 5, .int 5, .int 0, .int 2, .int 1, .int 5, .int 3, .int 6, .ref q2, .ref q3])), (q2, .inl (tA 3, 6, .inr (.inl (fun _ => 0)))), (q3, .inl (tA 0, 6, .inl (fun _ => 0))), (q4, .inr (5, [.ref q1, .ref q5, .ref q6, .ref q7, .ref q8, .int 0, .int 0, .int 0, .int 0, .int 0, .int 0, .int 0, .int 0])), (q5, .inl (tA 0, 64, .inl (fun _ => 5))), (q6, .inl (tA 0, 6, .inl (fun _ => 0))), (q7, .inl (tA 0, 6, .inl (fun _ => 0))), (q8, .inl (tA 0, 6, .inl (fun _ => 0))), (q9, .inr (4, [.ref q10, .ref q11, .ref q12, .int 0, .int 0])), (q10, .inl (tA 4, 40, .inr (.inr (.inr (.inr (fun _ => some (κ 100000))))))), (q11, .inl (tA 4, 40, .inr (.inr (.inr (.inr (fun _ => some (κ 100000))))))), (q12, .inl (tA 0, 40, .inl (fun _ => 0)))] := hD
  refine k_putF (k := 2) (v := .ref q9) C0 hin hP hD hS 0 328 rfl (by decide +kernel) rfl rfl (Nat.le_of_ble_eq_true rfl) kd_scin_38 (fun H locs hP hD hS => ?_)
  have hP : va_P D clx [(a, .inr (8, [.ref q1, .ref q4, .ref q9])), (q1, .inr (2, [.int 5, .int 5, .int 0, .int 2, .int 1, .int 5, .int 3, .int 6, .ref q2, .ref q3])), (q2, .inl (tA 3, 6, .inr (.inl (fun _ => 0)))), (q3, .inl (tA 0, 6, .inl (fun _ => 0))), (q4, .inr (5, [.ref q1, .ref q5, .ref q6, .ref q7, .ref q8, .int 0, .int 0, .int 0, .int 0, .int 0, .int 0, .int 0, .int 0])), (q5, .inl (tA 0, 64, .inl (fun _ => 5))), (q6, .inl (tA 0, 6, .inl (fun _ => 0))), (q7, .inl (tA 0, 6, .inl (fun _ => 0))), (q8, .inl (tA 0, 6, .inl (fun _ => 0))), (q9, .inr (4, [.ref q10, .ref q11, .ref q12, .int 0, .int 0])), (q10, .inl (tA 4, 40, .inr (.inr (.inr (.inr (fun _ => some (κ 100000))))))), (q11, .inl (tA 4, 40, .inr (.inr (.inr (.inr (fun _ => some (κ 100000))))))), (q12, .inl (tA 0, 40, .inl (fun _ => 0)))] H := hP
  have hD : va_D A [(a, .inr (8, [.ref q1, .ref q4, .ref q9])), (q1, .inr (2, [.int 5, .int 5, .int 0, .int 2, .int 1, .int 5, .int 3, .int 6, .ref q2, .ref q3])), (q2, .inl (tA 3, 6, .inr (.inl (fun _ => 0)))), (q3, .inl (tA 0, 6, .inl (fun _ => 0))), (q4, .inr (5, [.ref q1, .ref q5, .ref q6, .ref q7, .ref q8, .int 0, .int 0, .int 0, .int 0, .int 0, .int 0, .int 0, .int 0])), (q5, .inl (tA 0, 64, .inl (fun _ => 5))), (q6, .inl (tA 0, 6, .inl (fun _ => 0))), (q7, .inl (tA 0, 6, .inl (fun _ => 0))), (q8, .inl (tA 0, 6, .inl (fun _ => 0))), (q9, .inr (4, [.ref q10, .ref q11, .ref q12, .int 0, .int 0])), (q10, .inl (tA 4, 40, .inr (.inr (.inr (.inr (fun _ => some (κ 100000))))))), (q11, .inl (tA 4, 40, .inr (.inr (.inr (.inr (fun _ => some (κ 100000))))))), (q12, .inl (tA 0, 40, .inl (fun _ => 0)))] := hD
  replace hP : va_P D clx (scW κ tA a q1 q2 q3 q4 q5 q6 q7 q8 q9 q10 q11 q12) H := hP
  replace hD : va_D A (scW κ tA a q1 q2 q3 q4 q5 q6 q7 q8 q9 q10 q11 q12) := hD
  exact k_vret C0 hr hlocks hP hD hS ⟨q1, q2, q3, q4, q5, q6, q7, q8, q9, q10, q11, q12, rfl, rfl⟩ ⟨Nat.le_of_ble_eq_true rfl, Nat.le_of_ble_eq_true rfl⟩ kd_scin_41
abbrev kc_hyin : ByteArray := prog_4_method_1_code
def ky_hyin : MethodName := ⟨"IceManners$History", "<init>", "(LIceManners$Lake;)V"⟩
set_option maxRecDepth 100000 in
theorem kd_hyin_0 : decode kc_hyin 0 = .ok (.aload_n 0, 1) := by decide +kernel
set_option maxRecDepth 100000 in
theorem kd_hyin_1 : decode kc_hyin 1 = .ok (.invokespecial 1, 3) := by decide +kernel
set_option maxRecDepth 100000 in
theorem kd_hyin_4 : decode kc_hyin 4 = .ok (.aload_n 0, 1) := by decide +kernel
set_option maxRecDepth 100000 in
theorem kd_hyin_5 : decode kc_hyin 5 = .ok (.bipush 8, 2) := by decide +kernel
set_option maxRecDepth 100000 in
theorem kd_hyin_7 : decode kc_hyin 7 = .ok (.anewarray 9, 3) := by decide +kernel
set_option maxRecDepth 100000 in
theorem kd_hyin_10 : decode kc_hyin 10 = .ok (.putfield 11, 3) := by decide +kernel
set_option maxRecDepth 100000 in
theorem kd_hyin_13 : decode kc_hyin 13 = .ok (.iconst 0, 1) := by decide +kernel
set_option maxRecDepth 100000 in
theorem kd_hyin_14 : decode kc_hyin 14 = .ok (.istore_n 2, 1) := by decide +kernel
set_option maxRecDepth 100000 in
theorem kd_hyin_15 : decode kc_hyin 15 = .ok (.iload_n 2, 1) := by decide +kernel
set_option maxRecDepth 100000 in
theorem kd_hyin_16 : decode kc_hyin 16 = .ok (.bipush 8, 2) := by decide +kernel
set_option maxRecDepth 100000 in
theorem kd_hyin_18 : decode kc_hyin 18 = .ok (.if_icmp .ge 23, 3) := by decide +kernel
set_option maxRecDepth 100000 in
theorem kd_hyin_21 : decode kc_hyin 21 = .ok (.aload_n 0, 1) := by decide +kernel
set_option maxRecDepth 100000 in
theorem kd_hyin_22 : decode kc_hyin 22 = .ok (.getfield 11, 3) := by decide +kernel
set_option maxRecDepth 100000 in
theorem kd_hyin_25 : decode kc_hyin 25 = .ok (.iload_n 2, 1) := by decide +kernel
set_option maxRecDepth 100000 in
theorem kd_hyin_26 : decode kc_hyin 26 = .ok (.new 9, 3) := by decide +kernel
set_option maxRecDepth 100000 in
theorem kd_hyin_29 : decode kc_hyin 29 = .ok (.dup, 1) := by decide +kernel
set_option maxRecDepth 100000 in
theorem kd_hyin_30 : decode kc_hyin 30 = .ok (.aload_n 1, 1) := by decide +kernel
set_option maxRecDepth 100000 in
theorem kd_hyin_31 : decode kc_hyin 31 = .ok (.invokespecial 15, 3) := by decide +kernel
set_option maxRecDepth 100000 in
theorem kd_hyin_34 : decode kc_hyin 34 = .ok (.aastore, 1) := by decide +kernel
set_option maxRecDepth 100000 in
theorem kd_hyin_35 : decode kc_hyin 35 = .ok (.iinc 2 1, 3) := by decide +kernel
set_option maxRecDepth 100000 in
theorem kd_hyin_38 : decode kc_hyin 38 = .ok (.goto (-23), 3) := by decide +kernel
set_option maxRecDepth 100000 in
theorem kd_hyin_41 : decode kc_hyin 41 = .ok (.return_, 1) := by decide +kernel
set_option maxHeartbeats 4000000 in
set_option maxRecDepth 100000 in
theorem n_hyin {l : Launch} {κ : Nat → Nat} {D : va_G} {tA : Nat → ClassId} (a lk : Nat) : Ct l κ D tA ky_hyin kc_hyin 3 none 3 50 1000 [.ref a, .ref lk] [(a, .inr (1, [.null, .int 0, .int 0]))] (fun r w => ∃ hr_ h0_0 h0_1 h0_2 h0_3 h0_4 h1_0 h1_1 h1_2 h1_3 h1_4 h2_0 h2_1 h2_2 h2_3 h2_4 h3_0 h3_1 h3_2 h3_3 h3_4 h4_0 h4_1 h4_2 h4_3 h4_4 h5_0 h5_1 h5_2 h5_3 h5_4 h6_0 h6_1 h6_2 h6_3 h6_4 h7_0 h7_1 h7_2 h7_3 h7_4, r = none ∧ w = ([(a, .inr (1, [.ref hr_, .int 0, .int 0])), (hr_, .inl (tA 5, 8, .inr (.inr (.inr (.inr (va_up (va_up (va_up (va_up (va_up (va_up (va_up (va_up (fun _ => none) 0 (some h0_0)) 1 (some h1_0)) 2 (some h2_0)) 3 (some h3_0)) 4 (some h4_0)) 5 (some h5_0)) 6 (some h6_0)) 7 (some h7_0)))))))] ++ (stW tA lk h0_0 h0_1 h0_2 h0_3 h0_4 ++ (stW tA lk h1_0 h1_1 h1_2 h1_3 h1_4 ++ (stW tA lk h2_0 h2_1 h2_2 h2_3 h2_4 ++ (stW tA lk h3_0 h3_1 h3_2 h3_3 h3_4 ++ (stW tA lk h4_0 h4_1 h4_2 h4_3 h4_4 ++ (stW tA lk h5_0 h5_1 h5_2 h5_3 h5_4 ++ (stW tA lk h6_0 h6_1 h6_2 h6_3 h6_4 ++ (stW tA lk h7_0 h7_1 h7_2 h7_3 h7_4)))))))))) := by
  refine Ct.of rfl (Nat.le_of_ble_eq_true rfl) ?_
  intro p e s m args below meth c A ls C0 hr hlocks hin hP hD hS hl
  obtain ⟨hx, hb, hml, hown, hts, hK, hA, hI⟩ := id C0
  have hl : lv_has ls 3 [(0, .ref a), (1, .ref lk)] := hl
  have hin : meth.name = "<init>" := hin
  refine lv_aload_n hx hb kd_hyin_0 rfl (lv_at hl 0 rfl) ?_
  refine k_obj (n1 := 345) C0 (by decide +kernel) hl.1 ⟨Nat.le_of_ble_eq_true rfl, Nat.le_of_ble_eq_true rfl⟩ kd_hyin_1 ?_
  refine lv_aload_n hx hb kd_hyin_4 rfl (lv_at hl 0 rfl) ?_
  refine lv_bipush (v := 8) hx hb kd_hyin_5 (by decide) ?_
  refine k_newq (N' := 8) (t := 5) (n1 := 346) C0 hP hD hS (by decide +kernel) hI.2.2.2.2.2.1 rfl (by rfl) (by decide) ⟨Nat.le_of_ble_eq_true rfl, Nat.le_of_ble_eq_true rfl⟩ kd_hyin_7 (fun hr_ H hP hD hS => ?_)
  have hP : va_P D clx [(a, .inr (1, [.null, .int 0, .int 0])), (hr_, .inl (tA 5, 8, .inr (.inr (.inr (.inr (fun _ => none))))))] H := hP
  have hD : va_D A [(a, .inr (1, [.null, .int 0, .int 0])), (hr_, .inl (tA 5, 8, .inr (.inr (.inr (.inr (fun _ => none))))))] := hD
  refine k_putF (k := 0) (v := .ref hr_) C0 hin hP hD hS 0 349 rfl (by decide +kernel) rfl rfl (Nat.le_of_ble_eq_true rfl) kd_hyin_10 (fun H locs hP hD hS => ?_)
  have hP : va_P D clx [(a, .inr (1, [.ref hr_, .int 0, .int 0])), (hr_, .inl (tA 5, 8, .inr (.inr (.inr (.inr (fun _ => none))))))] H := hP
  have hD : va_D A [(a, .inr (1, [.ref hr_, .int 0, .int 0])), (hr_, .inl (tA 5, 8, .inr (.inr (.inr (.inr (fun _ => none))))))] := hD
  refine lv_iconst (v := 0) hx hb kd_hyin_13 (by decide) ?_
  refine lv_istore_n (lv' := [(2, .int 0), (0, .ref a), (1, .ref lk)]) hx hb kd_hyin_14 rfl hl (by decide) rfl (fun ls hl => ?_)
  refine lv_iload_n hx hb kd_hyin_15 rfl (lv_at hl 0 rfl) ?_
  refine lv_bipush (v := 8) hx hb kd_hyin_16 (by decide) ?_
  refine lv_icmp_ge (tgt := 41) hx hb kd_hyin_18 (by decide) (fun h9 => absurd h9 (by decide)) (fun h9 => ?_)
  refine lv_aload_n hx hb kd_hyin_21 rfl (lv_at hl 1 rfl) ?_
  refine k_get (k := 0) (v := .ref hr_) C0 hP 0 349 rfl (by decide +kernel) rfl kd_hyin_22 ?_
  refine lv_iload_n hx hb kd_hyin_25 rfl (lv_at hl 0 rfl) ?_
  refine k_new (ci := 5) (fs := [.null, .null, .null, .null, .null, .int 0, .int 0, .int 0, .int 0, .int 0, .int 0, .int 0, .int 0]) (n1 := 346) (n2 := 223) (n3 := 108) C0 hP hD hS rfl (by decide +kernel) (by decide +kernel) ⟨Nat.le_of_ble_eq_true rfl, Nat.le_of_ble_eq_true rfl⟩ kd_hyin_26 (fun h0_0 H hP hD hS => ?_)
  have hP : va_P D clx [(a, .inr (1, [.ref hr_, .int 0, .int 0])), (hr_, .inl (tA 5, 8, .inr (.inr (.inr (.inr (fun _ => none)))))), (h0_0, .inr (5, [.null, .null, .null, .null, .null, .int 0, .int 0, .int 0, .int 0, .int 0, .int 0, .int 0, .int 0]))] H := hP
  have hD : va_D A [(a, .inr (1, [.ref hr_, .int 0, .int 0])), (hr_, .inl (tA 5, 8, .inr (.inr (.inr (.inr (fun _ => none)))))), (h0_0, .inr (5, [.null, .null, .null, .null, .null, .int 0, .int 0, .int 0, .int 0, .int 0, .int 0, .int 0, .int 0]))] := hD
  refine lv_dup hx hb kd_hyin_29 rfl ?_
  refine lv_aload_n hx hb kd_hyin_30 rfl (lv_at hl 2 rfl) ?_
  refine k_callI (n := 1) (n1 := 348) (n2 := 225) (n4 := 108) (n5 := 226) (As := [.ref lk]) (rest := [.ref h0_0, .int 0, .ref hr_]) (wr := [(a, .inr (1, [.ref hr_, .int 0, .int 0])), (hr_, .inl (tA 5, 8, .inr (.inr (.inr (.inr (fun _ => none))))))]) C0 (n_stin h0_0 lk) (by decide +kernel) hP hD hS [2] [0, 1] rfl rfl rfl rfl (by decide) hl.1 rfl (Nat.le_of_ble_eq_true rfl) ⟨Nat.le_of_ble_eq_true rfl, Nat.le_of_ble_eq_true rfl⟩ ⟨Nat.le_of_ble_eq_true rfl, Nat.le_of_ble_eq_true rfl⟩ kd_hyin_31 rfl (fun r w1 H locs hQ hP hD hS => ?_)
  obtain ⟨h0_1, h0_2, h0_3, h0_4, rfl, rfl⟩ := hQ
  have hP : va_P D clx ([(a, .inr (1, [.ref hr_, .int 0, .int 0])), (hr_, .inl (tA 5, 8, .inr (.inr (.inr (.inr (fun _ => none))))))] ++ (stW tA lk h0_0 h0_1 h0_2 h0_3 h0_4)) H := hP
  have hD : va_D A ([(a, .inr (1, [.ref hr_, .int 0, .int 0])), (hr_, .inl (tA 5, 8, .inr (.inr (.inr (.inr (fun _ => none))))))] ++ (stW tA lk h0_0 h0_1 h0_2 h0_3 h0_4)) := hD
  refine k_oast (t0 := 5) (r := (cR5, cT5, 13)) C0 hP hD hS 1 2 rfl rfl rfl rfl (by unfold vp_in; decide) kd_hyin_34 (fun H locs hP hD hS => ?_)
  have hP : va_P D clx ([(a, .inr (1, [.ref hr_, .int 0, .int 0])), (hr_, .inl (tA 5, 8, .inr (.inr (.inr (.inr (va_up (fun _ => none) 0 (some h0_0)))))))] ++ (stW tA lk h0_0 h0_1 h0_2 h0_3 h0_4)) H := hP
  have hD : va_D A ([(a, .inr (1, [.ref hr_, .int 0, .int 0])), (hr_, .inl (tA 5, 8, .inr (.inr (.inr (.inr (va_up (fun _ => none) 0 (some h0_0)))))))] ++ (stW tA lk h0_0 h0_1 h0_2 h0_3 h0_4)) := hD
  refine lv_iinc (v := 1) (lv' := [(2, .int 1), (0, .ref a), (1, .ref lk)]) hx hb kd_hyin_35 hl (k := 0) rfl (by rfl) (by decide) rfl (fun ls hl => ?_)
  refine lv_goto (tgt := 15) hx hb kd_hyin_38 (by decide) ?_
  refine lv_iload_n hx hb kd_hyin_15 rfl (lv_at hl 0 rfl) ?_
  refine lv_bipush (v := 8) hx hb kd_hyin_16 (by decide) ?_
  refine lv_icmp_ge (tgt := 41) hx hb kd_hyin_18 (by decide) (fun h9 => absurd h9 (by decide)) (fun h9 => ?_)
  refine lv_aload_n hx hb kd_hyin_21 rfl (lv_at hl 1 rfl) ?_
  refine k_get (k := 0) (v := .ref hr_) C0 hP 0 349 rfl (by decide +kernel) rfl kd_hyin_22 ?_
  refine lv_iload_n hx hb kd_hyin_25 rfl (lv_at hl 0 rfl) ?_
  refine k_new (ci := 5) (fs := [.null, .null, .null, .null, .null, .int 0, .int 0, .int 0, .int 0, .int 0, .int 0, .int 0, .int 0]) (n1 := 346) (n2 := 223) (n3 := 108) C0 hP hD hS rfl (by decide +kernel) (by decide +kernel) ⟨Nat.le_of_ble_eq_true rfl, Nat.le_of_ble_eq_true rfl⟩ kd_hyin_26 (fun h1_0 H hP hD hS => ?_)
  have hP : va_P D clx ([(a, .inr (1, [.ref hr_, .int 0, .int 0])), (hr_, .inl (tA 5, 8, .inr (.inr (.inr (.inr (va_up (fun _ => none) 0 (some h0_0)))))))] ++ (stW tA lk h0_0 h0_1 h0_2 h0_3 h0_4 ++ ([(h1_0, .inr (5, [.null, .null, .null, .null, .null, .int 0, .int 0, .int 0, .int 0, .int 0, .int 0, .int 0, .int 0]))]))) H := hP
  have hD : va_D A ([(a, .inr (1, [.ref hr_, .int 0, .int 0])), (hr_, .inl (tA 5, 8, .inr (.inr (.inr (.inr (va_up (fun _ => none) 0 (some h0_0)))))))] ++ (stW tA lk h0_0 h0_1 h0_2 h0_3 h0_4 ++ ([(h1_0, .inr (5, [.null, .null, .null, .null, .null, .int 0, .int 0, .int 0, .int 0, .int 0, .int 0, .int 0, .int 0]))]))) := hD
  refine lv_dup hx hb kd_hyin_29 rfl ?_
  refine lv_aload_n hx hb kd_hyin_30 rfl (lv_at hl 2 rfl) ?_
  refine k_callI (n := 1) (n1 := 348) (n2 := 225) (n4 := 108) (n5 := 226) (As := [.ref lk]) (rest := [.ref h1_0, .int 1, .ref hr_]) (wr := ([(a, .inr (1, [.ref hr_, .int 0, .int 0])), (hr_, .inl (tA 5, 8, .inr (.inr (.inr (.inr (va_up (fun _ => none) 0 (some h0_0)))))))] ++ (stW tA lk h0_0 h0_1 h0_2 h0_3 h0_4))) C0 (n_stin h1_0 lk) (by decide +kernel) hP hD hS [7] [0, 1, 2, 3, 4, 5, 6] rfl rfl rfl rfl (by decide) hl.1 rfl (Nat.le_of_ble_eq_true rfl) ⟨Nat.le_of_ble_eq_true rfl, Nat.le_of_ble_eq_true rfl⟩ ⟨Nat.le_of_ble_eq_true rfl, Nat.le_of_ble_eq_true rfl⟩ kd_hyin_31 rfl (fun r w1 H locs hQ hP hD hS => ?_)
  obtain ⟨h1_1, h1_2, h1_3, h1_4, rfl, rfl⟩ := hQ
  have hP : va_P D clx ([(a, .inr (1, [.ref hr_, .int 0, .int 0])), (hr_, .inl (tA 5, 8, .inr (.inr (.inr (.inr (va_up (fun _ => none) 0 (some h0_0)))))))] ++ (stW tA lk h0_0 h0_1 h0_2 h0_3 h0_4 ++ (stW tA lk h1_0 h1_1 h1_2 h1_3 h1_4))) H := hP
  have hD : va_D A ([(a, .inr (1, [.ref hr_, .int 0, .int 0])), (hr_, .inl (tA 5, 8, .inr (.inr (.inr (.inr (va_up (fun _ => none) 0 (some h0_0)))))))] ++ (stW tA lk h0_0 h0_1 h0_2 h0_3 h0_4 ++ (stW tA lk h1_0 h1_1 h1_2 h1_3 h1_4))) := hD
  refine k_oast (t0 := 5) (r := (cR5, cT5, 13)) C0 hP hD hS 1 7 rfl rfl rfl rfl (by unfold vp_in; decide) kd_hyin_34 (fun H locs hP hD hS => ?_)
  have hP : va_P D clx ([(a, .inr (1, [.ref hr_, .int 0, .int 0])), (hr_, .inl (tA 5, 8, .inr (.inr (.inr (.inr (va_up (va_up (fun _ => none) 0 (some h0_0)) 1 (some h1_0)))))))] ++ (stW tA lk h0_0 h0_1 h0_2 h0_3 h0_4 ++ (stW tA lk h1_0 h1_1 h1_2 h1_3 h1_4))) H := hP
  have hD : va_D A ([(a, .inr (1, [.ref hr_, .int 0, .int 0])), (hr_, .inl (tA 5, 8, .inr (.inr (.inr (.inr (va_up (va_up (fun _ => none) 0 (some h0_0)) 1 (some h1_0)))))))] ++ (stW tA lk h0_0 h0_1 h0_2 h0_3 h0_4 ++ (stW tA lk h1_0 h1_1 h1_2 h1_3 h1_4))) := hD
  refine lv_iinc (v := 2) (lv' := [(2, .int 2), (0, .ref a), (1, .ref lk)]) hx hb kd_hyin_35 hl (k := 0) rfl (by rfl) (by decide) rfl (fun ls hl => ?_)
  refine lv_goto (tgt := 15) hx hb kd_hyin_38 (by decide) ?_
  refine lv_iload_n hx hb kd_hyin_15 rfl (lv_at hl 0 rfl) ?_
  refine lv_bipush (v := 8) hx hb kd_hyin_16 (by decide) ?_
  refine lv_icmp_ge (tgt := 41) hx hb kd_hyin_18 (by decide) (fun h9 => absurd h9 (by decide)) (fun h9 => ?_)
  refine lv_aload_n hx hb kd_hyin_21 rfl (lv_at hl 1 rfl) ?_
  refine k_get (k := 0) (v := .ref hr_) C0 hP 0 349 rfl (by decide +kernel) rfl kd_hyin_22 ?_
  refine lv_iload_n hx hb kd_hyin_25 rfl (lv_at hl 0 rfl) ?_
  refine k_new (ci := 5) (fs := [.null, .null, .null, .null, .null, .int 0, .int 0, .int 0, .int 0, .int 0, .int 0, .int 0, .int 0]) (n1 := 346) (n2 := 223) (n3 := 108) C0 hP hD hS rfl (by decide +kernel) (by decide +kernel) ⟨Nat.le_of_ble_eq_true rfl, Nat.le_of_ble_eq_true rfl⟩ kd_hyin_26 (fun h2_0 H hP hD hS => ?_)
  have hP : va_P D clx ([(a, .inr (1, [.ref hr_, .int 0, .int 0])), (hr_, .inl (tA 5, 8, .inr (.inr (.inr (.inr (va_up (va_up (fun _ => none) 0 (some h0_0)) 1 (some h1_0)))))))] ++ (stW tA lk h0_0 h0_1 h0_2 h0_3 h0_4 ++ (stW tA lk h1_0 h1_1 h1_2 h1_3 h1_4 ++ ([(h2_0, .inr (5, [.null, .null, .null, .null, .null, .int 0, .int 0, .int 0, .int 0, .int 0, .int 0, .int 0, .int 0]))])))) H := hP
  have hD : va_D A ([(a, .inr (1, [.ref hr_, .int 0, .int 0])), (hr_, .inl (tA 5, 8, .inr (.inr (.inr (.inr (va_up (va_up (fun _ => none) 0 (some h0_0)) 1 (some h1_0)))))))] ++ (stW tA lk h0_0 h0_1 h0_2 h0_3 h0_4 ++ (stW tA lk h1_0 h1_1 h1_2 h1_3 h1_4 ++ ([(h2_0, .inr (5, [.null, .null, .null, .null, .null, .int 0, .int 0, .int 0, .int 0, .int 0, .int 0, .int 0, .int 0]))])))) := hD
  refine lv_dup hx hb kd_hyin_29 rfl ?_
  refine lv_aload_n hx hb kd_hyin_30 rfl (lv_at hl 2 rfl) ?_
  refine k_callI (n := 1) (n1 := 348) (n2 := 225) (n4 := 108) (n5 := 226) (As := [.ref lk]) (rest := [.ref h2_0, .int 2, .ref hr_]) (wr := ([(a, .inr (1, [.ref hr_, .int 0, .int 0])), (hr_, .inl (tA 5, 8, .inr (.inr (.inr (.inr (va_up (va_up (fun _ => none) 0 (some h0_0)) 1 (some h1_0)))))))] ++ (stW tA lk h0_0 h0_1 h0_2 h0_3 h0_4 ++ (stW tA lk h1_0 h1_1 h1_2 h1_3 h1_4)))) C0 (n_stin h2_0 lk) (by decide +kernel) hP hD hS [12] [0, 1, 2, 3, 4, 5, 6, 7, 8, 9, 10, 11] rfl rfl rfl rfl (by decide) hl.1 rfl (Nat.le_of_ble_eq_true rfl) ⟨Nat.le_of_ble_eq_true rfl, Nat.le_of_ble_eq_true rfl⟩ ⟨Nat.le_of_ble_eq_true rfl, Nat.le_of_ble_eq_true rfl⟩ kd_hyin_31 rfl (fun r w1 H locs hQ hP hD hS => ?_)
  obtain ⟨h2_1, h2_2, h2_3, h2_4, rfl, rfl⟩ := hQ
  have hP : va_P D clx ([(a, .inr (1, [.ref hr_, .int 0, .int 0])), (hr_, .inl (tA 5, 8, .inr (.inr (.inr (.inr (va_up (va_up (fun _ => none) 0 (some h0_0)) 1 (some h1_0)))))))] ++ (stW tA lk h0_0 h0_1 h0_2 h0_3 h0_4 ++ (stW tA lk h1_0 h1_1 h1_2 h1_3 h1_4 ++ (stW tA lk h2_0 h2_1 h2_2 h2_3 h2_4)))) H := hP
  have hD : va_D A ([(a, .inr (1, [.ref hr_, .int 0, .int 0])), (hr_, .inl (tA 5, 8, .inr (.inr (.inr (.inr (va_up (va_up (fun _ => none) 0 (some h0_0)) 1 (some h1_0)))))))] ++ (stW tA lk h0_0 h0_1 h0_2 h0_3 h0_4 ++ (stW tA lk h1_0 h1_1 h1_2 h1_3 h1_4 ++ (stW tA lk h2_0 h2_1 h2_2 h2_3 h2_4)))) := hD
  refine k_oast (t0 := 5) (r := (cR5, cT5, 13)) C0 hP hD hS 1 12 rfl rfl rfl rfl (by unfold vp_in; decide) kd_hyin_34 (fun H locs hP hD hS => ?_)
  have hP : va_P D clx ([(a, .inr (1, [.ref hr_, .int 0, .int 0])), (hr_, .inl (tA 5, 8, .inr (.inr (.inr (.inr (va_up (va_up (va_up (fun _ => none) 0 (some h0_0)) 1 (some h1_0)) 2 (some h2_0)))))))] ++ (stW tA lk h0_0 h0_1 h0_2 h0_3 h0_4 ++ (stW tA lk h1_0 h1_1 h1_2 h1_3 h1_4 ++ (stW tA lk h2_0 h2_1 h2_2 h2_3 h2_4)))) H := hP
  have hD : va_D A ([(a, .inr (1, [.ref hr_, .int 0, .int 0])), (hr_, .inl (tA 5, 8, .inr (.inr (.inr (.inr (va_up (va_up (va_up (fun _ => none) 0 (some h0_0)) 1 (some h1_0)) 2 (some h2_0)))))))] ++ (stW tA lk h0_0 h0_1 h0_2 h0_3 h0_4 ++ (stW tA lk h1_0 h1_1 h1_2 h1_3 h1_4 ++ (stW tA lk h2_0 h2_1 h2_2 h2_3 h2_4)))) := hD
  refine lv_iinc (v := 3) (lv' := [(2, .int 3), (0, .ref a), (1, .ref lk)]) hx hb kd_hyin_35 hl (k := 0) rfl (by rfl) (by decide) rfl (fun ls hl => ?_)
  refine lv_goto (tgt := 15) hx hb kd_hyin_38 (by decide) ?_
  refine lv_iload_n hx hb kd_hyin_15 rfl (lv_at hl 0 rfl) ?_
  refine lv_bipush (v := 8) hx hb kd_hyin_16 (by decide) ?_
  refine lv_icmp_ge (tgt := 41) hx hb kd_hyin_18 (by decide) (fun h9 => absurd h9 (by decide)) (fun h9 => ?_)
  refine lv_aload_n hx hb kd_hyin_21 rfl (lv_at hl 1 rfl) ?_
  refine k_get (k := 0) (v := .ref hr_) C0 hP 0 349 rfl (by decide +kernel) rfl kd_hyin_22 ?_
  refine lv_iload_n hx hb kd_hyin_25 rfl (lv_at hl 0 rfl) ?_
  refine k_new (ci := 5) (fs := [.null, .null, .null, .null, .null, .int 0, .int 0, .int 0, .int 0, .int 0, .int 0, .int 0, .int 0]) (n1 := 346) (n2 := 223) (n3 := 108) C0 hP hD hS rfl (by decide +kernel) (by decide +kernel) ⟨Nat.le_of_ble_eq_true rfl, Nat.le_of_ble_eq_true rfl⟩ kd_hyin_26 (fun h3_0 H hP hD hS => ?_)
  have hP : va_P D clx ([(a, .inr (1, [.ref hr_, .int 0, .int 0])), (hr_, .inl (tA 5, 8, .inr (.inr (.inr (.inr (va_up (va_up (va_up (fun _ => none) 0 (some h0_0)) 1 (some h1_0)) 2 (some h2_0)))))))] ++ (stW tA lk h0_0 h0_1 h0_2 h0_3 h0_4 ++ (stW tA lk h1_0 h1_1 h1_2 h1_3 h1_4 ++ (stW tA lk h2_0 h2_1 h2_2 h2_3 h2_4 ++ ([(h3_0, .inr (5, [.null, .null, .null, .null, .null, .int 0, .int 0, .int 0, .int 0, .int 0, .int 0, .int 0, .int 0]))]))))) H := hP
  have hD : va_D A ([(a, .inr (1, [.ref hr_, .int 0, .int 0])), (hr_, .inl (tA 5, 8, .inr (.inr (.inr (.inr (va_up (va_up (va_up (fun _ => none) 0 (some h0_0)) 1 (some h1_0)) 2 (some h2_0)))))))] ++ (stW tA lk h0_0 h0_1 h0_2 h0_3 h0_4 ++ (stW tA lk h1_0 h1_1 h1_2 h1_3 h1_4 ++ (stW tA lk h2_0 h2_1 h2_2 h2_3 h2_4 ++ ([(h3_0, .inr (5, [.null, .null, .null, .null, .null, .int 0, .int 0, .int 0, .int 0, .int 0, .int 0, .int 0, .int 0]))]))))) := hD
  refine lv_dup hx hb kd_hyin_29 rfl ?_
  refine lv_aload_n hx hb kd_hyin_30 rfl (lv_at hl 2 rfl) ?_
  refine k_callI (n := 1) (n1 := 348) (n2 := 225) (n4 := 108) (n5 := 226) (As := [.ref lk]) (rest := [.ref h3_0, .int 3, .ref hr_]) (wr := ([(a, .inr (1, [.ref hr_, .int 0, .int 0])), (hr_, .inl (tA 5, 8, .inr (.inr (.inr (.inr (va_up (va_up (va_up (fun _ => none) 0 (some h0_0)) 1 (some h1_0)) 2 (some h2_0)))))))] ++ (stW tA lk h0_0 h0_1 h0_2 h0_3 h0_4 ++ (stW tA lk h1_0 h1_1 h1_2 h1_3 h1_4 ++ (stW tA lk h2_0 h2_1 h2_2 h2_3 h2_4))))) C0 (n_stin h3_0 lk) (by decide +kernel) hP hD hS [17] [0, 1, 2, 3, 4, 5, 6, 7, 8, 9, 10, 11, 12, 13, 14, 15, 16] rfl rfl rfl rfl (by decide) hl.1 rfl (Nat.le_of_ble_eq_true rfl) ⟨Nat.le_of_ble_eq_true rfl, Nat.le_of_ble_eq_true rfl⟩ ⟨Nat.le_of_ble_eq_true rfl, Nat.le_of_ble_eq_true rfl⟩ kd_hyin_31 rfl (fun r w1 H locs hQ hP hD hS => ?_)
  obtain ⟨h3_1, h3_2, h3_3, h3_4, rfl, rfl⟩ := hQ
  have hP : va_P D clx ([(a, .inr (1, [.ref hr_, .int 0, .int 0])), (hr_, .inl (tA 5, 8, .inr (.inr (.inr (.inr (va_up (va_up (va_up (fun _ => none) 0 (some h0_0)) 1 (some h1_0)) 2 (some h2_0)))))))] ++ (stW tA lk h0_0 h0_1 h0_2 h0_3 h0_4 ++ (stW tA lk h1_0 h1_1 h1_2 h1_3 h1_4 ++ (stW tA lk h2_0 h2_1 h2_2 h2_3 h2_4 ++ (stW tA lk h3_0 h3_1 h3_2 h3_3 h3_4))))) H := hP
  have hD : va_D A ([(a, .inr (1, [.ref hr_, .int 0, .int 0])), (hr_, .inl (tA 5, 8, .inr (.inr (.inr (.inr (va_up (va_up (va_up (fun _ => none) 0 (some h0_0)) 1 (some h1_0)) 2 (some h2_0)))))))] ++ (stW tA lk h0_0 h0_1 h0_2 h0_3 h0_4 ++ (stW tA lk h1_0 h1_1 h1_2 h1_3 h1_4 ++ (stW tA lk h2_0 h2_1 h2_2 h2_3 h2_4 ++ (stW tA lk h3_0 h3_1 h3_2 h3_3 h3_4))))) := hD
  refine k_oast (t0 := 5) (r := (cR5, cT5, 13)) C0 hP hD hS 1 17 rfl rfl rfl rfl (by unfold vp_in; decide) kd_hyin_34 (fun H locs hP hD hS => ?_)
  have hP : va_P D clx ([(a, .inr (1, [.ref hr_, .int 0, .int 0])), (hr_, .inl (tA 5, 8, .inr (.inr (.inr (.inr (va_up (va_up (va_up (va_up (fun _ => none) 0 (some h0_0)) 1 (some h1_0)) 2 (some h2_0)) 3 (some h3_0)))))))] ++ (stW tA lk h0_0 h0_1 h0_2 h0_3 h0_4 ++ (stW tA lk h1_0 h1_1 h1_2 h1_3 h1_4 ++ (stW tA lk h2_0 h2_1 h2_2 h2_3 h2_4 ++ (stW tA lk h3_0 h3_1 h3_2 h3_3 h3_4))))) H := hP
  have hD : va_D A ([(a, .inr (1, [.ref hr_, .int 0, .int 0])), (hr_, .inl (tA 5, 8, .inr (.inr (.inr (.inr (va_up (va_up (va_up (va_up (fun _ => none) 0 (some h0_0)) 1 (some h1_0)) 2 (some h2_0)) 3 (some h3_0)))))))] ++ (stW tA lk h0_0 h0_1 h0_2 h0_3 h0_4 ++ (stW tA lk h1_0 h1_1 h1_2 h1_3 h1_4 ++ (stW tA lk h2_0 h2_1 h2_2 h2_3 h2_4 ++ (stW tA lk h3_0 h3_1 h3_2 h3_3 h3_4))))) := hD
  refine lv_iinc (v := 4) (lv' := [(2, .int 4), (0, .ref a), (1, .ref lk)]) hx hb kd_hyin_35 hl (k := 0) rfl (by rfl) (by decide) rfl (fun ls hl => ?_)
  refine lv_goto (tgt := 15) hx hb kd_hyin_38 (by decide) ?_
  refine lv_iload_n hx hb kd_hyin_15 rfl (lv_at hl 0 rfl) ?_
  refine lv_bipush (v := 8) hx hb kd_hyin_16 (by decide) ?_
  refine lv_icmp_ge (tgt := 41) hx hb kd_hyin_18 (by decide) (fun h9 => absurd h9 (by decide)) (fun h9 => ?_)
  refine lv_aload_n hx hb kd_hyin_21 rfl (lv_at hl 1 rfl) ?_
  refine k_get (k := 0) (v := .ref hr_) C0 hP 0 349 rfl (by decide +kernel) rfl kd_hyin_22 ?_
  refine lv_iload_n hx hb kd_hyin_25 rfl (lv_at hl 0 rfl) ?_
  refine k_new (ci := 5) (fs := [.null, .null, .null, .null, .null, .int 0, .int 0, .int 0, .int 0, .int 0, .int 0, .int 0, .int 0]) (n1 := 346) (n2 := 223) (n3 := 108) C0 hP hD hS rfl (by decide +kernel) (by decide +kernel) ⟨Nat.le_of_ble_eq_true rfl, Nat.le_of_ble_eq_true rfl⟩ kd_hyin_26 (fun h4_0 H hP hD hS => ?_)
  have hP : va_P D clx ([(a, .inr (1, [.ref hr_, .int 0, .int 0])), (hr_, .inl (tA 5, 8, .inr (.inr (.inr (.inr (va_up (va_up (va_up (va_up (fun _ => none) 0 (some h0_0)) 1 (some h1_0)) 2 (some h2_0)) 3 (some h3_0)))))))] ++ (stW tA lk h0_0 h0_1 h0_2 h0_3 h0_4 ++ (stW tA lk h1_0 h1_1 h1_2 h1_3 h1_4 ++ (stW tA lk h2_0 h2_1 h2_2 h2_3 h2_4 ++ (stW tA lk h3_0 h3_1 h3_2 h3_3 h3_4 ++ ([(h4_0, .inr (5, [.null, .null, .null, .null, .null, .int 0, .int 0, .int 0, .int 0, .int 0, .int 0, .int 0, .int 0]))])))))) H := hP
  have hD : va_D A ([(a, .inr (1, [.ref hr_, .int 0, .int 0])), (hr_, .inl (tA 5, 8, .inr (.inr (.inr (.inr (va_up (va_up (va_up (va_up (fun _ => none) 0 (some h0_0)) 1 (some h1_0)) 2 (some h2_0)) 3 (some h3_0)))))))] ++ (stW tA lk h0_0 h0_1 h0_2 h0_3 h0_4 ++ (stW tA lk h1_0 h1_1 h1_2 h1_3 h1_4 ++ (stW tA lk h2_0 h2_1 h2_2 h2_3 h2_4 ++ (stW tA lk h3_0 h3_1 h3_2 h3_3 h3_4 ++ ([(h4_0, .inr (5, [.null, .null, .null, .null, .null, .int 0, .int 0, .int 0, .int 0, .int 0, .int 0, .int 0, .int 0]))])))))) := hD
  refine lv_dup hx hb kd_hyin_29 rfl ?_
  refine lv_aload_n hx hb kd_hyin_30 rfl (lv_at hl 2 rfl) ?_
  refine k_callI (n := 1) (n1 := 348) (n2 := 225) (n4 := 108) (n5 := 226) (As := [.ref lk]) (rest := [.ref h4_0, .int 4, .ref hr_]) (wr := ([(a, .inr (1, [.ref hr_, .int 0, .int 0])), (hr_, .inl (tA 5, 8, .inr (.inr (.inr (.inr (va_up (va_up (va_up (va_up (fun _ => none) 0 (some h0_0)) 1 (some h1_0)) 2 (some h2_0)) 3 (some h3_0)))))))] ++ (stW tA lk h0_0 h0_1 h0_2 h0_3 h0_4 ++ (stW tA lk h1_0 h1_1 h1_2 h1_3 h1_4 ++ (stW tA lk h2_0 h2_1 h2_2 h2_3 h2_4 ++ (stW tA lk h3_0 h3_1 h3_2 h3_3 h3_4)))))) C0 (n_stin h4_0 lk) (by decide +kernel) hP hD hS [22] [0, 1, 2, 3, 4, 5, 6, 7, 8, 9, 10, 11, 12, 13, 14, 15, 16, 17, 18, 19, 20, 21] rfl rfl rfl rfl (by decide) hl.1 rfl (Nat.le_of_ble_eq_true rfl) ⟨Nat.le_of_ble_eq_true rfl, Nat.le_of_ble_eq_true rfl⟩ ⟨Nat.le_of_ble_eq_true rfl, Nat.le_of_ble_eq_true rfl⟩ kd_hyin_31 rfl (fun r w1 H locs hQ hP hD hS => ?_)
  obtain ⟨h4_1, h4_2, h4_3, h4_4, rfl, rfl⟩ := hQ
  have hP : va_P D clx ([(a, .inr (1, [.ref hr_, .int 0, .int 0])), (hr_, .inl (tA 5, 8, .inr (.inr (.inr (.inr (va_up (va_up (va_up (va_up (fun _ => none) 0 (some h0_0)) 1 (some h1_0)) 2 (some h2_0)) 3 (some h3_0)))))))] ++ (stW tA lk h0_0 h0_1 h0_2 h0_3 h0_4 ++ (stW tA lk h1_0 h1_1 h1_2 h1_3 h1_4 ++ (stW tA lk h2_0 h2_1 h2_2 h2_3 h2_4 ++ (stW tA lk h3_0 h3_1 h3_2 h3_3 h3_4 ++ (stW tA lk h4_0 h4_1 h4_2 h4_3 h4_4)))))) H := hP
  have hD : va_D A ([(a, .inr (1, [.ref hr_, .int 0, .int 0])), (hr_, .inl (tA 5, 8, .inr (.inr (.inr (.inr (va_up (va_up (va_up (va_up (fun _ => none) 0 (some h0_0)) 1 (some h1_0)) 2 (some h2_0)) 3 (some h3_0)))))))] ++ (stW tA lk h0_0 h0_1 h0_2 h0_3 h0_4 ++ (stW tA lk h1_0 h1_1 h1_2 h1_3 h1_4 ++ (stW tA lk h2_0 h2_1 h2_2 h2_3 h2_4 ++ (stW tA lk h3_0 h3_1 h3_2 h3_3 h3_4 ++ (stW tA lk h4_0 h4_1 h4_2 h4_3 h4_4)))))) := hD
  refine k_oast (t0 := 5) (r := (cR5, cT5, 13)) C0 hP hD hS 1 22 rfl rfl rfl rfl (by unfold vp_in; decide) kd_hyin_34 (fun H locs hP hD hS => ?_)
  have hP : va_P D clx ([(a, .inr (1, [.ref hr_, .int 0, .int 0])), (hr_, .inl (tA 5, 8, .inr (.inr (.inr (.inr (va_up (va_up (va_up (va_up (va_up (fun _ => none) 0 (some h0_0)) 1 (some h1_0)) 2 (some h2_0)) 3 (some h3_0)) 4 (some h4_0)))))))] ++ (stW tA lk h0_0 h0_1 h0_2 h0_3 h0_4 ++ (stW tA lk h1_0 h1_1 h1_2 h1_3 h1_4 ++ (stW tA lk h2_0 h2_1 h2_2 h2_3 h2_4 ++ (stW tA lk h3_0 h3_1 h3_2 h3_3 h3_4 ++ (stW tA lk h4_0 h4_1 h4_2 h4_3 h4_4)))))) H := hP
  have hD : va_D A ([(a, .inr (1, [.ref hr_, .int 0, .int 0])), (hr_, .inl (tA 5, 8, .inr (.inr (.inr (.inr (va_up (va_up (va_up (va_up (va_up (fun _ => none) 0 (some h0_0)) 1 (some h1_0)) 2 (some h2_0)) 3 (some h3_0)) 4 (some h4_0)))))))] ++ (stW tA lk h0_0 h0_1 h0_2 h0_3 h0_4 ++ (stW tA lk h1_0 h1_1 h1_2 h1_3 h1_4 ++ (stW tA lk h2_0 h2_1 h2_2 h2_3 h2_4 ++ (stW tA lk h3_0 h3_1 h3_2 h3_3 h3_4 ++ (stW tA lk h4_0 h4_1 h4_2 h4_3 h4_4)))))) := hD
  refine lv_iinc (v := 5) (lv' := [(2, .int 5), (0, .ref a), (1, .ref lk)]) hx hb kd_hyin_35 hl (k := 0) rfl (by rfl) (by decide) rfl (fun ls hl => ?_)
  refine lv_goto (tgt := 15) hx hb kd_hyin_38 (by decide) ?_
  refine lv_iload_n hx hb kd_hyin_15 rfl (lv_at hl 0 rfl) ?_
  refine lv_bipush (v := 8) hx hb kd_hyin_16 (by decide) ?_
  refine lv_icmp_ge (tgt := 41) hx hb kd_hyin_18 (by decide) (fun h9 => absurd h9 (by decide)) (fun h9 => ?_)
  refine lv_aload_n hx hb kd_hyin_21 rfl (lv_at hl 1 rfl) ?_
  refine k_get (k := 0) (v := .ref hr_) C0 hP 0 349 rfl (by decide +kernel) rfl kd_hyin_22 ?_
  refine lv_iload_n hx hb kd_hyin_25 rfl (lv_at hl 0 rfl) ?_
  refine k_new (ci := 5) (fs := [.null, .null, .null, .null, .null, .int 0, .int 0, .int 0, .int 0, .int 0, .int 0, .int 0, .int 0]) (n1 := 346) (n2 := 223) (n3 := 108) C0 hP hD hS rfl (by decide +kernel) (by decide +kernel) ⟨Nat.le_of_ble_eq_true rfl, Nat.le_of_ble_eq_true rfl⟩ kd_hyin_26 (fun h5_0 H hP hD hS => ?_)
  have hP : va_P D clx ([(a, .inr (1, [.ref hr_, .int 0, .int 0])), (hr_, .inl (tA 5, 8, .inr (.inr (.inr (.inr (va_up (va_up (va_up (va_up (va_up (fun _ => none) 0 (some h0_0)) 1 (some h1_0)) 2 (some h2_0)) 3 (some h3_0)) 4 (some h4_0)))))))] ++ (stW tA lk h0_0 h0_1 h0_2 h0_3 h0_4 ++ (stW tA lk h1_0 h1_1 h1_2 h1_3 h1_4 ++ (stW tA lk h2_0 h2_1 h2_2 h2_3 h2_4 ++ (stW tA lk h3_0 h3_1 h3_2 h3_3 h3_4 ++ (stW tA lk h4_0 h4_1 h4_2 h4_3 h4_4 ++ ([(h5_0, .inr (5, [.null, .null, .null, .null, .null, .int 0, .int 0, .int 0, .int 0, .int 0, .int 0, .int 0, .int 0]))]))))))) H := hP
  have hD : va_D A ([(a, .inr (1, [.ref hr_, .int 0, .int 0])), (hr_, .inl (tA 5, 8, .inr (.inr (.inr (.inr (va_up (va_up (va_up (va_up (va_up (fun _ => none) 0 (some h0_0)) 1 (some h1_0)) 2 (some h2_0)) 3 (some h3_0)) 4 (some h4_0)))))))] ++ (stW tA lk h0_0 h0_1 h0_2 h0_3 h0_4 ++ (stW tA lk h1_0 h1_1 h1_2 h1_3 h1_4 ++ (stW tA lk h2_0 h2_1 h2_2 h2_3 h2_4 ++ (stW tA lk h3_0 h3_1 h3_2 h3_3 h3_4 ++ (stW tA lk h4_0 h4_1 h4_2 h4_3 h4_4 ++ ([(h5_0, .inr (5, [.null, .null, .null, .null, .null, .int 0, .int 0, .int 0, .int 0, .int 0, .int 0, .int 0, .int 0]))]))))))) := hD
  refine lv_dup hx hb kd_hyin_29 rfl ?_
  refine lv_aload_n hx hb kd_hyin_30 rfl (lv_at hl 2 rfl) ?_
  refine k_callI (n := 1) (n1 := 348) (n2 := 225) (n4 := 108) (n5 := 226) (As := [.ref lk]) (rest := [.ref h5_0, .int 5, .ref hr_]) (wr := ([(a, .inr (1, [.ref hr_, .int 0, .int 0])), (hr_, .inl (tA 5, 8, .inr (.inr (.inr (.inr (va_up (va_up (va_up (va_up (va_up (fun _ => none) 0 (some h0_0)) 1 (some h1_0)) 2 (some h2_0)) 3 (some h3_0)) 4 (some h4_0)))))))] ++ (stW tA lk h0_0 h0_1 h0_2 h0_3 h0_4 ++ (stW tA lk h1_0 h1_1 h1_2 h1_3 h1_4 ++ (stW tA lk h2_0 h2_1 h2_2 h2_3 h2_4 ++ (stW tA lk h3_0 h3_1 h3_2 h3_3 h3_4 ++ (stW tA lk h4_0 h4_1 h4_2 h4_3 h4_4))))))) C0 (n_stin h5_0 lk) (by decide +kernel) hP hD hS [27] [0, 1, 2, 3, 4, 5, 6, 7, 8, 9, 10, 11, 12, 13, 14, 15, 16, 17, 18, 19, 20, 21, 22, 23, 24, 25, 26] rfl rfl rfl rfl (by decide) hl.1 rfl (Nat.le_of_ble_eq_true rfl) ⟨Nat.le_of_ble_eq_true rfl, Nat.le_of_ble_eq_true rfl⟩ ⟨Nat.le_of_ble_eq_true rfl, Nat.le_of_ble_eq_true rfl⟩ kd_hyin_31 rfl (fun r w1 H locs hQ hP hD hS => ?_)
  obtain ⟨h5_1, h5_2, h5_3, h5_4, rfl, rfl⟩ := hQ
  have hP : va_P D clx ([(a, .inr (1, [.ref hr_, .int 0, .int 0])), (hr_, .inl (tA 5, 8, .inr (.inr (.inr (.inr (va_up (va_up (va_up (va_up (va_up (fun _ => none) 0 (some h0_0)) 1 (some h1_0)) 2 (some h2_0)) 3 (some h3_0)) 4 (some h4_0)))))))] ++ (stW tA lk h0_0 h0_1 h0_2 h0_3 h0_4 ++ (stW tA lk h1_0 h1_1 h1_2 h1_3 h1_4 ++ (stW tA lk h2_0 h2_1 h2_2 h2_3 h2_4 ++ (stW tA lk h3_0 h3_1 h3_2 h3_3 h3_4 ++ (stW tA lk h4_0 h4_1 h4_2 h4_3 h4_4 ++ (stW tA lk h5_0 h5_1 h5_2 h5_3 h5_4))))))) H := hP
  have hD : va_D A ([(a, .inr (1, [.ref hr_, .int 0, .int 0])), (hr_, .inl (tA 5, 8, .inr (.inr (.inr (.inr (va_up (va_up (va_up (va_up (va_up (fun _ => none) 0 (some h0_0)) 1 (some h1_0)) 2 (some h2_0)) 3 (some h3_0)) 4 (some h4_0)))))))] ++ (stW tA lk h0_0 h0_1 h0_2 h0_3 h0_4 ++ (stW tA lk h1_0 h1_1 h1_2 h1_3 h1_4 ++ (stW tA lk h2_0 h2_1 h2_2 h2_3 h2_4 ++ (stW tA lk h3_0 h3_1 h3_2 h3_3 h3_4 ++ (stW tA lk h4_0 h4_1 h4_2 h4_3 h4_4 ++ (stW tA lk h5_0 h5_1 h5_2 h5_3 h5_4))))))) := hD
  refine k_oast (t0 := 5) (r := (cR5, cT5, 13)) C0 hP hD hS 1 27 rfl rfl rfl rfl (by unfold vp_in; decide) kd_hyin_34 (fun H locs hP hD hS => ?_)
  have hP : va_P D clx ([(a, .inr (1, [.ref hr_, .int 0, .int 0])), (hr_, .inl (tA 5, 8, .inr (.inr (.inr (.inr (va_up (va_up (va_up (va_up (va_up (va_up (fun _ => none) 0 (some h0_0)) 1 (some h1_0)) 2 (some h2_0)) 3 (some h3_0)) 4 (some h4_0)) 5 (some h5_0)))))))] ++ (stW tA lk h0_0 h0_1 h0_2 h0_3 h0_4 ++ (stW tA lk h1_0 h1_1 h1_2 h1_3 h1_4 ++ (stW tA lk h2_0 h2_1 h2_2 h2_3 h2_4 ++ (stW tA lk h3_0 h3_1 h3_2 h3_3 h3_4 ++ (stW tA lk h4_0 h4_1 h4_2 h4_3 h4_4 ++ (stW tA lk h5_0 h5_1 h5_2 h5_3 h5_4))))))) H := hP
  have hD : va_D A ([(a, .inr (1, [.ref hr_, .int 0, .int 0])), (hr_, .inl (tA 5, 8, .inr (.inr (.inr (.inr (va_up (va_up (va_up (va_up (va_up (va_up (fun _ => none) 0 (some h0_0)) 1 (some h1_0)) 2 (some h2_0)) 3 (some h3_0)) 4 (some h4_0)) 5 (some h5_0)))))))] ++ (stW tA lk h0_0 h0_1 h0_2 h0_3 h0_4 ++ (stW tA lk h1_0 h1_1 h1_2 h1_3 h1_4 ++ (stW tA lk h2_0 h2_1 h2_2 h2_3 h2_4 ++ (stW tA lk h3_0 h3_1 h3_2 h3_3 h3_4 ++ (stW tA lk h4_0 h4_1 h4_2 h4_3 h4_4 ++ (stW tA lk h5_0 h5_1 h5_2 h5_3 h5_4))))))) := hD
  refine lv_iinc (v := 6) (lv' := [(2, .int 6), (0, .ref a), (1, .ref lk)]) hx hb kd_hyin_35 hl (k := 0) rfl (by rfl) (by decide) rfl (fun ls hl => ?_)
  refine lv_goto (tgt := 15) hx hb kd_hyin_38 (by decide) ?_
  refine lv_iload_n hx hb kd_hyin_15 rfl (lv_at hl 0 rfl) ?_
  refine lv_bipush (v := 8) hx hb kd_hyin_16 (by decide) ?_
  refine lv_icmp_ge (tgt := 41) hx hb kd_hyin_18 (by decide) (fun h9 => absurd h9 (by decide)) (fun h9 => ?_)
  refine lv_aload_n hx hb kd_hyin_21 rfl (lv_at hl 1 rfl) ?_
  refine k_get (k := 0) (v := .ref hr_) C0 hP 0 349 rfl (by decide +kernel) rfl kd_hyin_22 ?_
  refine lv_iload_n hx hb kd_hyin_25 rfl (lv_at hl 0 rfl) ?_
  refine k_new (ci := 5) (fs := [.null, .null, .null, .null, .null, .int 0, .int 0, .int 0, .int 0, .int 0, .int 0, .int 0, .int 0]) (n1 := 346) (n2 := 223) (n3 := 108) C0 hP hD hS rfl (by decide +kernel) (by decide +kernel) ⟨Nat.le_of_ble_eq_true rfl, Nat.le_of_ble_eq_true rfl⟩ kd_hyin_26 (fun h6_0 H hP hD hS => ?_)
  have hP : va_P D clx ([(a, .inr (1, [.ref hr_, .int 0, .int 0])), (hr_, .inl (tA 5, 8, .inr (.inr (.inr (.inr (va_up (va_up (va_up (va_up (va_up (va_up (fun _ => none) 0 (some h0_0)) 1 (some h1_0)) 2 (some h2_0)) 3 (some h3_0)) 4 (some h4_0)) 5 (some h5_0)))))))] ++ (stW tA lk h0_0 h0_1 h0_2 h0_3 h0_4 ++ (stW tA lk h1_0 h1_1 h1_2 h1_3 h1_4 ++ (stW tA lk h2_0 h2_1 h2_2 h2_3 h2_4 ++ (stW tA lk h3_0 h3_1 h3_2 h3_3 h3_4 ++ (stW tA lk h4_0 h4_1 h4_2 h4_3 h4_4 ++ (stW tA lk h5_0 h5_1 h5_2 h5_3 h5_4 ++ ([(h6_0, .inr (5, [.null, .null, .null, .null, .null, .int 0, .int 0, .int 0, .int 0, .int 0, .int 0, .int 0, .int 0]))])))))))) H := hP
  have hD : va_D A ([(a, .inr (1, [.ref hr_, .int 0, .int 0])), (hr_, .inl (tA 5, 8, .inr (.inr (.inr (.inr (va_up (va_up (va_up (va_up (va_up (va_up (fun _ => none) 0 (some h0_0)) 1 (some h1_0)) 2 (some h2_0)) 3 (some h3_0)) 4 (some h4_0)) 5 (some h5_0)))))))] ++ (stW tA lk h0_0 h0_1 h0_2 h0_3 h0_4 ++ (stW tA lk h1_0 h1_1 h1_2 h1_3 h1_4 ++ (stW tA lk h2_0 h2_1 h2_2 h2_3 h2_4 ++ (stW tA lk h3_0 h3_1 h3_2 h3_3 h3_4 ++ (stW tA lk h4_0 h4_1 h4_2 h4_3 h4_4 ++ (stW tA lk h5_0 h5_1 h5_2 h5_3 h5_4 ++ ([(h6_0, .inr (5, [.null, .null, .null, .null, .null, .int 0, .int 0, .int 0, .int 0, .int 0, .int 0, .int 0, .int 0]))])))))))) := hD
  refine lv_dup hx hb kd_hyin_29 rfl ?_
  refine lv_aload_n hx hb kd_hyin_30 rfl (lv_at hl 2 rfl) ?_
  refine k_callI (n := 1) (n1 := 348) (n2 := 225) (n4 := 108) (n5 := 226) (As := [.ref lk]) (rest := [.ref h6_0, .int 6, .ref hr_]) (wr := ([(a, .inr (1, [.ref hr_, .int 0, .int 0])), (hr_, .inl (tA 5, 8, .inr (.inr (.inr (.inr (va_up (va_up (va_up (va_up (va_up (va_up (fun _ => none) 0 (some h0_0)) 1 (some h1_0)) 2 (some h2_0)) 3 (some h3_0)) 4 (some h4_0)) 5 (some h5_0)))))))] ++ (stW tA lk h0_0 h0_1 h0_2 h0_3 h0_4 ++ (stW tA lk h1_0 h1_1 h1_2 h1_3 h1_4 ++ (stW tA lk h2_0 h2_1 h2_2 h2_3 h2_4 ++ (stW tA lk h3_0 h3_1 h3_2 h3_3 h3_4 ++ (stW tA lk h4_0 h4_1 h4_2 h4_3 h4_4 ++ (stW tA lk h5_0 h5_1 h5_2 h5_3 h5_4)))))))) C0 (n_stin h6_0 lk) (by decide +kernel) hP hD hS [32] [0, 1, 2, 3, 4, 5, 6, 7, 8, 9, 10, 11, 12, 13, 14, 15, 16, 17, 18, 19, 20, 21, 22, 23, 24, 25, 26, 27, 28, 29, 30, 31] rfl rfl rfl rfl (by decide) hl.1 rfl (Nat.le_of_ble_eq_true rfl) ⟨Nat.le_of_ble_eq_true rfl, Nat.le_of_ble_eq_true rfl⟩ ⟨Nat.le_of_ble_eq_true rfl, Nat.le_of_ble_eq_true rfl⟩ kd_hyin_31 rfl (fun r w1 H locs hQ hP hD hS => ?_)
  obtain ⟨h6_1, h6_2, h6_3, h6_4, rfl, rfl⟩ := hQ
  have hP : va_P D clx ([(a, .inr (1, [.ref hr_, .int 0, .int 0])), (hr_, .inl (tA 5, 8, .inr (.inr (.inr (.inr (va_up (va_up (va_up (va_up (va_up (va_up (fun _ => none) 0 (some h0_0)) 1 (some h1_0)) 2 (some h2_0)) 3 (some h3_0)) 4 (some h4_0)) 5 (some h5_0)))))))] ++ (stW tA lk h0_0 h0_1 h0_2 h0_3 h0_4 ++ (stW tA lk h1_0 h1_1 h1_2 h1_3 h1_4 ++ (stW tA lk h2_0 h2_1 h2_2 h2_3 h2_4 ++ (stW tA lk h3_0 h3_1 h3_2 h3_3 h3_4 ++ (stW tA lk h4_0 h4_1 h4_2 h4_3 h4_4 ++ (stW tA lk h5_0 h5_1 h5_2 h5_3 h5_4 ++ (stW tA lk h6_0 h6_1 h6_2 h6_3 h6_4)))))))) H := hP
  have hD : va_D A ([(a, .inr (1, [.ref hr_, .int 0, .int 0])), (hr_, .inl (tA 5, 8, .inr (.inr (.inr (.inr (va_up (va_up (va_up (va_up (va_up (va_up (fun _ => none) 0 (some h0_0)) 1 (some h1_0)) 2 (some h2_0)) 3 (some h3_0)) 4 (some h4_0)) 5 (some h5_0)))))))] ++ (stW tA lk h0_0 h0_1 h0_2 h0_3 h0_4 ++ (stW tA lk h1_0 h1_1 h1_2 h1_3 h1_4 ++ (stW tA lk h2_0 h2_1 h2_2 h2_3 h2_4 ++ (stW tA lk h3_0 h3_1 h3_2 h3_3 h3_4 ++ (stW tA lk h4_0 h4_1 h4_2 h4_3 h4_4 ++ (stW tA lk h5_0 h5_1 h5_2 h5_3 h5_4 ++ (stW tA lk h6_0 h6_1 h6_2 h6_3 h6_4)))))))) := hD
  refine k_oast (t0 := 5) (r := (cR5, cT5, 13)) C0 hP hD hS 1 32 rfl rfl rfl rfl (by unfold vp_in; decide) kd_hyin_34 (fun H locs hP hD hS => ?_)
  have hP : va_P D clx ([(a, .inr (1, [.ref hr_, .int 0, .int 0])), (hr_, .inl (tA 5, 8, .inr (.inr (.inr (.inr (va_up (va_up (va_up (va_up (va_up (va_up (va_up (fun _ => none) 0 (some h0_0)) 1 (some h1_0)) 2 (some h2_0)) 3 (some h3_0)) 4 (some h4_0)) 5 (some h5_0)) 6 (some h6_0)))))))] ++ (stW tA lk h0_0 h0_1 h0_2 h0_3 h0_4 ++ (stW tA lk h1_0 h1_1 h1_2 h1_3 h1_4 ++ (stW tA lk h2_0 h2_1 h2_2 h2_3 h2_4 ++ (stW tA lk h3_0 h3_1 h3_2 h3_3 h3_4 ++ (stW tA lk h4_0 h4_1 h4_2 h4_3 h4_4 ++ (stW tA lk h5_0 h5_1 h5_2 h5_3 h5_4 ++ (stW tA lk h6_0 h6_1 h6_2 h6_3 h6_4)))))))) H := hP
  have hD : va_D A ([(a, .inr (1, [.ref hr_, .int 0, .int 0])), (hr_, .inl (tA 5, 8, .inr (.inr (.inr (.inr (va_up (va_up (va_up (va_up (va_up (va_up (va_up (fun _ => none) 0 (some h0_0)) 1 (some h1_0)) 2 (some h2_0)) 3 (some h3_0)) 4 (some h4_0)) 5 (some h5_0)) 6 (some h6_0)))))))] ++ (stW tA lk h0_0 h0_1 h0_2 h0_3 h0_4 ++ (stW tA lk h1_0 h1_1 h1_2 h1_3 h1_4 ++ (stW tA lk h2_0 h2_1 h2_2 h2_3 h2_4 ++ (stW tA lk h3_0 h3_1 h3_2 h3_3 h3_4 ++ (stW tA lk h4_0 h4_1 h4_2 h4_3 h4_4 ++ (stW tA lk h5_0 h5_1 h5_2 h5_3 h5_4 ++ (stW tA lk h6_0 h6_1 h6_2 h6_3 h6_4)))))))) := hD
  refine lv_iinc (v := 7) (lv' := [(2, .int 7), (0, .ref a), (1, .ref lk)]) hx hb kd_hyin_35 hl (k := 0) rfl (by rfl) (by decide) rfl (fun ls hl => ?_)
  refine lv_goto (tgt := 15) hx hb kd_hyin_38 (by decide) ?_
  refine lv_iload_n hx hb kd_hyin_15 rfl (lv_at hl 0 rfl) ?_
  refine lv_bipush (v := 8) hx hb kd_hyin_16 (by decide) ?_
  refine lv_icmp_ge (tgt := 41) hx hb kd_hyin_18 (by decide) (fun h9 => absurd h9 (by decide)) (fun h9 => ?_)
  refine lv_aload_n hx hb kd_hyin_21 rfl (lv_at hl 1 rfl) ?_
  refine k_get (k := 0) (v := .ref hr_) C0 hP 0 349 rfl (by decide +kernel) rfl kd_hyin_22 ?_
  refine lv_iload_n hx hb kd_hyin_25 rfl (lv_at hl 0 rfl) ?_
  refine k_new (ci := 5) (fs := [.null, .null, .null, .null, .null, .int 0, .int 0, .int 0, .int 0, .int 0, .int 0, .int 0, .int 0]) (n1 := 346) (n2 := 223) (n3 := 108) C0 hP hD hS rfl (by decide +kernel) (by decide +kernel) ⟨Nat.le_of_ble_eq_true rfl, Nat.le_of_ble_eq_true rfl⟩ kd_hyin_26 (fun h7_0 H hP hD hS => ?_)
  have hP : va_P D clx ([(a, .inr (1, [.ref hr_, .int 0, .int 0])), (hr_, .inl (tA 5, 8, .inr (.inr (.inr (.inr (va_up (va_up (va_up (va_up (va_up (va_up (va_up (fun _ => none) 0 (some h0_0)) 1 (some h1_0)) 2 (some h2_0)) 3 (some h3_0)) 4 (some h4_0)) 5 (some h5_0)) 6 (some h6_0)))))))] ++ (stW tA lk h0_0 h0_1 h0_2 h0_3 h0_4 ++ (stW tA lk h1_0 h1_1 h1_2 h1_3 h1_4 ++ (stW tA lk h2_0 h2_1 h2_2 h2_3 h2_4 ++ (stW tA lk h3_0 h3_1 h3_2 h3_3 h3_4 ++ (stW tA lk h4_0 h4_1 h4_2 h4_3 h4_4 ++ (stW tA lk h5_0 h5_1 h5_2 h5_3 h5_4 ++ (stW tA lk h6_0 h6_1 h6_2 h6_3 h6_4 ++ ([(h7_0, .inr (5, [.null, .null, .null, .null, .null, .int 0, .int 0, .int 0, .int 0, .int 0, .int 0, .int 0, .int 0]))]))))))))) H := hP
  have hD : va_D A ([(a, .inr (1, [.ref hr_, .int 0, .int 0])), (hr_, .inl (tA 5, 8, .inr (.inr (.inr (.inr (va_up (va_up (va_up (va_up (va_up (va_up (va_up (fun _ => none) 0 (some h0_0)) 1 (some h1_0)) 2 (some h2_0)) 3 (some h3_0)) 4 (some h4_0)) 5 (some h5_0)) 6 (some h6_0)))))))] ++ (stW tA lk h0_0 h0_1 h0_2 h0_3 h0_4 ++ (stW tA lk h1_0 h1_1 h1_2 h1_3 h1_4 ++ (stW tA lk h2_0 h2_1 h2_2 h2_3 h2_4 ++ (stW tA lk h3_0 h3_1 h3_2 h3_3 h3_4 ++ (stW tA lk h4_0 h4_1 h4_2 h4_3 h4_4 ++ (stW tA lk h5_0 h5_1 h5_2 h5_3 h5_4 ++ (stW tA lk h6_0 h6_1 h6_2 h6_3 h6_4 ++ ([(h7_0, .inr (5, [.null, .null, .null, .null, .null, .int 0, .int 0, .int 0, .int 0, .int 0, .int 0, .int 0, .int 0]))]))))))))) := hD
  refine lv_dup hx hb kd_hyin_29 rfl ?_
  refine lv_aload_n hx hb kd_hyin_30 rfl (lv_at hl 2 rfl) ?_
  refine k_callI (n := 1) (n1 := 348) (n2 := 225) (n4 := 108) (n5 := 226) (As := [.ref lk]) (rest := [.ref h7_0, .int 7, .ref hr_]) (wr := ([(a, .inr (1, [.ref hr_, .int 0, .int 0])), (hr_, .inl (tA 5, 8, .inr (.inr (.inr (.inr (va_up (va_up (va_up (va_up (va_up (va_up (va_up (fun _ => none) 0 (some h0_0)) 1 (some h1_0)) 2 (some h2_0)) 3 (some h3_0)) 4 (some h4_0)) 5 (some h5_0)) 6 (some h6_0)))))))] ++ (stW tA lk h0_0 h0_1 h0_2 h0_3 h0_4 ++ (stW tA lk h1_0 h1_1 h1_2 h1_3 h1_4 ++ (stW tA lk h2_0 h2_1 h2_2 h2_3 h2_4 ++ (stW tA lk h3_0 h3_1 h3_2 h3_3 h3_4 ++ (stW tA lk h4_0 h4_1 h4_2 h4_3 h4_4 ++ (stW tA lk h5_0 h5_1 h5_2 h5_3 h5_4 ++ (stW tA lk h6_0 h6_1 h6_2 h6_3 h6_4))))))))) C0 (n_stin h7_0 lk) (by decide +kernel) hP hD hS [37] [0, 1, 2, 3, 4, 5, 6, 7, 8, 9, 10, 11, 12, 13, 14, 15, 16, 17, 18, 19, 20, 21, 22, 23, 24, 25, 26, 27, 28, 29, 30, 31, 32, 33, 34, 35, 36] rfl rfl rfl rfl (by decide) hl.1 rfl (Nat.le_of_ble_eq_true rfl) ⟨Nat.le_of_ble_eq_true rfl, Nat.le_of_ble_eq_true rfl⟩ ⟨Nat.le_of_ble_eq_true rfl, Nat.le_of_ble_eq_true rfl⟩ kd_hyin_31 rfl (fun r w1 H locs hQ hP hD hS => ?_)
  obtain ⟨h7_1, h7_2, h7_3, h7_4, rfl, rfl⟩ := hQ
  have hP : va_P D clx ([(a, .inr (1, [.ref hr_, .int 0, .int 0])), (hr_, .inl (tA 5, 8, .inr (.inr (.inr (.inr (va_up (va_up (va_up (va_up (va_up (va_up (va_up (fun _ => none) 0 (some h0_0)) 1 (some h1_0)) 2 (some h2_0)) 3 (some h3_0)) 4 (some h4_0)) 5 (some h5_0)) 6 (some h6_0)))))))] ++ (stW tA lk h0_0 h0_1 h0_2 h0_3 h0_4 ++ (stW tA lk h1_0 h1_1 h1_2 h1_3 h1_4 ++ (stW tA lk h2_0 h2_1 h2_2 h2_3 h2_4 ++ (stW tA lk h3_0 h3_1 h3_2 h3_3 h3_4 ++ (stW tA lk h4_0 h4_1 h4_2 h4_3 h4_4 ++ (stW tA lk h5_0 h5_1 h5_2 h5_3 h5_4 ++ (stW tA lk h6_0 h6_1 h6_2 h6_3 h6_4 ++ (stW tA lk h7_0 h7_1 h7_2 h7_3 h7_4))))))))) H := hP
  have hD : va_D A ([(a, .inr (1, [.ref hr_, .int 0, .int 0])), (hr_, .inl (tA 5, 8, .inr (.inr (.inr (.inr (va_up (va_up (va_up (va_up (va_up (va_up (va_up (fun _ => none) 0 (some h0_0)) 1 (some h1_0)) 2 (some h2_0)) 3 (some h3_0)) 4 (some h4_0)) 5 (some h5_0)) 6 (some h6_0)))))))] ++ (stW tA lk h0_0 h0_1 h0_2 h0_3 h0_4 ++ (stW tA lk h1_0 h1_1 h1_2 h1_3 h1_4 ++ (stW tA lk h2_0 h2_1 h2_2 h2_3 h2_4 ++ (stW tA lk h3_0 h3_1 h3_2 h3_3 h3_4 ++ (stW tA lk h4_0 h4_1 h4_2 h4_3 h4_4 ++ (stW tA lk h5_0 h5_1 h5_2 h5_3 h5_4 ++ (stW tA lk h6_0 h6_1 h6_2 h6_3 h6_4 ++ (stW tA lk h7_0 h7_1 h7_2 h7_3 h7_4))))))))) := hD
  refine k_oast (t0 := 5) (r := (cR5, cT5, 13)) C0 hP hD hS 1 37 rfl rfl rfl rfl (by unfold vp_in; decide) kd_hyin_34 (fun H locs hP hD hS => ?_)
  have hP : va_P D clx ([(a, .inr (1, [.ref hr_, .int 0, .int 0])), (hr_, .inl (tA 5, 8, .inr (.inr (.inr (.inr (va_up (va_up (va_up (va_up (va_up (va_up (va_up (va_up (fun _ => none) 0 (some h0_0)) 1 (some h1_0)) 2 (some h2_0)) 3 (some h3_0)) 4 (some h4_0)) 5 (some h5_0)) 6 (some h6_0)) 7 (some h7_0)))))))] ++ (stW tA lk h0_0 h0_1 h0_2 h0_3 h0_4 ++ (stW tA lk h1_0 h1_1 h1_2 h1_3 h1_4 ++ (stW tA lk h2_0 h2_1 h2_2 h2_3 h2_4 ++ (stW tA lk h3_0 h3_1 h3_2 h3_3 h3_4 ++ (stW tA lk h4_0 h4_1 h4_2 h4_3 h4_4 ++ (stW tA lk h5_0 h5_1 h5_2 h5_3 h5_4 ++ (stW tA lk h6_0 h6_1 h6_2 h6_3 h6_4 ++ (stW tA lk h7_0 h7_1 h7_2 h7_3 h7_4))))))))) H := hP
  have hD : va_D A ([(a, .inr (1, [.ref hr_, .int 0, .int 0])), (hr_, .inl (tA 5, 8, .inr (.inr (.inr (.inr (va_up (va_up (va_up (va_up (va_up (va_up (va_up (va_up (fun _ => none) 0 (some h0_0)) 1 (some h1_0)) 2 (some h2_0)) 3 (some h3_0)) 4 (some h4_0)) 5 (some h5_0)) 6 (some h6_0)) 7 (some h7_0)))))))] ++ (stW tA lk h0_0 h0_1 h0_2 h0_3 h0_4 ++ (stW tA lk h1_0 h1_1 h1_2 h1_3 h1_4 ++ (stW tA lk h2_0 h2_1 h2_2 h2_3 h2_4 ++ (stW tA lk h3_0 h3_1 h3_2 h3_3 h3_4 ++ (stW tA lk h4_0 h4_1 h4_2 h4_3 h4_4 ++ (stW tA lk h5_0 h5_1 h5_2 h5_3 h5_4 ++ (stW tA lk h6_0 h6_1 h6_2 h6_3 h6_4 ++ (stW tA lk h7_0 h7_1 h7_2 h7_3 h7_4))))))))) := hD
  refine lv_iinc (v := 8) (lv' := [(2, .int 8), (0, .ref a), (1, .ref lk)]) hx hb kd_hyin_35 hl (k := 0) rfl (by rfl) (by decide) rfl (fun ls hl => ?_)
  refine lv_goto (tgt := 15) hx hb kd_hyin_38 (by decide) ?_
  refine lv_iload_n hx hb kd_hyin_15 rfl (lv_at hl 0 rfl) ?_
  refine lv_bipush (v := 8) hx hb kd_hyin_16 (by decide) ?_
  refine lv_icmp_ge (tgt := 41) hx hb kd_hyin_18 (by decide) (fun h9 => ?_) (fun h9 => absurd (by decide) h9)
  exact k_vret C0 hr hlocks hP hD hS ⟨hr_, h0_0, h0_1, h0_2, h0_3, h0_4, h1_0, h1_1, h1_2, h1_3, h1_4, h2_0, h2_1, h2_2, h2_3, h2_4, h3_0, h3_1, h3_2, h3_3, h3_4, h4_0, h4_1, h4_2, h4_3, h4_4, h5_0, h5_1, h5_2, h5_3, h5_4, h6_0, h6_1, h6_2, h6_3, h6_4, h7_0, h7_1, h7_2, h7_3, h7_4, rfl, rfl⟩ ⟨Nat.le_of_ble_eq_true rfl, Nat.le_of_ble_eq_true rfl⟩ kd_hyin_41
