/-! The text: what is appended. Printed by wip/whole/pF5.py. -/
theorem txL_fit : ∀ q ∈ txL, q.2.2.length ≤ 6 ∧ ∀ j, j < q.2.2.length → fits .byte (.int (q.2.2.getD j 0)) = true := by decide +kernel
/-- the text's cells: so many characters, these -/
def TWp (tA : Nat → ClassId) (qt cnt : Nat) (g : Nat → Int32) (w : va_W) : Prop := ∃ (qb n : Nat) (f : Nat → Int32) (ml : Int32), (n = 16 ∨ n = 34) ∧ cnt ≤ n ∧ Byt f n ∧ (∀ j, j < cnt → f j = g j) ∧ w = [(qt, .inr (11, [.ref qb, .int 0, .int ml, .int (nI cnt)])), (qb, .inl (tA 1, n, .inl f))]
abbrev kc_scod : ByteArray := prog_27_method_152_code
def ky_scod : MethodName := ⟨"java/lang/String", "coder", "()B"⟩
set_option maxRecDepth 100000 in
theorem kd_scod_0 : decode kc_scod 0 = .ok (.getstatic 38, 3) := by decide +kernel
set_option maxRecDepth 100000 in
theorem kd_scod_3 : decode kc_scod 3 = .ok (.ifCond .eq 10, 3) := by decide +kernel
set_option maxRecDepth 100000 in
theorem kd_scod_6 : decode kc_scod 6 = .ok (.aload_n 0, 1) := by decide +kernel
set_option maxRecDepth 100000 in
theorem kd_scod_7 : decode kc_scod 7 = .ok (.getfield 15, 3) := by decide +kernel
set_option maxRecDepth 100000 in
theorem kd_scod_10 : decode kc_scod 10 = .ok (.goto 4, 3) := by decide +kernel
set_option maxRecDepth 100000 in
theorem kd_scod_14 : decode kc_scod 14 = .ok (.ireturn, 1) := by decide +kernel
set_option maxHeartbeats 4000000 in
set_option maxRecDepth 100000 in
theorem t_scod {l : Launch} {κ : Nat → Nat} {D : va_G} {tA : Nat → ClassId} (i : Nat) (q : Nat × String × List Int32) (hq : txL[i]? = some q) : Ct l κ D tA ky_scod kc_scod 1 (some FieldType.byte) 0 0 0 [.ref (κ (400000 + i))] [] (fun r w => r = some (.int 0) ∧ w = []) := by
  refine Ct.of rfl (Nat.le_of_ble_eq_true rfl) ?_
  intro p e s m args below meth c A ls C0 hr hlocks hin hP hD hS hl
  obtain ⟨hx, hb, hml, hown, hts, hK, hA, hI⟩ := id C0
  have hl : lv_has ls 1 [(0, .ref (κ (400000 + i)))] := hl
  have hin : meth.name = "coder" := hin
  have hs8 := (hI.2.1.2.2 i q hq).1
  have hs9 : va_O "java/lang/String" (κ (400000 + i)) A s s.heap ∧ va_OF "java/lang/String" "coder" "B" (.int 0) (κ (400000 + i)) A s s.heap ∧ va_OF "java/lang/String" "value" "[B" (.ref (κ (400010 + i))) (κ (400000 + i)) A s s.heap ∧ va_T .byte (κ (400010 + i)) q.2.2.length (fun j => .int (q.2.2.getD j 0)) A s s.heap := hs8.1 0 (by decide)
  refine va_gets hx hb hI.2.1.1 hS hown (hts _ (lkB_in (n := 1200) (w := .fieldLink "java/lang/String" 38 "java/lang/String" "COMPACT_STRINGS" "Z") (by decide +kernel))) (fun _ h9 => h9) kd_scod_0 ?_
  refine lv_if_eq (tgt := 13) hx hb kd_scod_3 (by decide) (fun h9 => absurd h9 (by decide)) (fun h9 => ?_)
  refine lv_aload_n hx hb kd_scod_6 rfl (lv_at hl 0 rfl) ?_
  refine vk_getf (v := .int 0) hx hb hs9.2.1 hS hown (hts _ (lkB_in (n := 2166) (w := .fieldLink "java/lang/String" 15 "java/lang/String" "coder" "B") (by decide +kernel))) (fun _ h9 => h9) kd_scod_7 ?_
  refine lv_goto (tgt := 14) hx hb kd_scod_10 (by decide) ?_
  exact k_zret C0 hr (rfl) hlocks hP hD hS ⟨rfl, rfl⟩ ⟨Nat.le_of_ble_eq_true rfl, Nat.le_of_ble_eq_true rfl⟩ kd_scod_14
abbrev kc_slen : ByteArray := prog_27_method_54_code
def ky_slen : MethodName := ⟨"java/lang/String", "length", "()I"⟩
set_option maxRecDepth 100000 in
theorem kd_slen_0 : decode kc_slen 0 = .ok (.aload_n 0, 1) := by decide +kernel
set_option maxRecDepth 100000 in
theorem kd_slen_1 : decode kc_slen 1 = .ok (.getfield 9, 3) := by decide +kernel
set_option maxRecDepth 100000 in
theorem kd_slen_4 : decode kc_slen 4 = .ok (.arraylength, 1) := by decide +kernel
set_option maxRecDepth 100000 in
theorem kd_slen_5 : decode kc_slen 5 = .ok (.aload_n 0, 1) := by decide +kernel
set_option maxRecDepth 100000 in
theorem kd_slen_6 : decode kc_slen 6 = .ok (.invokevirtual 335, 3) := by decide +kernel
set_option maxRecDepth 100000 in
theorem kd_slen_9 : decode kc_slen 9 = .ok (.ishr, 1) := by decide +kernel
set_option maxRecDepth 100000 in
theorem kd_slen_10 : decode kc_slen 10 = .ok (.ireturn, 1) := by decide +kernel
set_option maxHeartbeats 4000000 in
set_option maxRecDepth 100000 in
theorem t_slen {l : Launch} {κ : Nat → Nat} {D : va_G} {tA : Nat → ClassId} (i : Nat) (q : Nat × String × List Int32) (hq : txL[i]? = some q) : Ct l κ D tA ky_slen kc_slen 1 (some FieldType.int) 1 0 0 [.ref (κ (400000 + i))] [] (fun r w => r = some (.int (nI q.2.2.length)) ∧ w = []) := by
  refine Ct.of rfl (Nat.le_of_ble_eq_true rfl) ?_
  intro p e s m args below meth c A ls C0 hr hlocks hin hP hD hS hl
  obtain ⟨hx, hb, hml, hown, hts, hK, hA, hI⟩ := id C0
  have hl : lv_has ls 1 [(0, .ref (κ (400000 + i)))] := hl
  have hin : meth.name = "length" := hin
  have hs8 := (hI.2.1.2.2 i q hq).1
  have hs9 : va_O "java/lang/String" (κ (400000 + i)) A s s.heap ∧ va_OF "java/lang/String" "coder" "B" (.int 0) (κ (400000 + i)) A s s.heap ∧ va_OF "java/lang/String" "value" "[B" (.ref (κ (400010 + i))) (κ (400000 + i)) A s s.heap ∧ va_T .byte (κ (400010 + i)) q.2.2.length (fun j => .int (q.2.2.getD j 0)) A s s.heap := hs8.1 0 (by decide)
  refine lv_aload_n hx hb kd_slen_0 rfl (lv_at hl 0 rfl) ?_
  refine vk_getf (v := .ref (κ (400010 + i))) hx hb hs9.2.2.1 hS hown (hts _ (lkB_in (n := 2165) (w := .fieldLink "java/lang/String" 9 "java/lang/String" "value" "[B") (by decide +kernel))) (fun _ h9 => h9) kd_slen_1 ?_
  refine va_tlen (v := nI q.2.2.length) hx hb hs9.2.2.2 hS rfl kd_slen_4 ?_
  refine lv_aload_n hx hb kd_slen_5 rfl (lv_at hl 0 rfl) ?_
  refine k_callV (n := 0) (n1 := 1196) (n2 := 1197) (n3 := 1198) (n4 := 120) (n5 := 1199) (As := []) (rest := [.int (nI q.2.2.length)]) (wr := []) C0 (t_scod i q hq) (by decide +kernel) (vk_recv (i := 0) hs8 (by decide) hS) hP hD hS [] [] rfl rfl rfl rfl (by decide) hl.1 rfl (Nat.le_of_ble_eq_true rfl) ⟨Nat.le_of_ble_eq_true rfl, Nat.le_of_ble_eq_true rfl⟩ ⟨Nat.le_of_ble_eq_true rfl, Nat.le_of_ble_eq_true rfl⟩ kd_slen_6 rfl (fun r w1 H locs hQ hP hD hS => ?_)
  obtain ⟨rfl, rfl⟩ := hQ
  have hP : va_P D clx [] H := hP
  have hD : va_D A [] := hD
  refine lv_ishr hx hb kd_slen_9 ?_
  refine W.eq (g2 := F0 m 10 ls [.int (nI q.2.2.length)]) (by first | (rw [sh0r]; done) | (rw [sh0r]; rfl)) ?_
  exact k_iret C0 hr hlocks hP hD hS ⟨rfl, rfl⟩ ⟨Nat.le_of_ble_eq_true rfl, Nat.le_of_ble_eq_true rfl⟩ kd_slen_10
abbrev kc_infl : ByteArray := prog_16_method_71_code
def ky_infl : MethodName := ⟨"java/lang/AbstractStringBuilder", "inflateIfNeededFor", "(Ljava/lang/String;)V"⟩
set_option maxRecDepth 100000 in
theorem kd_infl_0 : decode kc_infl 0 = .ok (.getstatic 18, 3) := by decide +kernel
set_option maxRecDepth 100000 in
theorem kd_infl_3 : decode kc_infl 3 = .ok (.ifCond .eq 18, 3) := by decide +kernel
set_option maxRecDepth 100000 in
theorem kd_infl_6 : decode kc_infl 6 = .ok (.aload_n 0, 1) := by decide +kernel
set_option maxRecDepth 100000 in
theorem kd_infl_7 : decode kc_infl 7 = .ok (.getfield 22, 3) := by decide +kernel
set_option maxRecDepth 100000 in
theorem kd_infl_10 : decode kc_infl 10 = .ok (.aload_n 1, 1) := by decide +kernel
set_option maxRecDepth 100000 in
theorem kd_infl_11 : decode kc_infl 11 = .ok (.invokevirtual 40, 3) := by decide +kernel
set_option maxRecDepth 100000 in
theorem kd_infl_14 : decode kc_infl 14 = .ok (.if_icmp .eq 7, 3) := by decide +kernel
set_option maxRecDepth 100000 in
theorem kd_infl_21 : decode kc_infl 21 = .ok (.return_, 1) := by decide +kernel
set_option maxHeartbeats 4000000 in
set_option maxRecDepth 100000 in
theorem t_infl {l : Launch} {κ : Nat → Nat} {D : va_G} {tA : Nat → ClassId} (qt qb n cnt : Nat) (f : Nat → Int32) (ml : Int32) (i : Nat) (q : Nat × String × List Int32) (hq : txL[i]? = some q) : Ct l κ D tA ky_infl kc_infl 2 none 1 0 0 [.ref qt, .ref (κ (400000 + i))] [(qt, .inr (11, [.ref qb, .int 0, .int ml, .int (nI cnt)])), (qb, .inl (tA 1, n, .inl f))] (fun r w => r = none ∧ w = [(qt, .inr (11, [.ref qb, .int 0, .int ml, .int (nI cnt)])), (qb, .inl (tA 1, n, .inl f))]) := by
  refine Ct.of rfl (Nat.le_of_ble_eq_true rfl) ?_
  intro p e s m args below meth c A ls C0 hr hlocks hin hP hD hS hl
  obtain ⟨hx, hb, hml, hown, hts, hK, hA, hI⟩ := id C0
  have hl : lv_has ls 2 [(0, .ref qt), (1, .ref (κ (400000 + i)))] := hl
  have hin : meth.name = "inflateIfNeededFor" := hin
  have hs8 := (hI.2.1.2.2 i q hq).1
  have hs9 : va_O "java/lang/String" (κ (400000 + i)) A s s.heap ∧ va_OF "java/lang/String" "coder" "B" (.int 0) (κ (400000 + i)) A s s.heap ∧ va_OF "java/lang/String" "value" "[B" (.ref (κ (400010 + i))) (κ (400000 + i)) A s s.heap ∧ va_T .byte (κ (400010 + i)) q.2.2.length (fun j => .int (q.2.2.getD j 0)) A s s.heap := hs8.1 0 (by decide)
  refine va_gets hx hb hI.2.1.1 hS hown (hts _ (lkB_in (n := 500) (w := .fieldLink "java/lang/AbstractStringBuilder" 18 "java/lang/String" "COMPACT_STRINGS" "Z") (by decide +kernel))) (fun _ h9 => h9) kd_infl_0 ?_
  refine lv_if_eq (tgt := 21) hx hb kd_infl_3 (by decide) (fun h9 => absurd h9 (by decide)) (fun h9 => ?_)
  refine lv_aload_n hx hb kd_infl_6 rfl (lv_at hl 0 rfl) ?_
  refine k_get (k := 1) (v := .int 0) C0 hP 0 510 rfl (by decide +kernel) rfl kd_infl_7 ?_
  refine lv_aload_n hx hb kd_infl_10 rfl (lv_at hl 1 rfl) ?_
  refine k_callV (n := 0) (n1 := 1209) (n2 := 1197) (n3 := 1198) (n4 := 120) (n5 := 1199) (As := []) (rest := [.int 0]) (wr := [(qt, .inr (11, [.ref qb, .int 0, .int ml, .int (nI cnt)])), (qb, .inl (tA 1, n, .inl f))]) C0 (t_scod i q hq) (by decide +kernel) (vk_recv (i := 0) hs8 (by decide) hS) hP hD hS [] [0, 1] rfl rfl rfl rfl (by decide) hl.1 rfl (Nat.le_of_ble_eq_true rfl) ⟨Nat.le_of_ble_eq_true rfl, Nat.le_of_ble_eq_true rfl⟩ ⟨Nat.le_of_ble_eq_true rfl, Nat.le_of_ble_eq_true rfl⟩ kd_infl_11 rfl (fun r w1 H locs hQ hP hD hS => ?_)
  obtain ⟨rfl, rfl⟩ := hQ
  have hP : va_P D clx [(qt, .inr (11, [.ref qb, .int 0, .int ml, .int (nI cnt)])), (qb, .inl (tA 1, n, .inl f))] H := hP
  have hD : va_D A [(qt, .inr (11, [.ref qb, .int 0, .int ml, .int (nI cnt)])), (qb, .inl (tA 1, n, .inl f))] := hD
  refine lv_icmp_eq (tgt := 21) hx hb kd_infl_14 (by decide) (fun h9 => ?_) (fun h9 => absurd (by rfl) h9)
  exact k_vret C0 hr hlocks hP hD hS ⟨rfl, rfl⟩ ⟨Nat.le_of_ble_eq_true rfl, Nat.le_of_ble_eq_true rfl⟩ kd_infl_21
abbrev kc_gbyt : ByteArray := prog_27_method_147_code
def ky_gbyt : MethodName := ⟨"java/lang/String", "getBytes", "([BIB)V"⟩
set_option maxRecDepth 100000 in
theorem kd_gbyt_0 : decode kc_gbyt 0 = .ok (.aload_n 0, 1) := by decide +kernel
set_option maxRecDepth 100000 in
theorem kd_gbyt_1 : decode kc_gbyt 1 = .ok (.invokevirtual 335, 3) := by decide +kernel
set_option maxRecDepth 100000 in
theorem kd_gbyt_4 : decode kc_gbyt 4 = .ok (.iload_n 3, 1) := by decide +kernel
set_option maxRecDepth 100000 in
theorem kd_gbyt_5 : decode kc_gbyt 5 = .ok (.if_icmp .ne 23, 3) := by decide +kernel
set_option maxRecDepth 100000 in
theorem kd_gbyt_8 : decode kc_gbyt 8 = .ok (.aload_n 0, 1) := by decide +kernel
set_option maxRecDepth 100000 in
theorem kd_gbyt_9 : decode kc_gbyt 9 = .ok (.getfield 9, 3) := by decide +kernel
set_option maxRecDepth 100000 in
theorem kd_gbyt_12 : decode kc_gbyt 12 = .ok (.iconst 0, 1) := by decide +kernel
set_option maxRecDepth 100000 in
theorem kd_gbyt_13 : decode kc_gbyt 13 = .ok (.aload_n 1, 1) := by decide +kernel
set_option maxRecDepth 100000 in
theorem kd_gbyt_14 : decode kc_gbyt 14 = .ok (.iload_n 2, 1) := by decide +kernel
set_option maxRecDepth 100000 in
theorem kd_gbyt_15 : decode kc_gbyt 15 = .ok (.iload_n 3, 1) := by decide +kernel
set_option maxRecDepth 100000 in
theorem kd_gbyt_16 : decode kc_gbyt 16 = .ok (.ishl, 1) := by decide +kernel
set_option maxRecDepth 100000 in
theorem kd_gbyt_17 : decode kc_gbyt 17 = .ok (.aload_n 0, 1) := by decide +kernel
set_option maxRecDepth 100000 in
theorem kd_gbyt_18 : decode kc_gbyt 18 = .ok (.getfield 9, 3) := by decide +kernel
set_option maxRecDepth 100000 in
theorem kd_gbyt_21 : decode kc_gbyt 21 = .ok (.arraylength, 1) := by decide +kernel
set_option maxRecDepth 100000 in
theorem kd_gbyt_22 : decode kc_gbyt 22 = .ok (.invokestatic 212, 3) := by decide +kernel
set_option maxRecDepth 100000 in
theorem kd_gbyt_25 : decode kc_gbyt 25 = .ok (.goto 18, 3) := by decide +kernel
set_option maxRecDepth 100000 in
theorem kd_gbyt_43 : decode kc_gbyt 43 = .ok (.return_, 1) := by decide +kernel
set_option maxHeartbeats 4000000 in
set_option maxRecDepth 100000 in
theorem t_gbyt {l : Launch} {κ : Nat → Nat} {D : va_G} {tA : Nat → ClassId} (qb n at9 : Nat) (f : Nat → Int32) (hn : n < 1000) (i : Nat) (q : Nat × String × List Int32) (hq : txL[i]? = some q) (ha : at9 + q.2.2.length ≤ n) : Ct l κ D tA ky_gbyt kc_gbyt 4 none 1 0 0 [.ref (κ (400000 + i)), .ref qb, .int (nI at9), .int 0] [(qb, .inl (tA 1, n, .inl f))] (fun r w => r = none ∧ w = [(qb, .inl (tA 1, n, .inl (va_cpy (fun j => q.2.2.getD j 0) f 0 at9 q.2.2.length)))]) := by
  refine Ct.of rfl (Nat.le_of_ble_eq_true rfl) ?_
  intro p e s m args below meth c A ls C0 hr hlocks hin hP hD hS hl
  obtain ⟨hx, hb, hml, hown, hts, hK, hA, hI⟩ := id C0
  have hl : lv_has ls 4 [(0, .ref (κ (400000 + i))), (1, .ref qb), (2, .int (nI at9)), (3, .int 0)] := hl
  have hin : meth.name = "getBytes" := hin
  have hs8 := (hI.2.1.2.2 i q hq).1
  have hs9 : va_O "java/lang/String" (κ (400000 + i)) A s s.heap ∧ va_OF "java/lang/String" "coder" "B" (.int 0) (κ (400000 + i)) A s s.heap ∧ va_OF "java/lang/String" "value" "[B" (.ref (κ (400010 + i))) (κ (400000 + i)) A s s.heap ∧ va_T .byte (κ (400010 + i)) q.2.2.length (fun j => .int (q.2.2.getD j 0)) A s s.heap := hs8.1 0 (by decide)
  have hq9 := txL_fit q (List.mem_of_getElem? hq)
  refine lv_aload_n hx hb kd_gbyt_0 rfl (lv_at hl 0 rfl) ?_
  refine k_callV (n := 0) (n1 := 1196) (n2 := 1197) (n3 := 1198) (n4 := 120) (n5 := 1199) (As := []) (rest := []) (wr := [(qb, .inl (tA 1, n, .inl f))]) C0 (t_scod i q hq) (by decide +kernel) (vk_recv (i := 0) hs8 (by decide) hS) hP hD hS [] [0] rfl rfl rfl rfl (by decide) hl.1 rfl (Nat.le_of_ble_eq_true rfl) ⟨Nat.le_of_ble_eq_true rfl, Nat.le_of_ble_eq_true rfl⟩ ⟨Nat.le_of_ble_eq_true rfl, Nat.le_of_ble_eq_true rfl⟩ kd_gbyt_1 rfl (fun r w1 H locs hQ hP hD hS => ?_)
  obtain ⟨rfl, rfl⟩ := hQ
  have hP : va_P D clx [(qb, .inl (tA 1, n, .inl f))] H := hP
  have hD : va_D A [(qb, .inl (tA 1, n, .inl f))] := hD
  refine lv_iload_n hx hb kd_gbyt_4 rfl (lv_at hl 3 rfl) ?_
  refine lv_icmp_ne (tgt := 28) hx hb kd_gbyt_5 (by decide) (fun h9 => absurd h9 (fun h => h rfl)) (fun h9 => ?_)
  refine lv_aload_n hx hb kd_gbyt_8 rfl (lv_at hl 0 rfl) ?_
  refine vk_getf (v := .ref (κ (400010 + i))) hx hb hs9.2.2.1 hS hown (hts _ (lkB_in (n := 2165) (w := .fieldLink "java/lang/String" 9 "java/lang/String" "value" "[B") (by decide +kernel))) (fun _ h9 => h9) kd_gbyt_9 ?_
  refine lv_iconst (v := 0) hx hb kd_gbyt_12 (by decide) ?_
  refine lv_aload_n hx hb kd_gbyt_13 rfl (lv_at hl 1 rfl) ?_
  refine lv_iload_n hx hb kd_gbyt_14 rfl (lv_at hl 2 rfl) ?_
  refine lv_iload_n hx hb kd_gbyt_15 rfl (lv_at hl 3 rfl) ?_
  refine lv_ishl hx hb kd_gbyt_16 ?_
  refine W.eq (g2 := F0 m 17 ls [.int (nI at9), .ref qb, .int 0, .ref (κ (400010 + i))]) (by first | (rw [sh0l]; done) | (rw [sh0l]; rfl)) ?_
  refine lv_aload_n hx hb kd_gbyt_17 rfl (lv_at hl 0 rfl) ?_
  refine vk_getf (v := .ref (κ (400010 + i))) hx hb hs9.2.2.1 hS hown (hts _ (lkB_in (n := 2165) (w := .fieldLink "java/lang/String" 9 "java/lang/String" "value" "[B") (by decide +kernel))) (fun _ h9 => h9) kd_gbyt_18 ?_
  refine va_tlen (v := nI q.2.2.length) hx hb hs9.2.2.2 hS rfl kd_gbyt_21 ?_
  refine vk_copyt (f := fun j => q.2.2.getD j 0) hx hb (hml.trans hl.1.symm) hown (hts _ (lkB_in (n := 1214) (w := .methodLink "java/lang/String" 212 arraycopyName) (by decide +kernel))) (hts _ (lkB_in (n := 735) (w := .native arraycopyName) (by decide +kernel))) (hts _ (lkB_in (n := 734) (w := .static arraycopyName) (by decide +kernel))) (hts _ (lkB_in (n := 125) (w := .initialized "java/lang/System") (by decide +kernel))) hK hP hD hS hs9.2.2.2 0 1 rfl rfl (by decide) (nI_not_neg (by omega)) (nI_not_neg (by omega)) (by rw [nI_clamp (by omega)]; show 0 + _ ≤ _; omega) (by rw [nI_clamp (by omega), nI_clamp (by omega)]; omega) (fun j hj => by rw [nI_clamp (by omega)] at hj; exact hq9.2 (0 + j) (by omega)) (Nat.le_of_ble_eq_true rfl) (Nat.le_of_ble_eq_true rfl) kd_gbyt_22 (fun H locs hP hD hS => ?_)
  rw [nI_clamp (n := at9) (by omega), nI_clamp (n := q.2.2.length) (by omega)] at hP hD
  have hP : va_P D clx [(qb, .inl (tA 1, n, .inl (va_cpy (fun j => q.2.2.getD j 0) f 0 at9 q.2.2.length)))] H := hP
  have hD : va_D A [(qb, .inl (tA 1, n, .inl (va_cpy (fun j => q.2.2.getD j 0) f 0 at9 q.2.2.length)))] := hD
  refine lv_goto (tgt := 43) hx hb kd_gbyt_25 (by decide) ?_
  exact k_vret C0 hr hlocks hP hD hS ⟨rfl, rfl⟩ ⟨Nat.le_of_ble_eq_true rfl, Nat.le_of_ble_eq_true rfl⟩ kd_gbyt_43
abbrev kc_puts : ByteArray := prog_16_method_73_code
def ky_puts : MethodName := ⟨"java/lang/AbstractStringBuilder", "putStringAt", "(ILjava/lang/String;)V"⟩
set_option maxRecDepth 100000 in
theorem kd_puts_0 : decode kc_puts 0 = .ok (.aload_n 0, 1) := by decide +kernel
set_option maxRecDepth 100000 in
theorem kd_puts_1 : decode kc_puts 1 = .ok (.aload_n 2, 1) := by decide +kernel
set_option maxRecDepth 100000 in
theorem kd_puts_2 : decode kc_puts 2 = .ok (.invokevirtual 397, 3) := by decide +kernel
set_option maxRecDepth 100000 in
theorem kd_puts_5 : decode kc_puts 5 = .ok (.aload_n 2, 1) := by decide +kernel
set_option maxRecDepth 100000 in
theorem kd_puts_6 : decode kc_puts 6 = .ok (.aload_n 0, 1) := by decide +kernel
set_option maxRecDepth 100000 in
theorem kd_puts_7 : decode kc_puts 7 = .ok (.getfield 15, 3) := by decide +kernel
set_option maxRecDepth 100000 in
theorem kd_puts_10 : decode kc_puts 10 = .ok (.iload_n 1, 1) := by decide +kernel
set_option maxRecDepth 100000 in
theorem kd_puts_11 : decode kc_puts 11 = .ok (.aload_n 0, 1) := by decide +kernel
set_option maxRecDepth 100000 in
theorem kd_puts_12 : decode kc_puts 12 = .ok (.getfield 22, 3) := by decide +kernel
set_option maxRecDepth 100000 in
theorem kd_puts_15 : decode kc_puts 15 = .ok (.invokevirtual 399, 3) := by decide +kernel
set_option maxRecDepth 100000 in
theorem kd_puts_18 : decode kc_puts 18 = .ok (.return_, 1) := by decide +kernel
set_option maxHeartbeats 4000000 in
set_option maxRecDepth 100000 in
theorem t_puts {l : Launch} {κ : Nat → Nat} {D : va_G} {tA : Nat → ClassId} (qt qb n cnt : Nat) (f : Nat → Int32) (ml : Int32) (at9 : Nat) (hn : n < 1000) (i : Nat) (q : Nat × String × List Int32) (hq : txL[i]? = some q) (ha : at9 + q.2.2.length ≤ n) : Ct l κ D tA ky_puts kc_puts 3 none 2 0 0 [.ref qt, .int (nI at9), .ref (κ (400000 + i))] [(qt, .inr (11, [.ref qb, .int 0, .int ml, .int (nI cnt)])), (qb, .inl (tA 1, n, .inl f))] (fun r w => r = none ∧ w = [(qt, .inr (11, [.ref qb, .int 0, .int ml, .int (nI cnt)])), (qb, .inl (tA 1, n, .inl (va_cpy (fun j => q.2.2.getD j 0) f 0 at9 q.2.2.length)))]) := by
  refine Ct.of rfl (Nat.le_of_ble_eq_true rfl) ?_
  intro p e s m args below meth c A ls C0 hr hlocks hin hP hD hS hl
  obtain ⟨hx, hb, hml, hown, hts, hK, hA, hI⟩ := id C0
  have hl : lv_has ls 3 [(0, .ref qt), (1, .int (nI at9)), (2, .ref (κ (400000 + i)))] := hl
  have hin : meth.name = "putStringAt" := hin
  have hs8 := (hI.2.1.2.2 i q hq).1
  have hs9 : va_O "java/lang/String" (κ (400000 + i)) A s s.heap ∧ va_OF "java/lang/String" "coder" "B" (.int 0) (κ (400000 + i)) A s s.heap ∧ va_OF "java/lang/String" "value" "[B" (.ref (κ (400010 + i))) (κ (400000 + i)) A s s.heap ∧ va_T .byte (κ (400010 + i)) q.2.2.length (fun j => .int (q.2.2.getD j 0)) A s s.heap := hs8.1 0 (by decide)
  refine lv_aload_n hx hb kd_puts_0 rfl (lv_at hl 0 rfl) ?_
  refine lv_aload_n hx hb kd_puts_1 rfl (lv_at hl 2 rfl) ?_
  refine k_callU (n := 1) (n1 := 1205) (n2 := 1207) (n3 := 2142) (n4 := 118) (n5 := 1208) (As := [.ref (κ (400000 + i))]) (rest := []) (wr := []) C0 (t_infl qt qb n cnt f ml i q hq) (by decide +kernel) ((hI.2.2.2.2.2.2.2.2 _ (by decide)).use rfl) (va_recv hK hP (ci := 11) (q0 := 0) rfl rfl) hP hD hS [0, 1] [] rfl rfl rfl rfl (by decide) hl.1 rfl (Nat.le_of_ble_eq_true rfl) ⟨Nat.le_of_ble_eq_true rfl, Nat.le_of_ble_eq_true rfl⟩ ⟨Nat.le_of_ble_eq_true rfl, Nat.le_of_ble_eq_true rfl⟩ kd_puts_2 rfl (fun r w1 H locs hQ hP hD hS => ?_)
  obtain ⟨rfl, rfl⟩ := hQ
  have hP : va_P D clx [(qt, .inr (11, [.ref qb, .int 0, .int ml, .int (nI cnt)])), (qb, .inl (tA 1, n, .inl f))] H := hP
  have hD : va_D A [(qt, .inr (11, [.ref qb, .int 0, .int ml, .int (nI cnt)])), (qb, .inl (tA 1, n, .inl f))] := hD
  refine lv_aload_n hx hb kd_puts_5 rfl (lv_at hl 2 rfl) ?_
  refine lv_aload_n hx hb kd_puts_6 rfl (lv_at hl 0 rfl) ?_
  refine k_get (k := 0) (v := .ref qb) C0 hP 0 509 rfl (by decide +kernel) rfl kd_puts_7 ?_
  refine lv_iload_n hx hb kd_puts_10 rfl (lv_at hl 1 rfl) ?_
  refine lv_aload_n hx hb kd_puts_11 rfl (lv_at hl 0 rfl) ?_
  refine k_get (k := 1) (v := .int 0) C0 hP 0 510 rfl (by decide +kernel) rfl kd_puts_12 ?_
  refine k_callV (n := 3) (n1 := 1210) (n2 := 1211) (n3 := 1212) (n4 := 120) (n5 := 1213) (As := [.ref qb, .int (nI at9), .int 0]) (rest := []) (wr := [(qt, .inr (11, [.ref qb, .int 0, .int ml, .int (nI cnt)]))]) C0 (t_gbyt qb n at9 f hn i q hq ha) (by decide +kernel) (vk_recv (i := 0) hs8 (by decide) hS) hP hD hS [1] [0] rfl rfl rfl rfl (by decide) hl.1 rfl (Nat.le_of_ble_eq_true rfl) ⟨Nat.le_of_ble_eq_true rfl, Nat.le_of_ble_eq_true rfl⟩ ⟨Nat.le_of_ble_eq_true rfl, Nat.le_of_ble_eq_true rfl⟩ kd_puts_15 rfl (fun r w1 H locs hQ hP hD hS => ?_)
  obtain ⟨rfl, rfl⟩ := hQ
  have hP : va_P D clx [(qt, .inr (11, [.ref qb, .int 0, .int ml, .int (nI cnt)])), (qb, .inl (tA 1, n, .inl (va_cpy (fun j => q.2.2.getD j 0) f 0 at9 q.2.2.length)))] H := hP
  have hD : va_D A [(qt, .inr (11, [.ref qb, .int 0, .int ml, .int (nI cnt)])), (qb, .inl (tA 1, n, .inl (va_cpy (fun j => q.2.2.getD j 0) f 0 at9 q.2.2.length)))] := hD
  exact k_vret C0 hr hlocks hP hD hS ⟨rfl, rfl⟩ ⟨Nat.le_of_ble_eq_true rfl, Nat.le_of_ble_eq_true rfl⟩ kd_puts_18
abbrev kc_apps : ByteArray := prog_16_method_22_code
def ky_apps : MethodName := ⟨"java/lang/AbstractStringBuilder", "append", "(Ljava/lang/String;)Ljava/lang/AbstractStringBuilder;"⟩
set_option maxRecDepth 100000 in
theorem kd_apps_0 : decode kc_apps 0 = .ok (.aload_n 1, 1) := by decide +kernel
set_option maxRecDepth 100000 in
theorem kd_apps_1 : decode kc_apps 1 = .ok (.ifnonnull 8, 3) := by decide +kernel
set_option maxRecDepth 100000 in
theorem kd_apps_9 : decode kc_apps 9 = .ok (.aload_n 1, 1) := by decide +kernel
set_option maxRecDepth 100000 in
theorem kd_apps_10 : decode kc_apps 10 = .ok (.invokevirtual 32, 3) := by decide +kernel
set_option maxRecDepth 100000 in
theorem kd_apps_13 : decode kc_apps 13 = .ok (.istore_n 2, 1) := by decide +kernel
set_option maxRecDepth 100000 in
theorem kd_apps_14 : decode kc_apps 14 = .ok (.aload_n 0, 1) := by decide +kernel
set_option maxRecDepth 100000 in
theorem kd_apps_15 : decode kc_apps 15 = .ok (.aload_n 0, 1) := by decide +kernel
set_option maxRecDepth 100000 in
theorem kd_apps_16 : decode kc_apps 16 = .ok (.getfield 79, 3) := by decide +kernel
set_option maxRecDepth 100000 in
theorem kd_apps_19 : decode kc_apps 19 = .ok (.iload_n 2, 1) := by decide +kernel
set_option maxRecDepth 100000 in
theorem kd_apps_20 : decode kc_apps 20 = .ok (.iadd, 1) := by decide +kernel
set_option maxRecDepth 100000 in
theorem kd_apps_21 : decode kc_apps 21 = .ok (.invokevirtual 100, 3) := by decide +kernel
set_option maxRecDepth 100000 in
theorem kd_apps_24 : decode kc_apps 24 = .ok (.aload_n 0, 1) := by decide +kernel
set_option maxRecDepth 100000 in
theorem kd_apps_25 : decode kc_apps 25 = .ok (.aload_n 0, 1) := by decide +kernel
set_option maxRecDepth 100000 in
theorem kd_apps_26 : decode kc_apps 26 = .ok (.getfield 79, 3) := by decide +kernel
set_option maxRecDepth 100000 in
theorem kd_apps_29 : decode kc_apps 29 = .ok (.aload_n 1, 1) := by decide +kernel
set_option maxRecDepth 100000 in
theorem kd_apps_30 : decode kc_apps 30 = .ok (.invokevirtual 208, 3) := by decide +kernel
set_option maxRecDepth 100000 in
theorem kd_apps_33 : decode kc_apps 33 = .ok (.aload_n 0, 1) := by decide +kernel
set_option maxRecDepth 100000 in
theorem kd_apps_34 : decode kc_apps 34 = .ok (.dup, 1) := by decide +kernel
set_option maxRecDepth 100000 in
theorem kd_apps_35 : decode kc_apps 35 = .ok (.getfield 79, 3) := by decide +kernel
set_option maxRecDepth 100000 in
theorem kd_apps_38 : decode kc_apps 38 = .ok (.iload_n 2, 1) := by decide +kernel
set_option maxRecDepth 100000 in
theorem kd_apps_39 : decode kc_apps 39 = .ok (.iadd, 1) := by decide +kernel
set_option maxRecDepth 100000 in
theorem kd_apps_40 : decode kc_apps 40 = .ok (.putfield 79, 3) := by decide +kernel
set_option maxRecDepth 100000 in
theorem kd_apps_43 : decode kc_apps 43 = .ok (.aload_n 0, 1) := by decide +kernel
set_option maxRecDepth 100000 in
theorem kd_apps_44 : decode kc_apps 44 = .ok (.areturn, 1) := by decide +kernel
set_option maxHeartbeats 4000000 in
set_option maxRecDepth 100000 in
theorem t_apps {l : Launch} {κ : Nat → Nat} {D : va_G} {tA : Nat → ClassId} (qt qb n cnt : Nat) (f g9 : Nat → Int32) (ml : Int32) (hn : n = 16 ∨ n = 34) (hc : cnt ≤ n) (hf : Byt f n) (hg : ∀ j, j < cnt → f j = g9 j) (i : Nat) (q : Nat × String × List Int32) (hq : txL[i]? = some q) (hm : cnt + q.2.2.length ≤ 34) : Ct l κ D tA ky_apps kc_apps 3 (some (FieldType.object "java/lang/AbstractStringBuilder")) 6 1 34 [.ref qt, .ref (κ (400000 + i))] [(qt, .inr (11, [.ref qb, .int 0, .int ml, .int (nI cnt)])), (qb, .inl (tA 1, n, .inl f))] (fun r w => r = some (.ref qt) ∧ TWp tA qt (cnt + q.2.2.length) (fun j => if j < cnt then g9 j else q.2.2.getD (j - cnt) 0) w) := by
  refine Ct.of rfl (Nat.le_of_ble_eq_true rfl) ?_
  intro p e s m args below meth c A ls C0 hr hlocks hin hP hD hS hl
  obtain ⟨hx, hb, hml, hown, hts, hK, hA, hI⟩ := id C0
  have hl : lv_has ls 3 [(0, .ref qt), (1, .ref (κ (400000 + i)))] := hl
  have hin : meth.name = "append" := hin
  have hs8 := (hI.2.1.2.2 i q hq).1
  have hs9 : va_O "java/lang/String" (κ (400000 + i)) A s s.heap ∧ va_OF "java/lang/String" "coder" "B" (.int 0) (κ (400000 + i)) A s s.heap ∧ va_OF "java/lang/String" "value" "[B" (.ref (κ (400010 + i))) (κ (400000 + i)) A s s.heap ∧ va_T .byte (κ (400010 + i)) q.2.2.length (fun j => .int (q.2.2.getD j 0)) A s s.heap := hs8.1 0 (by decide)
  have hq9 := txL_fit q (List.mem_of_getElem? hq)
  refine lv_aload_n hx hb kd_apps_0 rfl (lv_at hl 1 rfl) ?_
  refine lv_ifnonnull (tgt := 9) hx hb kd_apps_1 (by decide) ?_
  refine lv_aload_n hx hb kd_apps_9 rfl (lv_at hl 1 rfl) ?_
  refine k_callV (n := 0) (n1 := 1192) (n2 := 1193) (n3 := 1194) (n4 := 120) (n5 := 1195) (As := []) (rest := []) (wr := [(qt, .inr (11, [.ref qb, .int 0, .int ml, .int (nI cnt)])), (qb, .inl (tA 1, n, .inl f))]) C0 (t_slen i q hq) (by decide +kernel) (vk_recv (i := 0) hs8 (by decide) hS) hP hD hS [] [0, 1] rfl rfl rfl rfl (by decide) hl.1 rfl (Nat.le_of_ble_eq_true rfl) ⟨Nat.le_of_ble_eq_true rfl, Nat.le_of_ble_eq_true rfl⟩ ⟨Nat.le_of_ble_eq_true rfl, Nat.le_of_ble_eq_true rfl⟩ kd_apps_10 rfl (fun r w1 H locs hQ hP hD hS => ?_)
  obtain ⟨rfl, rfl⟩ := hQ
  have hP : va_P D clx [(qt, .inr (11, [.ref qb, .int 0, .int ml, .int (nI cnt)])), (qb, .inl (tA 1, n, .inl f))] H := hP
  have hD : va_D A [(qt, .inr (11, [.ref qb, .int 0, .int ml, .int (nI cnt)])), (qb, .inl (tA 1, n, .inl f))] := hD
  refine lv_istore_n (lv' := [(2, .int (nI q.2.2.length)), (0, .ref qt), (1, .ref (κ (400000 + i)))]) hx hb kd_apps_13 rfl hl (by decide) rfl (fun ls hl => ?_)
  refine lv_aload_n hx hb kd_apps_14 rfl (lv_at hl 1 rfl) ?_
  refine lv_aload_n hx hb kd_apps_15 rfl (lv_at hl 1 rfl) ?_
  refine k_get (k := 3) (v := .int (nI cnt)) C0 hP 0 512 rfl (by decide +kernel) rfl kd_apps_16 ?_
  refine lv_iload_n hx hb kd_apps_19 rfl (lv_at hl 0 rfl) ?_
  refine lv_iadd hx hb kd_apps_20 ?_
  refine W.eq (g2 := F0 m 21 ls [.int (nI (cnt + q.2.2.length)), .ref qt]) (by first | (rw [nI_add]; done) | (rw [nI_add]; rfl)) ?_
  refine k_callU (n := 1) (n1 := 1062) (n2 := 1064) (n3 := 2135) (n4 := 118) (n5 := 1065) (As := [.int (nI (cnt + q.2.2.length))]) (rest := []) (wr := []) C0 (t_ens qt qb n cnt (cnt + q.2.2.length) f g9 ml hn hm hc hf hg) (by decide +kernel) ((hI.2.2.2.2.2.2.2.2 _ (by decide)).use rfl) (va_recv hK hP (ci := 11) (q0 := 0) rfl rfl) hP hD hS [0, 1] [] rfl rfl rfl rfl (by decide) hl.1 rfl (Nat.le_of_ble_eq_true rfl) ⟨Nat.le_of_ble_eq_true rfl, Nat.le_of_ble_eq_true rfl⟩ ⟨Nat.le_of_ble_eq_true rfl, Nat.le_of_ble_eq_true rfl⟩ kd_apps_21 rfl (fun r w1 H locs hQ hP hD hS => ?_)
  obtain ⟨rfl, b2, n2, f2, hn2, hm2, hc2, hf2, hg2, rfl⟩ := hQ
  have hP : va_P D clx [(qt, .inr (11, [.ref b2, .int 0, .int ml, .int (nI cnt)])), (b2, .inl (tA 1, n2, .inl f2))] H := hP
  have hD : va_D A [(qt, .inr (11, [.ref b2, .int 0, .int ml, .int (nI cnt)])), (b2, .inl (tA 1, n2, .inl f2))] := hD
  refine lv_aload_n hx hb kd_apps_24 rfl (lv_at hl 1 rfl) ?_
  refine lv_aload_n hx hb kd_apps_25 rfl (lv_at hl 1 rfl) ?_
  refine k_get (k := 3) (v := .int (nI cnt)) C0 hP 0 512 rfl (by decide +kernel) rfl kd_apps_26 ?_
  refine lv_aload_n hx hb kd_apps_29 rfl (lv_at hl 2 rfl) ?_
  refine k_callU (n := 2) (n1 := 1201) (n2 := 1203) (n3 := 2141) (n4 := 118) (n5 := 1204) (As := [.int (nI cnt), .ref (κ (400000 + i))]) (rest := []) (wr := []) C0 (t_puts qt b2 n2 cnt f2 ml cnt (by omega) i q hq hm2) (by decide +kernel) ((hI.2.2.2.2.2.2.2.2 _ (by decide)).use rfl) (va_recv hK hP (ci := 11) (q0 := 0) rfl rfl) hP hD hS [0, 1] [] rfl rfl rfl rfl (by decide) hl.1 rfl (Nat.le_of_ble_eq_true rfl) ⟨Nat.le_of_ble_eq_true rfl, Nat.le_of_ble_eq_true rfl⟩ ⟨Nat.le_of_ble_eq_true rfl, Nat.le_of_ble_eq_true rfl⟩ kd_apps_30 rfl (fun r w1 H locs hQ hP hD hS => ?_)
  obtain ⟨rfl, rfl⟩ := hQ
  have hP : va_P D clx [(qt, .inr (11, [.ref b2, .int 0, .int ml, .int (nI cnt)])), (b2, .inl (tA 1, n2, .inl (va_cpy (fun j => q.2.2.getD j 0) f2 0 cnt q.2.2.length)))] H := hP
  have hD : va_D A [(qt, .inr (11, [.ref b2, .int 0, .int ml, .int (nI cnt)])), (b2, .inl (tA 1, n2, .inl (va_cpy (fun j => q.2.2.getD j 0) f2 0 cnt q.2.2.length)))] := hD
  refine lv_aload_n hx hb kd_apps_33 rfl (lv_at hl 1 rfl) ?_
  refine lv_dup hx hb kd_apps_34 rfl ?_
  refine k_get (k := 3) (v := .int (nI cnt)) C0 hP 0 512 rfl (by decide +kernel) rfl kd_apps_35 ?_
  refine lv_iload_n hx hb kd_apps_38 rfl (lv_at hl 0 rfl) ?_
  refine lv_iadd hx hb kd_apps_39 ?_
  refine W.eq (g2 := F0 m 40 ls [.int (nI (cnt + q.2.2.length)), .ref qt]) (by first | (rw [nI_add]; done) | (rw [nI_add]; rfl)) ?_
  refine k_put (k := 3) (v := .int (nI (cnt + q.2.2.length))) C0 hP hD hS 0 512 rfl (by decide +kernel) rfl rfl (Nat.le_of_ble_eq_true rfl) kd_apps_40 (fun H locs hP hD hS => ?_)
  have hP : va_P D clx [(qt, .inr (11, [.ref b2, .int 0, .int ml, .int (nI (cnt + q.2.2.length))])), (b2, .inl (tA 1, n2, .inl (va_cpy (fun j => q.2.2.getD j 0) f2 0 cnt q.2.2.length)))] H := hP
  have hD : va_D A [(qt, .inr (11, [.ref b2, .int 0, .int ml, .int (nI (cnt + q.2.2.length))])), (b2, .inl (tA 1, n2, .inl (va_cpy (fun j => q.2.2.getD j 0) f2 0 cnt q.2.2.length)))] := hD
  refine lv_aload_n hx hb kd_apps_43 rfl (lv_at hl 1 rfl) ?_
  refine k_aret C0 hr (Or.inl ⟨_, rfl⟩) hlocks hP hD hS ⟨rfl, b2, n2, _, ml, hn2, hm2, ?_, ?_, rfl⟩ ⟨Nat.le_of_ble_eq_true rfl, Nat.le_of_ble_eq_true rfl⟩ kd_apps_44
  · intro j hj
    unfold va_cpy
    try dsimp only
    by_cases h7 : cnt ≤ j ∧ j < cnt + q.2.2.length
    · rw [if_pos h7]; exact hq9.2 _ (by omega)
    · rw [if_neg h7]; exact hf2 j hj
  · intro j hj
    unfold va_cpy
    try dsimp only
    by_cases h7 : cnt ≤ j
    · rw [if_pos ⟨h7, hj⟩, if_neg (by omega), Nat.zero_add]
    · rw [if_neg (by omega), if_pos (by omega)]; exact hg2 j (by omega)
theorem byt_fit : ∀ {v : Nat}, v < 128 → fits .byte (.int (nI v)) = true := by
  have h : ∀ v, v < 128 → fits .byte (.int (nI v)) = true := by decide +kernel
  intro v; exact h v
theorem byt_i2b : ∀ {v : Nat}, v < 128 → (nI v).toInt8.toInt32 = nI v := by
  have h : ∀ v, v < 128 → (nI v).toInt8.toInt32 = nI v := by decide +kernel
  intro v; exact h v
theorem byt_nar : ∀ {v : Nat}, v < 128 → vp_nar .byte (nI v) = nI v := by
  have h : ∀ v, v < 128 → vp_nar .byte (nI v) = nI v := by decide +kernel
  intro v; exact h v
abbrev kc_appc : ByteArray := prog_16_method_31_code
def ky_appc : MethodName := ⟨"java/lang/AbstractStringBuilder", "append", "(C)Ljava/lang/AbstractStringBuilder;"⟩
set_option maxRecDepth 100000 in
theorem kd_appc_0 : decode kc_appc 0 = .ok (.aload_n 0, 1) := by decide +kernel
set_option maxRecDepth 100000 in
theorem kd_appc_1 : decode kc_appc 1 = .ok (.aload_n 0, 1) := by decide +kernel
set_option maxRecDepth 100000 in
theorem kd_appc_2 : decode kc_appc 2 = .ok (.getfield 79, 3) := by decide +kernel
set_option maxRecDepth 100000 in
theorem kd_appc_5 : decode kc_appc 5 = .ok (.iconst 1, 1) := by decide +kernel
set_option maxRecDepth 100000 in
theorem kd_appc_6 : decode kc_appc 6 = .ok (.iadd, 1) := by decide +kernel
set_option maxRecDepth 100000 in
theorem kd_appc_7 : decode kc_appc 7 = .ok (.invokevirtual 100, 3) := by decide +kernel
set_option maxRecDepth 100000 in
theorem kd_appc_10 : decode kc_appc 10 = .ok (.aload_n 0, 1) := by decide +kernel
set_option maxRecDepth 100000 in
theorem kd_appc_11 : decode kc_appc 11 = .ok (.invokevirtual 83, 3) := by decide +kernel
set_option maxRecDepth 100000 in
theorem kd_appc_14 : decode kc_appc 14 = .ok (.ifCond .eq 31, 3) := by decide +kernel
set_option maxRecDepth 100000 in
theorem kd_appc_17 : decode kc_appc 17 = .ok (.iload_n 1, 1) := by decide +kernel
set_option maxRecDepth 100000 in
theorem kd_appc_18 : decode kc_appc 18 = .ok (.invokestatic 191, 3) := by decide +kernel
set_option maxRecDepth 100000 in
theorem kd_appc_21 : decode kc_appc 21 = .ok (.ifCond .eq 24, 3) := by decide +kernel
set_option maxRecDepth 100000 in
theorem kd_appc_24 : decode kc_appc 24 = .ok (.aload_n 0, 1) := by decide +kernel
set_option maxRecDepth 100000 in
theorem kd_appc_25 : decode kc_appc 25 = .ok (.getfield 15, 3) := by decide +kernel
set_option maxRecDepth 100000 in
theorem kd_appc_28 : decode kc_appc 28 = .ok (.aload_n 0, 1) := by decide +kernel
set_option maxRecDepth 100000 in
theorem kd_appc_29 : decode kc_appc 29 = .ok (.dup, 1) := by decide +kernel
set_option maxRecDepth 100000 in
theorem kd_appc_30 : decode kc_appc 30 = .ok (.getfield 79, 3) := by decide +kernel
set_option maxRecDepth 100000 in
theorem kd_appc_33 : decode kc_appc 33 = .ok (.dup_x1, 1) := by decide +kernel
set_option maxRecDepth 100000 in
theorem kd_appc_34 : decode kc_appc 34 = .ok (.iconst 1, 1) := by decide +kernel
set_option maxRecDepth 100000 in
theorem kd_appc_35 : decode kc_appc 35 = .ok (.iadd, 1) := by decide +kernel
set_option maxRecDepth 100000 in
theorem kd_appc_36 : decode kc_appc 36 = .ok (.putfield 79, 3) := by decide +kernel
set_option maxRecDepth 100000 in
theorem kd_appc_39 : decode kc_appc 39 = .ok (.iload_n 1, 1) := by decide +kernel
set_option maxRecDepth 100000 in
theorem kd_appc_40 : decode kc_appc 40 = .ok (.i2b, 1) := by decide +kernel
set_option maxRecDepth 100000 in
theorem kd_appc_41 : decode kc_appc 41 = .ok (.bastore, 1) := by decide +kernel
set_option maxRecDepth 100000 in
theorem kd_appc_42 : decode kc_appc 42 = .ok (.goto 33, 3) := by decide +kernel
set_option maxRecDepth 100000 in
theorem kd_appc_75 : decode kc_appc 75 = .ok (.aload_n 0, 1) := by decide +kernel
set_option maxRecDepth 100000 in
theorem kd_appc_76 : decode kc_appc 76 = .ok (.areturn, 1) := by decide +kernel
set_option maxHeartbeats 4000000 in
set_option maxRecDepth 100000 in
theorem t_appc {l : Launch} {κ : Nat → Nat} {D : va_G} {tA : Nat → ClassId} (qt qb n cnt : Nat) (f g9 : Nat → Int32) (ml : Int32) (hn : n = 16 ∨ n = 34) (hc : cnt ≤ n) (hf : Byt f n) (hg : ∀ j, j < cnt → f j = g9 j) (v : Nat) (hv : v < 128) (hm : cnt + 1 ≤ 34) : Ct l κ D tA ky_appc kc_appc 2 (some (FieldType.object "java/lang/AbstractStringBuilder")) 6 1 34 [.ref qt, .int (nI v)] [(qt, .inr (11, [.ref qb, .int 0, .int ml, .int (nI cnt)])), (qb, .inl (tA 1, n, .inl f))] (fun r w => r = some (.ref qt) ∧ TWp tA qt (cnt + 1) (fun j => if j < cnt then g9 j else nI v) w) := by
  refine Ct.of rfl (Nat.le_of_ble_eq_true rfl) ?_
  intro p e s m args below meth c A ls C0 hr hlocks hin hP hD hS hl
  obtain ⟨hx, hb, hml, hown, hts, hK, hA, hI⟩ := id C0
  have hl : lv_has ls 2 [(0, .ref qt), (1, .int (nI v))] := hl
  have hin : meth.name = "append" := hin
  refine lv_aload_n hx hb kd_appc_0 rfl (lv_at hl 0 rfl) ?_
  refine lv_aload_n hx hb kd_appc_1 rfl (lv_at hl 0 rfl) ?_
  refine k_get (k := 3) (v := .int (nI cnt)) C0 hP 0 512 rfl (by decide +kernel) rfl kd_appc_2 ?_
  refine lv_iconst (v := 1) hx hb kd_appc_5 (by decide) ?_
  refine lv_iadd hx hb kd_appc_6 ?_
  refine W.eq (g2 := F0 m 7 ls [.int (nI (cnt + 1)), .ref qt]) (by first | (rw [← nI_1]; done) | (rw [← nI_1]; rfl)) ?_
  refine k_callU (n := 1) (n1 := 1062) (n2 := 1064) (n3 := 2135) (n4 := 118) (n5 := 1065) (As := [.int (nI (cnt + 1))]) (rest := []) (wr := []) C0 (t_ens qt qb n cnt (cnt + 1) f g9 ml hn hm hc hf hg) (by decide +kernel) ((hI.2.2.2.2.2.2.2.2 _ (by decide)).use rfl) (va_recv hK hP (ci := 11) (q0 := 0) rfl rfl) hP hD hS [0, 1] [] rfl rfl rfl rfl (by decide) hl.1 rfl (Nat.le_of_ble_eq_true rfl) ⟨Nat.le_of_ble_eq_true rfl, Nat.le_of_ble_eq_true rfl⟩ ⟨Nat.le_of_ble_eq_true rfl, Nat.le_of_ble_eq_true rfl⟩ kd_appc_7 rfl (fun r w1 H locs hQ hP hD hS => ?_)
  obtain ⟨rfl, b2, n2, f2, hn2, hm2, hc2, hf2, hg2, rfl⟩ := hQ
  have hP : va_P D clx [(qt, .inr (11, [.ref b2, .int 0, .int ml, .int (nI cnt)])), (b2, .inl (tA 1, n2, .inl f2))] H := hP
  have hD : va_D A [(qt, .inr (11, [.ref b2, .int 0, .int ml, .int (nI cnt)])), (b2, .inl (tA 1, n2, .inl f2))] := hD
  refine lv_aload_n hx hb kd_appc_10 rfl (lv_at hl 0 rfl) ?_
  refine k_callU (n := 0) (n1 := 1091) (n2 := 1092) (n3 := 1093) (n4 := 118) (n5 := 1095) (As := []) (rest := []) (wr := []) C0 (t_isl qt b2 n2 cnt f2 ml) (by decide +kernel) (hts _ (lkB_in (n := 1094) (by decide +kernel))) (va_recv hK hP (ci := 11) (q0 := 0) rfl rfl) hP hD hS [0, 1] [] rfl rfl rfl rfl (by decide) hl.1 rfl (Nat.le_of_ble_eq_true rfl) ⟨Nat.le_of_ble_eq_true rfl, Nat.le_of_ble_eq_true rfl⟩ ⟨Nat.le_of_ble_eq_true rfl, Nat.le_of_ble_eq_true rfl⟩ kd_appc_11 rfl (fun r w1 H locs hQ hP hD hS => ?_)
  obtain ⟨rfl, rfl⟩ := hQ
  have hP : va_P D clx [(qt, .inr (11, [.ref b2, .int 0, .int ml, .int (nI cnt)])), (b2, .inl (tA 1, n2, .inl f2))] H := hP
  have hD : va_D A [(qt, .inr (11, [.ref b2, .int 0, .int ml, .int (nI cnt)])), (b2, .inl (tA 1, n2, .inl f2))] := hD
  refine lv_if_eq (tgt := 45) hx hb kd_appc_14 (by decide) (fun h9 => absurd h9 (by decide)) (fun h9 => ?_)
  refine lv_iload_n hx hb kd_appc_17 rfl (lv_at hl 1 rfl) ?_
  refine k_callS (n := 1) (n1 := 1120) (n2 := 1121) (n4 := 131) (n5 := 1122) (As := [.int (nI v)]) (rest := []) (wr := [(qt, .inr (11, [.ref b2, .int 0, .int ml, .int (nI cnt)])), (b2, .inl (tA 1, n2, .inl f2))]) C0 (t_cane (nI v) (fun h => by rw [show (255 : Int32) = nI 255 from rfl, nI_ltI (by decide) (by omega)] at h; omega)) (by decide +kernel) hP hD hS [] [0, 1] rfl rfl rfl rfl (by decide) hl.1 rfl (Nat.le_of_ble_eq_true rfl) ⟨Nat.le_of_ble_eq_true rfl, Nat.le_of_ble_eq_true rfl⟩ ⟨Nat.le_of_ble_eq_true rfl, Nat.le_of_ble_eq_true rfl⟩ kd_appc_18 rfl (fun r w1 H locs hQ hP hD hS => ?_)
  obtain ⟨rfl, rfl⟩ := hQ
  have hP : va_P D clx [(qt, .inr (11, [.ref b2, .int 0, .int ml, .int (nI cnt)])), (b2, .inl (tA 1, n2, .inl f2))] H := hP
  have hD : va_D A [(qt, .inr (11, [.ref b2, .int 0, .int ml, .int (nI cnt)])), (b2, .inl (tA 1, n2, .inl f2))] := hD
  refine lv_if_eq (tgt := 45) hx hb kd_appc_21 (by decide) (fun h9 => absurd h9 (by decide)) (fun h9 => ?_)
  refine lv_aload_n hx hb kd_appc_24 rfl (lv_at hl 0 rfl) ?_
  refine k_get (k := 0) (v := .ref b2) C0 hP 0 509 rfl (by decide +kernel) rfl kd_appc_25 ?_
  refine lv_aload_n hx hb kd_appc_28 rfl (lv_at hl 0 rfl) ?_
  refine lv_dup hx hb kd_appc_29 rfl ?_
  refine k_get (k := 3) (v := .int (nI cnt)) C0 hP 0 512 rfl (by decide +kernel) rfl kd_appc_30 ?_
  refine lv_dup_x1 hx hb kd_appc_33 rfl rfl ?_
  refine lv_iconst (v := 1) hx hb kd_appc_34 (by decide) ?_
  refine lv_iadd hx hb kd_appc_35 ?_
  refine W.eq (g2 := F0 m 36 ls [.int (nI (cnt + 1)), .ref qt, .int (nI cnt), .ref b2]) (by first | (rw [← nI_1]; done) | (rw [← nI_1]; rfl)) ?_
  refine k_put (k := 3) (v := .int (nI (cnt + 1))) C0 hP hD hS 0 512 rfl (by decide +kernel) rfl rfl (Nat.le_of_ble_eq_true rfl) kd_appc_36 (fun H locs hP hD hS => ?_)
  have hP : va_P D clx [(qt, .inr (11, [.ref b2, .int 0, .int ml, .int (nI (cnt + 1))])), (b2, .inl (tA 1, n2, .inl f2))] H := hP
  have hD : va_D A [(qt, .inr (11, [.ref b2, .int 0, .int ml, .int (nI (cnt + 1))])), (b2, .inl (tA 1, n2, .inl f2))] := hD
  refine lv_iload_n hx hb kd_appc_39 rfl (lv_at hl 1 rfl) ?_
  refine lv_i2b (v := (nI v)) hx hb kd_appc_40 (byt_i2b hv) ?_
  refine va_bast hx hb hK hP hD hS 1 1 rfl rfl (vp_in_nI (by omega) (by omega)) kd_appc_41 (fun H locs hP hD hS => ?_)
  have hP : va_P D clx [(qt, .inr (11, [.ref b2, .int 0, .int ml, .int (nI (cnt + 1))])), (b2, .inl (tA 1, n2, .inl (upd f2 (nI cnt).toNatClampNeg (vp_nar .byte (nI v)))))] H := hP
  have hD : va_D A [(qt, .inr (11, [.ref b2, .int 0, .int ml, .int (nI (cnt + 1))])), (b2, .inl (tA 1, n2, .inl (upd f2 (nI cnt).toNatClampNeg (vp_nar .byte (nI v)))))] := hD
  rw [nI_clamp (n := cnt) (by omega), byt_nar hv] at hP hD
  have hP : va_P D clx [(qt, .inr (11, [.ref b2, .int 0, .int ml, .int (nI (cnt + 1))])), (b2, .inl (tA 1, n2, .inl (upd f2 cnt (nI v))))] H := hP
  have hD : va_D A [(qt, .inr (11, [.ref b2, .int 0, .int ml, .int (nI (cnt + 1))])), (b2, .inl (tA 1, n2, .inl (upd f2 cnt (nI v))))] := hD
  refine lv_goto (tgt := 75) hx hb kd_appc_42 (by decide) ?_
  refine lv_aload_n hx hb kd_appc_75 rfl (lv_at hl 0 rfl) ?_
  refine k_aret C0 hr (Or.inl ⟨_, rfl⟩) hlocks hP hD hS ⟨rfl, b2, n2, _, ml, hn2, hm2, ?_, ?_, rfl⟩ ⟨Nat.le_of_ble_eq_true rfl, Nat.le_of_ble_eq_true rfl⟩ kd_appc_76
  · intro j hj
    unfold upd
    try dsimp only
    by_cases h7 : j = cnt
    · rw [if_pos h7]; exact byt_fit hv
    · rw [if_neg h7]; exact hf2 j hj
  · intro j hj
    unfold upd
    try dsimp only
    by_cases h7 : j = cnt
    · rw [if_pos h7, if_neg (by omega)]
    · rw [if_neg h7, if_pos (by omega)]; exact hg2 j (by omega)
