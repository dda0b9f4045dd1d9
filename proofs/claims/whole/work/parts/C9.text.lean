/-! The text: what it is made of. Printed by wip/whole/pF4.py. -/
theorem sh0r (x : Int32) : x >>> ((0 : Int32) &&& 31) = x := by
  rw [show ((0 : Int32) &&& 31) = 0 from by decide]
  simp
theorem sh0l (x : Int32) : x <<< ((0 : Int32) &&& 31) = x := by
  rw [show ((0 : Int32) &&& 31) = 0 from by decide]
  simp
section KMM
variable {κ : Nat → Nat} {own : String} {cc : ByteArray} {nL : Nat} {p : Program} {l : Launch} {e : Env} {R : Room} {s : State} {m : MethodId} {args : Array Value} {below : List Frame} {meth : Method} {c : Code} {D : va_G} {tA : Nat → ClassId} {A : Nat → Prop} {H : Heap} {locs : List Loc} {cells slots ix n1 pc : Nat} {Qf : State → Prop} {ls : Array Slot} {rest : List Value} {x y v : Int32}
theorem k_min (C0 : Kf κ own cc nL p s m args c D tA A) (hB : lkB n1 (.methodLink own ix Lib.Math.min.name) = true) (hl : ls.size = nL) (hro : 1 ≤ R.frames ∧ 100 ≤ R.locals) (hcat : (rest.map fun v => v.category).sum ≤ 8) (hcs : cells ≤ R.cells ∧ slots ≤ R.slots) (hd : decode cc pc = .ok (.invokestatic ix, 3)) (hv : (if y < x then y else x) = v)
    (kk : W p l e R s m args below meth c H locs cells slots Qf (F0 m (pc + 3) ls (.int v :: rest))) : W p l e R s m args below meth c H locs cells slots Qf (F0 m pc ls (.int y :: .int x :: rest)) := by
  obtain ⟨hx, hb, hml, hown, hts, hK, hA, hI⟩ := C0
  refine va_mmin hx hb (hml.trans hl.symm) hown (hts _ (lkB_in hB)) (hts _ wd_5) (hts _ wd_6) (hts _ wd_8) hro.1 (by omega) hcs.1 hcs.2 hd ?_
  rw [hv]; exact kk
theorem k_max (C0 : Kf κ own cc nL p s m args c D tA A) (hB : lkB n1 (.methodLink own ix Lib.Math.max.name) = true) (hl : ls.size = nL) (hro : 1 ≤ R.frames ∧ 100 ≤ R.locals) (hcat : (rest.map fun v => v.category).sum ≤ 8) (hcs : cells ≤ R.cells ∧ slots ≤ R.slots) (hd : decode cc pc = .ok (.invokestatic ix, 3)) (hv : (if x < y then y else x) = v)
    (kk : W p l e R s m args below meth c H locs cells slots Qf (F0 m (pc + 3) ls (.int v :: rest))) : W p l e R s m args below meth c H locs cells slots Qf (F0 m pc ls (.int y :: .int x :: rest)) := by
  obtain ⟨hx, hb, hml, hown, hts, hK, hA, hI⟩ := C0
  refine va_mmax hx hb (hml.trans hl.symm) hown (hts _ (lkB_in hB)) (hts _ wd_4) (hts _ wd_6) (hts _ wd_7) hro.1 (by omega) hcs.1 hcs.2 hd ?_
  rw [hv]; exact kk
end KMM
/-- bytes -/
def Byt (f : Nat → Int32) (n : Nat) : Prop := ∀ j, j < n → fits .byte (.int (f j)) = true
abbrev kc_isl : ByteArray := prog_16_method_68_code
def ky_isl : MethodName := ⟨"java/lang/AbstractStringBuilder", "isLatin1", "()Z"⟩
set_option maxRecDepth 100000 in
theorem kd_isl_0 : decode kc_isl 0 = .ok (.getstatic 18, 3) := by decide +kernel
set_option maxRecDepth 100000 in
theorem kd_isl_3 : decode kc_isl 3 = .ok (.ifCond .eq 14, 3) := by decide +kernel
set_option maxRecDepth 100000 in
theorem kd_isl_6 : decode kc_isl 6 = .ok (.aload_n 0, 1) := by decide +kernel
set_option maxRecDepth 100000 in
theorem kd_isl_7 : decode kc_isl 7 = .ok (.getfield 22, 3) := by decide +kernel
set_option maxRecDepth 100000 in
theorem kd_isl_10 : decode kc_isl 10 = .ok (.ifCond .ne 7, 3) := by decide +kernel
set_option maxRecDepth 100000 in
theorem kd_isl_13 : decode kc_isl 13 = .ok (.iconst 1, 1) := by decide +kernel
set_option maxRecDepth 100000 in
theorem kd_isl_14 : decode kc_isl 14 = .ok (.goto 4, 3) := by decide +kernel
set_option maxRecDepth 100000 in
theorem kd_isl_18 : decode kc_isl 18 = .ok (.ireturn, 1) := by decide +kernel
set_option maxHeartbeats 4000000 in
set_option maxRecDepth 100000 in
theorem t_isl {l : Launch} {κ : Nat → Nat} {D : va_G} {tA : Nat → ClassId} (qt qb n cnt : Nat) (f : Nat → Int32) (ml : Int32) : Ct l κ D tA ky_isl kc_isl 1 (some FieldType.boolean) 0 0 0 [.ref qt] [(qt, .inr (11, [.ref qb, .int 0, .int ml, .int (nI cnt)])), (qb, .inl (tA 1, n, .inl f))] (fun r w => r = some (.int 1) ∧ w = [(qt, .inr (11, [.ref qb, .int 0, .int ml, .int (nI cnt)])), (qb, .inl (tA 1, n, .inl f))]) := by
  refine Ct.of rfl (Nat.le_of_ble_eq_true rfl) ?_
  intro p e s m args below meth c A ls C0 hr hlocks hin hP hD hS hl
  obtain ⟨hx, hb, hml, hown, hts, hK, hA, hI⟩ := id C0
  have hl : lv_has ls 1 [(0, .ref qt)] := hl
  have hin : meth.name = "isLatin1" := hin
  refine va_gets hx hb hI.2.1.1 hS hown (hts _ (lkB_in (n := 500) (w := .fieldLink "java/lang/AbstractStringBuilder" 18 "java/lang/String" "COMPACT_STRINGS" "Z") (by decide +kernel))) (fun _ h9 => h9) kd_isl_0 ?_
  refine lv_if_eq (tgt := 17) hx hb kd_isl_3 (by decide) (fun h9 => absurd h9 (by decide)) (fun h9 => ?_)
  refine lv_aload_n hx hb kd_isl_6 rfl (lv_at hl 0 rfl) ?_
  refine k_get (k := 1) (v := .int 0) C0 hP 0 510 rfl (by decide +kernel) rfl kd_isl_7 ?_
  refine lv_if_ne (tgt := 17) hx hb kd_isl_10 (by decide) (fun h9 => absurd h9 (by decide)) (fun h9 => ?_)
  refine lv_iconst (v := 1) hx hb kd_isl_13 (by decide) ?_
  refine lv_goto (tgt := 18) hx hb kd_isl_14 (by decide) ?_
  exact k_zret C0 hr (rfl) hlocks hP hD hS ⟨rfl, rfl⟩ ⟨Nat.le_of_ble_eq_true rfl, Nat.le_of_ble_eq_true rfl⟩ kd_isl_18
abbrev kc_nlen : ByteArray := prog_37_method_27_code
def ky_nlen : MethodName := ⟨"jdk/internal/util/ArraysSupport", "newLength", "(III)I"⟩
set_option maxRecDepth 100000 in
theorem kd_nlen_0 : decode kc_nlen 0 = .ok (.iload_n 0, 1) := by decide +kernel
set_option maxRecDepth 100000 in
theorem kd_nlen_1 : decode kc_nlen 1 = .ok (.iload_n 1, 1) := by decide +kernel
set_option maxRecDepth 100000 in
theorem kd_nlen_2 : decode kc_nlen 2 = .ok (.iload_n 2, 1) := by decide +kernel
set_option maxRecDepth 100000 in
theorem kd_nlen_3 : decode kc_nlen 3 = .ok (.invokestatic 194, 3) := by decide +kernel
set_option maxRecDepth 100000 in
theorem kd_nlen_6 : decode kc_nlen 6 = .ok (.iadd, 1) := by decide +kernel
set_option maxRecDepth 100000 in
theorem kd_nlen_7 : decode kc_nlen 7 = .ok (.istore_n 3, 1) := by decide +kernel
set_option maxRecDepth 100000 in
theorem kd_nlen_8 : decode kc_nlen 8 = .ok (.iconst 0, 1) := by decide +kernel
set_option maxRecDepth 100000 in
theorem kd_nlen_9 : decode kc_nlen 9 = .ok (.iload_n 3, 1) := by decide +kernel
set_option maxRecDepth 100000 in
theorem kd_nlen_10 : decode kc_nlen 10 = .ok (.if_icmp .ge 11, 3) := by decide +kernel
set_option maxRecDepth 100000 in
theorem kd_nlen_13 : decode kc_nlen 13 = .ok (.iload_n 3, 1) := by decide +kernel
set_option maxRecDepth 100000 in
theorem kd_nlen_14 : decode kc_nlen 14 = .ok (.ldc 200, 2) := by decide +kernel
set_option maxRecDepth 100000 in
theorem kd_nlen_16 : decode kc_nlen 16 = .ok (.if_icmp .gt 5, 3) := by decide +kernel
set_option maxRecDepth 100000 in
theorem kd_nlen_19 : decode kc_nlen 19 = .ok (.iload_n 3, 1) := by decide +kernel
set_option maxRecDepth 100000 in
theorem kd_nlen_20 : decode kc_nlen 20 = .ok (.ireturn, 1) := by decide +kernel
set_option maxHeartbeats 4000000 in
set_option maxRecDepth 100000 in
theorem t_nlen {l : Launch} {κ : Nat → Nat} {D : va_G} {tA : Nat → ClassId} (x : Int32) (h : x < 18 ∨ x = 18) : Ct l κ D tA ky_nlen kc_nlen 4 (some FieldType.int) 1 0 0 [.int 16, .int x, .int 18] [] (fun r w => r = some (.int 34) ∧ w = []) := by
  refine Ct.of rfl (Nat.le_of_ble_eq_true rfl) ?_
  intro p e s m args below meth c A ls C0 hr hlocks hin hP hD hS hl
  obtain ⟨hx, hb, hml, hown, hts, hK, hA, hI⟩ := id C0
  have hl : lv_has ls 4 [(0, .int 16), (1, .int x), (2, .int 18)] := hl
  have hin : meth.name = "newLength" := hin
  refine lv_iload_n hx hb kd_nlen_0 rfl (lv_at hl 0 rfl) ?_
  refine lv_iload_n hx hb kd_nlen_1 rfl (lv_at hl 1 rfl) ?_
  refine lv_iload_n hx hb kd_nlen_2 rfl (lv_at hl 2 rfl) ?_
  refine k_max (v := 18) (n1 := 1073) C0 (by decide +kernel) hl.1 ⟨Nat.le_of_ble_eq_true rfl, Nat.le_of_ble_eq_true rfl⟩ (Nat.le_of_ble_eq_true rfl) ⟨Nat.le_of_ble_eq_true rfl, Nat.le_of_ble_eq_true rfl⟩ kd_nlen_3 (by rcases h with h | h; exact if_pos h; subst h; rfl) ?_
  refine lv_iadd hx hb kd_nlen_6 ?_
  refine W.eq (g2 := F0 m 7 ls [.int 34]) (by rfl) ?_
  refine lv_istore_n (lv' := [(3, .int 34), (0, .int 16), (1, .int x), (2, .int 18)]) hx hb kd_nlen_7 rfl hl (by decide) rfl (fun ls hl => ?_)
  refine lv_iconst (v := 0) hx hb kd_nlen_8 (by decide) ?_
  refine lv_iload_n hx hb kd_nlen_9 rfl (lv_at hl 0 rfl) ?_
  refine lv_icmp_ge (tgt := 21) hx hb kd_nlen_10 (by decide) (fun h9 => absurd h9 (by decide)) (fun h9 => ?_)
  refine lv_iload_n hx hb kd_nlen_13 rfl (lv_at hl 0 rfl) ?_
  refine lv_ldc (v := 2147483639) hx hb hown (hts _ (lkB_in (n := 1074) (w := .constant "jdk/internal/util/ArraysSupport" 200 2147483639) (by decide +kernel))) kd_nlen_14 ?_
  refine lv_icmp_gt (tgt := 21) hx hb kd_nlen_16 (by decide) (fun h9 => absurd h9 (by decide)) (fun h9 => ?_)
  refine lv_iload_n hx hb kd_nlen_19 rfl (lv_at hl 0 rfl) ?_
  exact k_iret C0 hr hlocks hP hD hS ⟨rfl, rfl⟩ ⟨Nat.le_of_ble_eq_true rfl, Nat.le_of_ble_eq_true rfl⟩ kd_nlen_20
abbrev kc_ncap : ByteArray := prog_16_method_10_code
def ky_ncap : MethodName := ⟨"java/lang/AbstractStringBuilder", "newCapacity", "(I)I"⟩
set_option maxRecDepth 100000 in
theorem kd_ncap_0 : decode kc_ncap 0 = .ok (.aload_n 0, 1) := by decide +kernel
set_option maxRecDepth 100000 in
theorem kd_ncap_1 : decode kc_ncap 1 = .ok (.getfield 15, 3) := by decide +kernel
set_option maxRecDepth 100000 in
theorem kd_ncap_4 : decode kc_ncap 4 = .ok (.arraylength, 1) := by decide +kernel
set_option maxRecDepth 100000 in
theorem kd_ncap_5 : decode kc_ncap 5 = .ok (.istore_n 2, 1) := by decide +kernel
set_option maxRecDepth 100000 in
theorem kd_ncap_6 : decode kc_ncap 6 = .ok (.iload_n 1, 1) := by decide +kernel
set_option maxRecDepth 100000 in
theorem kd_ncap_7 : decode kc_ncap 7 = .ok (.aload_n 0, 1) := by decide +kernel
set_option maxRecDepth 100000 in
theorem kd_ncap_8 : decode kc_ncap 8 = .ok (.getfield 22, 3) := by decide +kernel
set_option maxRecDepth 100000 in
theorem kd_ncap_11 : decode kc_ncap 11 = .ok (.ishl, 1) := by decide +kernel
set_option maxRecDepth 100000 in
theorem kd_ncap_12 : decode kc_ncap 12 = .ok (.istore_n 3, 1) := by decide +kernel
set_option maxRecDepth 100000 in
theorem kd_ncap_13 : decode kc_ncap 13 = .ok (.iload_n 3, 1) := by decide +kernel
set_option maxRecDepth 100000 in
theorem kd_ncap_14 : decode kc_ncap 14 = .ok (.iload_n 2, 1) := by decide +kernel
set_option maxRecDepth 100000 in
theorem kd_ncap_15 : decode kc_ncap 15 = .ok (.isub, 1) := by decide +kernel
set_option maxRecDepth 100000 in
theorem kd_ncap_16 : decode kc_ncap 16 = .ok (.istore 4, 2) := by decide +kernel
set_option maxRecDepth 100000 in
theorem kd_ncap_18 : decode kc_ncap 18 = .ok (.iload_n 2, 1) := by decide +kernel
set_option maxRecDepth 100000 in
theorem kd_ncap_19 : decode kc_ncap 19 = .ok (.iload 4, 2) := by decide +kernel
set_option maxRecDepth 100000 in
theorem kd_ncap_21 : decode kc_ncap 21 = .ok (.iload_n 2, 1) := by decide +kernel
set_option maxRecDepth 100000 in
theorem kd_ncap_22 : decode kc_ncap 22 = .ok (.iconst 2, 1) := by decide +kernel
set_option maxRecDepth 100000 in
theorem kd_ncap_23 : decode kc_ncap 23 = .ok (.aload_n 0, 1) := by decide +kernel
set_option maxRecDepth 100000 in
theorem kd_ncap_24 : decode kc_ncap 24 = .ok (.getfield 22, 3) := by decide +kernel
set_option maxRecDepth 100000 in
theorem kd_ncap_27 : decode kc_ncap 27 = .ok (.ishl, 1) := by decide +kernel
set_option maxRecDepth 100000 in
theorem kd_ncap_28 : decode kc_ncap 28 = .ok (.iadd, 1) := by decide +kernel
set_option maxRecDepth 100000 in
theorem kd_ncap_29 : decode kc_ncap 29 = .ok (.invokestatic 114, 3) := by decide +kernel
set_option maxRecDepth 100000 in
theorem kd_ncap_32 : decode kc_ncap 32 = .ok (.istore 5, 2) := by decide +kernel
set_option maxRecDepth 100000 in
theorem kd_ncap_34 : decode kc_ncap 34 = .ok (.iload 5, 2) := by decide +kernel
set_option maxRecDepth 100000 in
theorem kd_ncap_36 : decode kc_ncap 36 = .ok (.ldc 39, 2) := by decide +kernel
set_option maxRecDepth 100000 in
theorem kd_ncap_38 : decode kc_ncap 38 = .ok (.if_icmp .ne 13, 3) := by decide +kernel
set_option maxRecDepth 100000 in
theorem kd_ncap_51 : decode kc_ncap 51 = .ok (.iload 5, 2) := by decide +kernel
set_option maxRecDepth 100000 in
theorem kd_ncap_53 : decode kc_ncap 53 = .ok (.aload_n 0, 1) := by decide +kernel
set_option maxRecDepth 100000 in
theorem kd_ncap_54 : decode kc_ncap 54 = .ok (.getfield 22, 3) := by decide +kernel
set_option maxRecDepth 100000 in
theorem kd_ncap_57 : decode kc_ncap 57 = .ok (.ishr, 1) := by decide +kernel
set_option maxRecDepth 100000 in
theorem kd_ncap_58 : decode kc_ncap 58 = .ok (.ireturn, 1) := by decide +kernel
set_option maxHeartbeats 4000000 in
set_option maxRecDepth 100000 in
theorem t_ncap {l : Launch} {κ : Nat → Nat} {D : va_G} {tA : Nat → ClassId} (qt qb cnt : Nat) (f : Nat → Int32) (ml x : Int32) (h : x - 16 < 18 ∨ x - 16 = 18) : Ct l κ D tA ky_ncap kc_ncap 6 (some FieldType.int) 2 0 0 [.ref qt, .int x] [(qt, .inr (11, [.ref qb, .int 0, .int ml, .int (nI cnt)])), (qb, .inl (tA 1, 16, .inl f))] (fun r w => r = some (.int 34) ∧ w = [(qt, .inr (11, [.ref qb, .int 0, .int ml, .int (nI cnt)])), (qb, .inl (tA 1, 16, .inl f))]) := by
  refine Ct.of rfl (Nat.le_of_ble_eq_true rfl) ?_
  intro p e s m args below meth c A ls C0 hr hlocks hin hP hD hS hl
  obtain ⟨hx, hb, hml, hown, hts, hK, hA, hI⟩ := id C0
  have hl : lv_has ls 6 [(0, .ref qt), (1, .int x)] := hl
  have hin : meth.name = "newCapacity" := hin
  refine lv_aload_n hx hb kd_ncap_0 rfl (lv_at hl 0 rfl) ?_
  refine k_get (k := 0) (v := .ref qb) C0 hP 0 509 rfl (by decide +kernel) rfl kd_ncap_1 ?_
  refine k_alen (t0 := 1) C0 hP 1 rfl rfl kd_ncap_4 ?_
  refine lv_istore_n (lv' := [(2, .int (nI 16)), (0, .ref qt), (1, .int x)]) hx hb kd_ncap_5 rfl hl (by decide) rfl (fun ls hl => ?_)
  refine lv_iload_n hx hb kd_ncap_6 rfl (lv_at hl 2 rfl) ?_
  refine lv_aload_n hx hb kd_ncap_7 rfl (lv_at hl 1 rfl) ?_
  refine k_get (k := 1) (v := .int 0) C0 hP 0 510 rfl (by decide +kernel) rfl kd_ncap_8 ?_
  refine lv_ishl hx hb kd_ncap_11 ?_
  refine W.eq (g2 := F0 m 12 ls [.int x]) (by rw [sh0l]) ?_
  refine lv_istore_n (lv' := [(3, .int x), (2, .int (nI 16)), (0, .ref qt), (1, .int x)]) hx hb kd_ncap_12 rfl hl (by decide) rfl (fun ls hl => ?_)
  refine lv_iload_n hx hb kd_ncap_13 rfl (lv_at hl 0 rfl) ?_
  refine lv_iload_n hx hb kd_ncap_14 rfl (lv_at hl 1 rfl) ?_
  refine lv_isub hx hb kd_ncap_15 ?_
  refine W.eq (g2 := F0 m 16 ls [.int (x - 16)]) (by rfl) ?_
  refine lv_istore (lv' := [(4, .int (x - 16)), (3, .int x), (2, .int (nI 16)), (0, .ref qt), (1, .int x)]) hx hb kd_ncap_16 hl (by decide) rfl (fun ls hl => ?_)
  refine lv_iload_n hx hb kd_ncap_18 rfl (lv_at hl 2 rfl) ?_
  refine lv_iload hx hb kd_ncap_19 (lv_at hl 0 rfl) ?_
  refine lv_iload_n hx hb kd_ncap_21 rfl (lv_at hl 2 rfl) ?_
  refine lv_iconst (v := 2) hx hb kd_ncap_22 (by decide) ?_
  refine lv_aload_n hx hb kd_ncap_23 rfl (lv_at hl 3 rfl) ?_
  refine k_get (k := 1) (v := .int 0) C0 hP 0 510 rfl (by decide +kernel) rfl kd_ncap_24 ?_
  refine lv_ishl hx hb kd_ncap_27 ?_
  refine W.eq (g2 := F0 m 28 ls [.int 2, .int (nI 16), .int (x - 16), .int (nI 16)]) (by rfl) ?_
  refine lv_iadd hx hb kd_ncap_28 ?_
  refine W.eq (g2 := F0 m 29 ls [.int 18, .int (x - 16), .int (nI 16)]) (by rfl) ?_
  refine W.eq (g2 := F0 m 29 ls [.int 18, .int (x - 16), .int 16]) (by rfl) ?_
  refine k_callS (n := 3) (n1 := 1070) (n2 := 1071) (n4 := 130) (n5 := 1072) (As := [.int 16, .int (x - 16), .int 18]) (rest := []) (wr := [(qt, .inr (11, [.ref qb, .int 0, .int ml, .int (nI cnt)])), (qb, .inl (tA 1, 16, .inl f))]) C0 (t_nlen (x - 16) h) (by decide +kernel) hP hD hS [] [0, 1] rfl rfl rfl rfl (by decide) hl.1 rfl (Nat.le_of_ble_eq_true rfl) ⟨Nat.le_of_ble_eq_true rfl, Nat.le_of_ble_eq_true rfl⟩ ⟨Nat.le_of_ble_eq_true rfl, Nat.le_of_ble_eq_true rfl⟩ kd_ncap_29 rfl (fun r w1 H locs hQ hP hD hS => ?_)
  obtain ⟨rfl, rfl⟩ := hQ
  have hP : va_P D clx [(qt, .inr (11, [.ref qb, .int 0, .int ml, .int (nI cnt)])), (qb, .inl (tA 1, 16, .inl f))] H := hP
  have hD : va_D A [(qt, .inr (11, [.ref qb, .int 0, .int ml, .int (nI cnt)])), (qb, .inl (tA 1, 16, .inl f))] := hD
  refine lv_istore (lv' := [(5, .int 34), (4, .int (x - 16)), (3, .int x), (2, .int (nI 16)), (0, .ref qt), (1, .int x)]) hx hb kd_ncap_32 hl (by decide) rfl (fun ls hl => ?_)
  refine lv_iload hx hb kd_ncap_34 (lv_at hl 0 rfl) ?_
  refine lv_ldc (v := 2147483647) hx hb hown (hts _ (lkB_in (n := 1078) (w := .constant "java/lang/AbstractStringBuilder" 39 2147483647) (by decide +kernel))) kd_ncap_36 ?_
  refine lv_icmp_ne (tgt := 51) hx hb kd_ncap_38 (by decide) (fun h9 => ?_) (fun h9 => absurd h9 (by decide))
  refine lv_iload hx hb kd_ncap_51 (lv_at hl 0 rfl) ?_
  refine lv_aload_n hx hb kd_ncap_53 rfl (lv_at hl 4 rfl) ?_
  refine k_get (k := 1) (v := .int 0) C0 hP 0 510 rfl (by decide +kernel) rfl kd_ncap_54 ?_
  refine lv_ishr hx hb kd_ncap_57 ?_
  refine W.eq (g2 := F0 m 58 ls [.int 34]) (by rfl) ?_
  exact k_iret C0 hr hlocks hP hD hS ⟨rfl, rfl⟩ ⟨Nat.le_of_ble_eq_true rfl, Nat.le_of_ble_eq_true rfl⟩ kd_ncap_58
abbrev kc_copy : ByteArray := prog_35_method_121_code
def ky_copy : MethodName := ⟨"java/util/Arrays", "copyOf", "([BI)[B"⟩
set_option maxRecDepth 100000 in
theorem kd_copy_0 : decode kc_copy 0 = .ok (.iload_n 1, 1) := by decide +kernel
set_option maxRecDepth 100000 in
theorem kd_copy_1 : decode kc_copy 1 = .ok (.aload_n 0, 1) := by decide +kernel
set_option maxRecDepth 100000 in
theorem kd_copy_2 : decode kc_copy 2 = .ok (.arraylength, 1) := by decide +kernel
set_option maxRecDepth 100000 in
theorem kd_copy_3 : decode kc_copy 3 = .ok (.if_icmp .ne 11, 3) := by decide +kernel
set_option maxRecDepth 100000 in
theorem kd_copy_14 : decode kc_copy 14 = .ok (.iload_n 1, 1) := by decide +kernel
set_option maxRecDepth 100000 in
theorem kd_copy_15 : decode kc_copy 15 = .ok (.newarray .byte, 2) := by decide +kernel
set_option maxRecDepth 100000 in
theorem kd_copy_17 : decode kc_copy 17 = .ok (.astore_n 2, 1) := by decide +kernel
set_option maxRecDepth 100000 in
theorem kd_copy_18 : decode kc_copy 18 = .ok (.aload_n 0, 1) := by decide +kernel
set_option maxRecDepth 100000 in
theorem kd_copy_19 : decode kc_copy 19 = .ok (.iconst 0, 1) := by decide +kernel
set_option maxRecDepth 100000 in
theorem kd_copy_20 : decode kc_copy 20 = .ok (.aload_n 2, 1) := by decide +kernel
set_option maxRecDepth 100000 in
theorem kd_copy_21 : decode kc_copy 21 = .ok (.iconst 0, 1) := by decide +kernel
set_option maxRecDepth 100000 in
theorem kd_copy_22 : decode kc_copy 22 = .ok (.aload_n 0, 1) := by decide +kernel
set_option maxRecDepth 100000 in
theorem kd_copy_23 : decode kc_copy 23 = .ok (.arraylength, 1) := by decide +kernel
set_option maxRecDepth 100000 in
theorem kd_copy_24 : decode kc_copy 24 = .ok (.iload_n 1, 1) := by decide +kernel
set_option maxRecDepth 100000 in
theorem kd_copy_25 : decode kc_copy 25 = .ok (.invokestatic 304, 3) := by decide +kernel
set_option maxRecDepth 100000 in
theorem kd_copy_28 : decode kc_copy 28 = .ok (.invokestatic 150, 3) := by decide +kernel
set_option maxRecDepth 100000 in
theorem kd_copy_31 : decode kc_copy 31 = .ok (.aload_n 2, 1) := by decide +kernel
set_option maxRecDepth 100000 in
theorem kd_copy_32 : decode kc_copy 32 = .ok (.areturn, 1) := by decide +kernel
set_option maxHeartbeats 4000000 in
set_option maxRecDepth 100000 in
theorem t_copy {l : Launch} {κ : Nat → Nat} {D : va_G} {tA : Nat → ClassId} (qb : Nat) (f : Nat → Int32) (hf : Byt f 16) : Ct l κ D tA ky_copy kc_copy 3 (some (FieldType.array FieldType.byte)) 2 1 34 [.ref qb, .int 34] [(qb, .inl (tA 1, 16, .inl f))] (fun r w => ∃ q2, r = some (.ref q2) ∧ w = [(qb, .inl (tA 1, 16, .inl f)), (q2, .inl (tA 1, 34, .inl (va_cpy f (fun _ => 0) 0 0 16)))]) := by
  refine Ct.of rfl (Nat.le_of_ble_eq_true rfl) ?_
  intro p e s m args below meth c A ls C0 hr hlocks hin hP hD hS hl
  obtain ⟨hx, hb, hml, hown, hts, hK, hA, hI⟩ := id C0
  have hl : lv_has ls 3 [(0, .ref qb), (1, .int 34)] := hl
  have hin : meth.name = "copyOf" := hin
  refine lv_iload_n hx hb kd_copy_0 rfl (lv_at hl 1 rfl) ?_
  refine lv_aload_n hx hb kd_copy_1 rfl (lv_at hl 0 rfl) ?_
  refine k_alen (t0 := 1) C0 hP 0 rfl rfl kd_copy_2 ?_
  refine lv_icmp_ne (tgt := 14) hx hb kd_copy_3 (by decide) (fun h9 => ?_) (fun h9 => absurd h9 (by decide))
  refine lv_iload_n hx hb kd_copy_14 rfl (lv_at hl 1 rfl) ?_
  refine k_newb (N' := 34) C0 hP hD hS (by decide +kernel) (by rfl) (by decide) ⟨Nat.le_of_ble_eq_true rfl, Nat.le_of_ble_eq_true rfl⟩ kd_copy_15 (fun q2 H hP hD hS => ?_)
  have hP : va_P D clx [(qb, .inl (tA 1, 16, .inl f)), (q2, .inl (tA 1, 34, .inl (fun _ => 0)))] H := hP
  have hD : va_D A [(qb, .inl (tA 1, 16, .inl f)), (q2, .inl (tA 1, 34, .inl (fun _ => 0)))] := hD
  refine lv_astore_n (lv' := [(2, .ref q2), (0, .ref qb), (1, .int 34)]) hx hb kd_copy_17 rfl hl (by decide) rfl (fun ls hl => ?_)
  refine lv_aload_n hx hb kd_copy_18 rfl (lv_at hl 1 rfl) ?_
  refine lv_iconst (v := 0) hx hb kd_copy_19 (by decide) ?_
  refine lv_aload_n hx hb kd_copy_20 rfl (lv_at hl 0 rfl) ?_
  refine lv_iconst (v := 0) hx hb kd_copy_21 (by decide) ?_
  refine lv_aload_n hx hb kd_copy_22 rfl (lv_at hl 1 rfl) ?_
  refine k_alen (t0 := 1) C0 hP 0 rfl rfl kd_copy_23 ?_
  refine lv_iload_n hx hb kd_copy_24 rfl (lv_at hl 2 rfl) ?_
  refine k_min (v := 16) (n1 := 1089) C0 (by decide +kernel) hl.1 ⟨Nat.le_of_ble_eq_true rfl, Nat.le_of_ble_eq_true rfl⟩ (Nat.le_of_ble_eq_true rfl) ⟨Nat.le_of_ble_eq_true rfl, Nat.le_of_ble_eq_true rfl⟩ kd_copy_25 (by rfl) ?_
  refine va_copyi (ty := .byte) hx hb (hml.trans hl.1.symm) hown (hts _ (lkB_in (n := 1090) (w := .methodLink "java/util/Arrays" 150 arraycopyName) (by decide +kernel))) (hts _ (lkB_in (n := 735) (w := .native arraycopyName) (by decide +kernel))) (hts _ (lkB_in (n := 734) (w := .static arraycopyName) (by decide +kernel))) (hts _ (lkB_in (n := 125) (w := .initialized "java/lang/System") (by decide +kernel))) hK hP hD hS 0 1 1 1 rfl rfl rfl rfl rfl (by decide) (by decide) (by decide) (by decide) (by decide) (fun i hi => hf _ (by show 0 + i < 16; have : (16 : Int32).toNatClampNeg = 16 := rfl; omega)) (Nat.le_of_ble_eq_true rfl) (Nat.le_of_ble_eq_true rfl) kd_copy_28 (fun H locs hP hD hS => ?_)
  have hP : va_P D clx [(qb, .inl (tA 1, 16, .inl f)), (q2, .inl (tA 1, 34, .inl (va_cpy f (fun _ => 0) 0 0 16)))] H := hP
  have hD : va_D A [(qb, .inl (tA 1, 16, .inl f)), (q2, .inl (tA 1, 34, .inl (va_cpy f (fun _ => 0) 0 0 16)))] := hD
  refine lv_aload_n hx hb kd_copy_31 rfl (lv_at hl 0 rfl) ?_
  exact k_aret C0 hr (Or.inr ⟨_, rfl⟩) hlocks hP hD hS ⟨q2, rfl, rfl⟩ ⟨Nat.le_of_ble_eq_true rfl, Nat.le_of_ble_eq_true rfl⟩ kd_copy_32
abbrev kc_cane : ByteArray := prog_29_method_3_code
def ky_cane : MethodName := ⟨"java/lang/StringLatin1", "canEncode", "(C)Z"⟩
set_option maxRecDepth 100000 in
theorem kd_cane_0 : decode kc_cane 0 = .ok (.iload_n 0, 1) := by decide +kernel
set_option maxRecDepth 100000 in
theorem kd_cane_1 : decode kc_cane 1 = .ok (.sipush 255, 3) := by decide +kernel
set_option maxRecDepth 100000 in
theorem kd_cane_4 : decode kc_cane 4 = .ok (.if_icmp .gt 7, 3) := by decide +kernel
set_option maxRecDepth 100000 in
theorem kd_cane_7 : decode kc_cane 7 = .ok (.iconst 1, 1) := by decide +kernel
set_option maxRecDepth 100000 in
theorem kd_cane_8 : decode kc_cane 8 = .ok (.goto 4, 3) := by decide +kernel
set_option maxRecDepth 100000 in
theorem kd_cane_12 : decode kc_cane 12 = .ok (.ireturn, 1) := by decide +kernel
set_option maxHeartbeats 4000000 in
set_option maxRecDepth 100000 in
theorem t_cane {l : Launch} {κ : Nat → Nat} {D : va_G} {tA : Nat → ClassId} (x : Int32) (h : ¬ 255 < x) : Ct l κ D tA ky_cane kc_cane 1 (some FieldType.boolean) 0 0 0 [.int x] [] (fun r w => r = some (.int 1) ∧ w = []) := by
  refine Ct.of rfl (Nat.le_of_ble_eq_true rfl) ?_
  intro p e s m args below meth c A ls C0 hr hlocks hin hP hD hS hl
  obtain ⟨hx, hb, hml, hown, hts, hK, hA, hI⟩ := id C0
  have hl : lv_has ls 1 [(0, .int x)] := hl
  have hin : meth.name = "canEncode" := hin
  refine lv_iload_n hx hb kd_cane_0 rfl (lv_at hl 0 rfl) ?_
  refine lv_sipush (v := 255) hx hb kd_cane_1 (by decide) ?_
  refine lv_icmp_gt (tgt := 11) hx hb kd_cane_4 (by decide) (fun h9 => absurd h9 (h)) (fun h9 => ?_)
  refine lv_iconst (v := 1) hx hb kd_cane_7 (by decide) ?_
  refine lv_goto (tgt := 12) hx hb kd_cane_8 (by decide) ?_
  exact k_zret C0 hr (rfl) hlocks hP hD hS ⟨rfl, rfl⟩ ⟨Nat.le_of_ble_eq_true rfl, Nat.le_of_ble_eq_true rfl⟩ kd_cane_12
theorem toI_sub {a b : Nat} (ha : a < 1000) (hb : b < 1000) : (nI a - nI b).toInt = (a : Int) - b := by
  rw [Int32.toInt_sub, nI_toInt (by omega), nI_toInt (by omega)]
  unfold Int.bmod
  dsimp only
  split <;> omega
abbrev kc_ens : ByteArray := prog_16_method_9_code
def ky_ens : MethodName := ⟨"java/lang/AbstractStringBuilder", "ensureCapacityInternal", "(I)V"⟩
set_option maxRecDepth 100000 in
theorem kd_ens_0 : decode kc_ens 0 = .ok (.aload_n 0, 1) := by decide +kernel
set_option maxRecDepth 100000 in
theorem kd_ens_1 : decode kc_ens 1 = .ok (.getfield 15, 3) := by decide +kernel
set_option maxRecDepth 100000 in
theorem kd_ens_4 : decode kc_ens 4 = .ok (.arraylength, 1) := by decide +kernel
set_option maxRecDepth 100000 in
theorem kd_ens_5 : decode kc_ens 5 = .ok (.aload_n 0, 1) := by decide +kernel
set_option maxRecDepth 100000 in
theorem kd_ens_6 : decode kc_ens 6 = .ok (.getfield 22, 3) := by decide +kernel
set_option maxRecDepth 100000 in
theorem kd_ens_9 : decode kc_ens 9 = .ok (.ishr, 1) := by decide +kernel
set_option maxRecDepth 100000 in
theorem kd_ens_10 : decode kc_ens 10 = .ok (.istore_n 2, 1) := by decide +kernel
set_option maxRecDepth 100000 in
theorem kd_ens_11 : decode kc_ens 11 = .ok (.iload_n 1, 1) := by decide +kernel
set_option maxRecDepth 100000 in
theorem kd_ens_12 : decode kc_ens 12 = .ok (.iload_n 2, 1) := by decide +kernel
set_option maxRecDepth 100000 in
theorem kd_ens_13 : decode kc_ens 13 = .ok (.isub, 1) := by decide +kernel
set_option maxRecDepth 100000 in
theorem kd_ens_14 : decode kc_ens 14 = .ok (.ifCond .le 24, 3) := by decide +kernel
set_option maxRecDepth 100000 in
theorem kd_ens_17 : decode kc_ens 17 = .ok (.aload_n 0, 1) := by decide +kernel
set_option maxRecDepth 100000 in
theorem kd_ens_18 : decode kc_ens 18 = .ok (.aload_n 0, 1) := by decide +kernel
set_option maxRecDepth 100000 in
theorem kd_ens_19 : decode kc_ens 19 = .ok (.getfield 15, 3) := by decide +kernel
set_option maxRecDepth 100000 in
theorem kd_ens_22 : decode kc_ens 22 = .ok (.aload_n 0, 1) := by decide +kernel
set_option maxRecDepth 100000 in
theorem kd_ens_23 : decode kc_ens 23 = .ok (.iload_n 1, 1) := by decide +kernel
set_option maxRecDepth 100000 in
theorem kd_ens_24 : decode kc_ens 24 = .ok (.invokevirtual 104, 3) := by decide +kernel
set_option maxRecDepth 100000 in
theorem kd_ens_27 : decode kc_ens 27 = .ok (.aload_n 0, 1) := by decide +kernel
set_option maxRecDepth 100000 in
theorem kd_ens_28 : decode kc_ens 28 = .ok (.getfield 22, 3) := by decide +kernel
set_option maxRecDepth 100000 in
theorem kd_ens_31 : decode kc_ens 31 = .ok (.ishl, 1) := by decide +kernel
set_option maxRecDepth 100000 in
theorem kd_ens_32 : decode kc_ens 32 = .ok (.invokestatic 108, 3) := by decide +kernel
set_option maxRecDepth 100000 in
theorem kd_ens_35 : decode kc_ens 35 = .ok (.putfield 15, 3) := by decide +kernel
set_option maxRecDepth 100000 in
theorem kd_ens_38 : decode kc_ens 38 = .ok (.return_, 1) := by decide +kernel
set_option maxHeartbeats 4000000 in
set_option maxRecDepth 100000 in
theorem t_ens {l : Launch} {κ : Nat → Nat} {D : va_G} {tA : Nat → ClassId} (qt qb n cnt m9 : Nat) (f g9 : Nat → Int32) (ml : Int32) (hn : n = 16 ∨ n = 34) (hm : m9 ≤ 34) (hc : cnt ≤ n) (hf : Byt f n) (hg : ∀ j, j < cnt → f j = g9 j) : Ct l κ D tA ky_ens kc_ens 3 none 4 1 34 [.ref qt, .int (nI m9)] [(qt, .inr (11, [.ref qb, .int 0, .int ml, .int (nI cnt)])), (qb, .inl (tA 1, n, .inl f))] (fun r w => r = none ∧ ∃ qb n f, (n = 16 ∨ n = 34) ∧ m9 ≤ n ∧ cnt ≤ n ∧ Byt f n ∧ (∀ j, j < cnt → f j = g9 j) ∧ w = [(qt, .inr (11, [.ref qb, .int 0, .int ml, .int (nI cnt)])), (qb, .inl (tA 1, n, .inl f))]) := by
  refine Ct.of rfl (Nat.le_of_ble_eq_true rfl) ?_
  intro p e s m args below meth c A ls C0 hr hlocks hin hP hD hS hl
  obtain ⟨hx, hb, hml, hown, hts, hK, hA, hI⟩ := id C0
  have hm9 : m9 < 1000 := by omega
  have hn9 : n < 1000 := by omega
  have hl : lv_has ls 3 [(0, .ref qt), (1, .int (nI m9))] := hl
  have hin : meth.name = "ensureCapacityInternal" := hin
  refine lv_aload_n hx hb kd_ens_0 rfl (lv_at hl 0 rfl) ?_
  refine k_get (k := 0) (v := .ref qb) C0 hP 0 509 rfl (by decide +kernel) rfl kd_ens_1 ?_
  refine k_alen (t0 := 1) C0 hP 1 rfl rfl kd_ens_4 ?_
  refine lv_aload_n hx hb kd_ens_5 rfl (lv_at hl 0 rfl) ?_
  refine k_get (k := 1) (v := .int 0) C0 hP 0 510 rfl (by decide +kernel) rfl kd_ens_6 ?_
  refine lv_ishr hx hb kd_ens_9 ?_
  refine W.eq (g2 := F0 m 10 ls [.int (nI n)]) (by rw [sh0r]) ?_
  refine lv_istore_n (lv' := [(2, .int (nI n)), (0, .ref qt), (1, .int (nI m9))]) hx hb kd_ens_10 rfl hl (by decide) rfl (fun ls hl => ?_)
  refine lv_iload_n hx hb kd_ens_11 rfl (lv_at hl 2 rfl) ?_
  refine lv_iload_n hx hb kd_ens_12 rfl (lv_at hl 0 rfl) ?_
  refine lv_isub hx hb kd_ens_13 ?_
  refine lv_if_le (tgt := 38) hx hb kd_ens_14 (by decide) (fun h9 => ?_) (fun h9 => ?_)
  · have hle : m9 ≤ n := by
      have h8 := Int32.le_iff_toInt_le.mp h9
      rw [toI_sub hm9 hn9, show (0 : Int32).toInt = 0 from rfl] at h8
      omega
    exact k_vret C0 hr hlocks hP hD hS ⟨rfl, qb, n, f, hn, hle, hc, hf, hg, rfl⟩ ⟨Nat.le_of_ble_eq_true rfl, Nat.le_of_ble_eq_true rfl⟩ kd_ens_38
  · have h8 : n = 16 ∧ 16 < m9 := by
      have h7 : ¬ m9 ≤ n := fun h7 => h9 (Int32.le_iff_toInt_le.mpr (by rw [toI_sub hm9 hn9, show (0 : Int32).toInt = 0 from rfl]; omega))
      omega
    obtain ⟨rfl, h8⟩ := h8
    refine lv_aload_n hx hb kd_ens_17 rfl (lv_at hl 1 rfl) ?_
    refine lv_aload_n hx hb kd_ens_18 rfl (lv_at hl 1 rfl) ?_
    refine k_get (k := 0) (v := .ref qb) C0 hP 0 509 rfl (by decide +kernel) rfl kd_ens_19 ?_
    refine lv_aload_n hx hb kd_ens_22 rfl (lv_at hl 1 rfl) ?_
    refine lv_iload_n hx hb kd_ens_23 rfl (lv_at hl 2 rfl) ?_
    have hx9 : nI m9 - 16 < 18 ∨ nI m9 - 16 = 18 := by
     have e9 : nI m9 - 16 = nI (m9 - 16) := by rw [show (16 : Int32) = nI 16 from rfl, pk_sub (by omega)]
     rw [e9]
     rcases Nat.lt_or_ge (m9 - 16) 18 with h7 | h7
     · exact Or.inl (nI_lt h7 (by decide))
     · right; rw [show m9 - 16 = 18 from by omega]; rfl
    refine k_callU (n := 1) (n1 := 1066) (n2 := 1068) (n3 := 2136) (n4 := 118) (n5 := 1069) (As := [.int (nI m9)]) (rest := [.ref qb, .ref qt]) (wr := []) C0 (t_ncap qt qb cnt f ml (nI m9) hx9) (by decide +kernel) ((hI.2.2.2.2.2.2.2.2 _ (by decide)).use rfl) (va_recv hK hP (ci := 11) (q0 := 0) rfl rfl) hP hD hS [0, 1] [] rfl rfl rfl rfl (by decide) hl.1 rfl (Nat.le_of_ble_eq_true rfl) ⟨Nat.le_of_ble_eq_true rfl, Nat.le_of_ble_eq_true rfl⟩ ⟨Nat.le_of_ble_eq_true rfl, Nat.le_of_ble_eq_true rfl⟩ kd_ens_24 rfl (fun r w1 H locs hQ hP hD hS => ?_)
    obtain ⟨rfl, rfl⟩ := hQ
    have hP : va_P D clx [(qt, .inr (11, [.ref qb, .int 0, .int ml, .int (nI cnt)])), (qb, .inl (tA 1, 16, .inl f))] H := hP
    have hD : va_D A [(qt, .inr (11, [.ref qb, .int 0, .int ml, .int (nI cnt)])), (qb, .inl (tA 1, 16, .inl f))] := hD
    refine lv_aload_n hx hb kd_ens_27 rfl (lv_at hl 1 rfl) ?_
    refine k_get (k := 1) (v := .int 0) C0 hP 0 510 rfl (by decide +kernel) rfl kd_ens_28 ?_
    refine lv_ishl hx hb kd_ens_31 ?_
    refine W.eq (g2 := F0 m 32 ls [.int 34, .ref qb, .ref qt]) (by rfl) ?_
    refine k_callS (n := 2) (n1 := 1079) (n2 := 1080) (n4 := 109) (n5 := 1081) (As := [.ref qb, .int 34]) (rest := [.ref qt]) (wr := [(qt, .inr (11, [.ref qb, .int 0, .int ml, .int (nI cnt)]))]) C0 (t_copy qb f hf) (by decide +kernel) hP hD hS [1] [0] rfl rfl rfl rfl (by decide) hl.1 rfl (Nat.le_of_ble_eq_true rfl) ⟨Nat.le_of_ble_eq_true rfl, Nat.le_of_ble_eq_true rfl⟩ ⟨Nat.le_of_ble_eq_true rfl, Nat.le_of_ble_eq_true rfl⟩ kd_ens_32 rfl (fun r w1 H locs hQ hP hD hS => ?_)
    obtain ⟨q2, rfl, rfl⟩ := hQ
    have hP : va_P D clx [(qt, .inr (11, [.ref qb, .int 0, .int ml, .int (nI cnt)])), (qb, .inl (tA 1, 16, .inl f)), (q2, .inl (tA 1, 34, .inl (va_cpy f (fun _ => 0) 0 0 16)))] H := hP
    have hD : va_D A [(qt, .inr (11, [.ref qb, .int 0, .int ml, .int (nI cnt)])), (qb, .inl (tA 1, 16, .inl f)), (q2, .inl (tA 1, 34, .inl (va_cpy f (fun _ => 0) 0 0 16)))] := hD
    refine k_put (k := 0) (v := .ref q2) C0 hP hD hS 0 509 rfl (by decide +kernel) rfl rfl (Nat.le_of_ble_eq_true rfl) kd_ens_35 (fun H locs hP hD hS => ?_)
    have hP : va_P D clx [(qt, .inr (11, [.ref q2, .int 0, .int ml, .int (nI cnt)])), (qb, .inl (tA 1, 16, .inl f)), (q2, .inl (tA 1, 34, .inl (va_cpy f (fun _ => 0) 0 0 16)))] H := hP
    have hD : va_D A [(qt, .inr (11, [.ref q2, .int 0, .int ml, .int (nI cnt)])), (qb, .inl (tA 1, 16, .inl f)), (q2, .inl (tA 1, 34, .inl (va_cpy f (fun _ => 0) 0 0 16)))] := hD
    replace hP := hP.sub (ws' := [(qt, .inr (11, [.ref q2, .int 0, .int ml, .int (nI cnt)])), (q2, .inl (tA 1, 34, .inl (va_cpy f (fun _ => 0) 0 0 16)))]) [0, 2] rfl
    replace hD := hD.sub (ws' := [(qt, .inr (11, [.ref q2, .int 0, .int ml, .int (nI cnt)])), (q2, .inl (tA 1, 34, .inl (va_cpy f (fun _ => 0) 0 0 16)))]) [0, 2] rfl rfl
    refine k_vret C0 hr hlocks hP hD hS ⟨rfl, q2, 34, _, Or.inr rfl, hm, by omega, fun j hj => ?_, fun j hj => ?_, rfl⟩ ⟨Nat.le_of_ble_eq_true rfl, Nat.le_of_ble_eq_true rfl⟩ kd_ens_38
    · unfold va_cpy
      by_cases h7 : 0 ≤ j ∧ j < 0 + 16
      · rw [if_pos h7]; exact hf _ (by omega)
      · rw [if_neg h7]; rfl
    · unfold va_cpy
      rw [if_pos ⟨Nat.zero_le _, by omega⟩, Nat.zero_add, Nat.sub_zero]
      exact hg j hj
