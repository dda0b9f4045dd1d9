/-! Constructors. Printed by wip/whole/pF0.py. -/
theorem arr_i {D : va_G} {cl : List vw_C} {a n : Nat} {cA : ClassId} {f g : Nat → Int32} {H : Heap} (h : ∀ k, k < n → f k = g k) (hf : va_at D cl (a, .inl (cA, n, .inl f)) H) : va_at D cl (a, .inl (cA, n, .inl g)) H := by
  have e : vp_cell cA (n, .inl f) = vp_cell cA (n, .inl g) := by
    show arrV cA n (fun j => .int (f j)) = arrV cA n (fun j => .int (g j))
    unfold arrV
    congr 2
    funext j
    dsimp only
    rw [h j.val j.isLt]
  show H[a]? = some (vp_cell cA (n, .inl g))
  rw [← e]; exact hf
theorem arr_q {D : va_G} {cl : List vw_C} {a n : Nat} {cA : ClassId} {f g : Nat → Option Nat} {H : Heap} (h : ∀ k, k < n → f k = g k) (hf : va_at D cl (a, .inl (cA, n, .inr (.inr (.inr (.inr f))))) H) : va_at D cl (a, .inl (cA, n, .inr (.inr (.inr (.inr g))))) H := by
  have e : vp_cell cA (n, .inr (.inr (.inr (.inr f)))) = vp_cell cA (n, .inr (.inr (.inr (.inr g)))) := by
    show arrV cA n (fun j => va_rf (f j)) = arrV cA n (fun j => va_rf (g j))
    unfold arrV
    congr 2
    funext j
    dsimp only
    rw [h j.val j.isLt]
  show H[a]? = some (vp_cell cA (n, .inr (.inr (.inr (.inr g)))))
  rw [← e]; exact hf
theorem va_P.re {D : va_G} {cl : List vw_C} {A : Nat → Prop} {ws : va_W} {a : Nat} {e0 e : va_E} {H : Heap} (h : va_P D cl ws H) (hD : va_D A ws) (p : Nat) (hp : ws[p]? = some (a, e0)) (he : va_at D cl (a, e0) H → va_at D cl (a, e) H) : va_P D cl (ws.set p (a, e)) H := h.set hD hp (he (h p _ hp)) (fun _ _ => rfl)
abbrev kc_lkun : ByteArray := prog_6_method_2_code
def ky_lkun : MethodName := ⟨"IceManners$Lake", "setUntold", "()V"⟩
set_option maxRecDepth 100000 in
theorem kd_lkun_0 : decode kc_lkun 0 = .ok (.aload_n 0, 1) := by decide +kernel
set_option maxRecDepth 100000 in
theorem kd_lkun_1 : decode kc_lkun 1 = .ok (.iconst 5, 1) := by decide +kernel
set_option maxRecDepth 100000 in
theorem kd_lkun_2 : decode kc_lkun 2 = .ok (.putfield 22, 3) := by decide +kernel
set_option maxRecDepth 100000 in
theorem kd_lkun_5 : decode kc_lkun 5 = .ok (.aload_n 0, 1) := by decide +kernel
set_option maxRecDepth 100000 in
theorem kd_lkun_6 : decode kc_lkun 6 = .ok (.iconst 5, 1) := by decide +kernel
set_option maxRecDepth 100000 in
theorem kd_lkun_7 : decode kc_lkun 7 = .ok (.putfield 26, 3) := by decide +kernel
set_option maxRecDepth 100000 in
theorem kd_lkun_10 : decode kc_lkun 10 = .ok (.aload_n 0, 1) := by decide +kernel
set_option maxRecDepth 100000 in
theorem kd_lkun_11 : decode kc_lkun 11 = .ok (.iconst 0, 1) := by decide +kernel
set_option maxRecDepth 100000 in
theorem kd_lkun_12 : decode kc_lkun 12 = .ok (.putfield 29, 3) := by decide +kernel
set_option maxRecDepth 100000 in
theorem kd_lkun_15 : decode kc_lkun 15 = .ok (.aload_n 0, 1) := by decide +kernel
set_option maxRecDepth 100000 in
theorem kd_lkun_16 : decode kc_lkun 16 = .ok (.iconst 2, 1) := by decide +kernel
set_option maxRecDepth 100000 in
theorem kd_lkun_17 : decode kc_lkun 17 = .ok (.putfield 32, 3) := by decide +kernel
set_option maxRecDepth 100000 in
theorem kd_lkun_20 : decode kc_lkun 20 = .ok (.aload_n 0, 1) := by decide +kernel
set_option maxRecDepth 100000 in
theorem kd_lkun_21 : decode kc_lkun 21 = .ok (.iconst 1, 1) := by decide +kernel
set_option maxRecDepth 100000 in
theorem kd_lkun_22 : decode kc_lkun 22 = .ok (.putfield 35, 3) := by decide +kernel
set_option maxRecDepth 100000 in
theorem kd_lkun_25 : decode kc_lkun 25 = .ok (.aload_n 0, 1) := by decide +kernel
set_option maxRecDepth 100000 in
theorem kd_lkun_26 : decode kc_lkun 26 = .ok (.iconst 5, 1) := by decide +kernel
set_option maxRecDepth 100000 in
theorem kd_lkun_27 : decode kc_lkun 27 = .ok (.putfield 38, 3) := by decide +kernel
set_option maxRecDepth 100000 in
theorem kd_lkun_30 : decode kc_lkun 30 = .ok (.aload_n 0, 1) := by decide +kernel
set_option maxRecDepth 100000 in
theorem kd_lkun_31 : decode kc_lkun 31 = .ok (.iconst 3, 1) := by decide +kernel
set_option maxRecDepth 100000 in
theorem kd_lkun_32 : decode kc_lkun 32 = .ok (.putfield 41, 3) := by decide +kernel
set_option maxRecDepth 100000 in
theorem kd_lkun_35 : decode kc_lkun 35 = .ok (.aload_n 0, 1) := by decide +kernel
set_option maxRecDepth 100000 in
theorem kd_lkun_36 : decode kc_lkun 36 = .ok (.bipush 6, 2) := by decide +kernel
set_option maxRecDepth 100000 in
theorem kd_lkun_38 : decode kc_lkun 38 = .ok (.putfield 44, 3) := by decide +kernel
set_option maxRecDepth 100000 in
theorem kd_lkun_41 : decode kc_lkun 41 = .ok (.return_, 1) := by decide +kernel
set_option maxHeartbeats 4000000 in
set_option maxRecDepth 100000 in
theorem n_lkun {l : Launch} {κ : Nat → Nat} {D : va_G} {tA : Nat → ClassId} (a r8 r9 : Nat) (x0 x1 x2 x3 x4 x5 x6 x7 : Int32) : Ct l κ D tA ky_lkun kc_lkun 1 none 0 0 0 [.ref a] [(a, .inr (2, [.int x0, .int x1, .int x2, .int x3, .int x4, .int x5, .int x6, .int x7, .ref r8, .ref r9]))] (fun r w => r = none ∧ w = [(a, .inr (2, [.int 5, .int 5, .int 0, .int 2, .int 1, .int 5, .int 3, .int 6, .ref r8, .ref r9]))]) := by
  refine Ct.of rfl (Nat.le_of_ble_eq_true rfl) ?_
  intro p e s m args below meth c A ls C0 hr hlocks hin hP hD hS hl
  obtain ⟨hx, hb, hml, hown, hts, hK, hA, hI⟩ := id C0
  have hl : lv_has ls 1 [(0, .ref a)] := hl
  have hin : meth.name = "setUntold" := hin
  refine lv_aload_n hx hb kd_lkun_0 rfl (lv_at hl 0 rfl) ?_
  refine lv_iconst (v := 5) hx hb kd_lkun_1 (by decide) ?_
  refine k_put (k := 0) (v := .int 5) C0 hP hD hS 0 159 rfl (by decide +kernel) rfl rfl (Nat.le_of_ble_eq_true rfl) kd_lkun_2 (fun H locs hP hD hS => ?_)
  have hP : va_P D clx [(a, .inr (2, [.int 5, .int x1, .int x2, .int x3, .int x4, .int x5, .int x6, .int x7, .ref r8, .ref r9]))] H := hP
  have hD : va_D A [(a, .inr (2, [.int 5, .int x1, .int x2, .int x3, .int x4, .int x5, .int x6, .int x7, .ref r8, .ref r9]))] := hD
  refine lv_aload_n hx hb kd_lkun_5 rfl (lv_at hl 0 rfl) ?_
  refine lv_iconst (v := 5) hx hb kd_lkun_6 (by decide) ?_
  refine k_put (k := 1) (v := .int 5) C0 hP hD hS 0 163 rfl (by decide +kernel) rfl rfl (Nat.le_of_ble_eq_true rfl) kd_lkun_7 (fun H locs hP hD hS => ?_)
  have hP : va_P D clx [(a, .inr (2, [.int 5, .int 5, .int x2, .int x3, .int x4, .int x5, .int x6, .int x7, .ref r8, .ref r9]))] H := hP
  have hD : va_D A [(a, .inr (2, [.int 5, .int 5, .int x2, .int x3, .int x4, .int x5, .int x6, .int x7, .ref r8, .ref r9]))] := hD
  refine lv_aload_n hx hb kd_lkun_10 rfl (lv_at hl 0 rfl) ?_
  refine lv_iconst (v := 0) hx hb kd_lkun_11 (by decide) ?_
  refine k_put (k := 2) (v := .int 0) C0 hP hD hS 0 167 rfl (by decide +kernel) rfl rfl (Nat.le_of_ble_eq_true rfl) kd_lkun_12 (fun H locs hP hD hS => ?_)
  have hP : va_P D clx [(a, .inr (2, [.int 5, .int 5, .int 0, .int x3, .int x4, .int x5, .int x6, .int x7, .ref r8, .ref r9]))] H := hP
  have hD : va_D A [(a, .inr (2, [.int 5, .int 5, .int 0, .int x3, .int x4, .int x5, .int x6, .int x7, .ref r8, .ref r9]))] := hD
  refine lv_aload_n hx hb kd_lkun_15 rfl (lv_at hl 0 rfl) ?_
  refine lv_iconst (v := 2) hx hb kd_lkun_16 (by decide) ?_
  refine k_put (k := 3) (v := .int 2) C0 hP hD hS 0 171 rfl (by decide +kernel) rfl rfl (Nat.le_of_ble_eq_true rfl) kd_lkun_17 (fun H locs hP hD hS => ?_)
  have hP : va_P D clx [(a, .inr (2, [.int 5, .int 5, .int 0, .int 2, .int x4, .int x5, .int x6, .int x7, .ref r8, .ref r9]))] H := hP
  have hD : va_D A [(a, .inr (2, [.int 5, .int 5, .int 0, .int 2, .int x4, .int x5, .int x6, .int x7, .ref r8, .ref r9]))] := hD
  refine lv_aload_n hx hb kd_lkun_20 rfl (lv_at hl 0 rfl) ?_
  refine lv_iconst (v := 1) hx hb kd_lkun_21 (by decide) ?_
  refine k_put (k := 4) (v := .int 1) C0 hP hD hS 0 175 rfl (by decide +kernel) rfl rfl (Nat.le_of_ble_eq_true rfl) kd_lkun_22 (fun H locs hP hD hS => ?_)
  have hP : va_P D clx [(a, .inr (2, [.int 5, .int 5, .int 0, .int 2, .int 1, .int x5, .int x6, .int x7, .ref r8, .ref r9]))] H := hP
  have hD : va_D A [(a, .inr (2, [.int 5, .int 5, .int 0, .int 2, .int 1, .int x5, .int x6, .int x7, .ref r8, .ref r9]))] := hD
  refine lv_aload_n hx hb kd_lkun_25 rfl (lv_at hl 0 rfl) ?_
  refine lv_iconst (v := 5) hx hb kd_lkun_26 (by decide) ?_
  refine k_put (k := 5) (v := .int 5) C0 hP hD hS 0 179 rfl (by decide +kernel) rfl rfl (Nat.le_of_ble_eq_true rfl) kd_lkun_27 (fun H locs hP hD hS => ?_)
  have hP : va_P D clx [(a, .inr (2, [.int 5, .int 5, .int 0, .int 2, .int 1, .int 5, .int x6, .int x7, .ref r8, .ref r9]))] H := hP
  have hD : va_D A [(a, .inr (2, [.int 5, .int 5, .int 0, .int 2, .int 1, .int 5, .int x6, .int x7, .ref r8, .ref r9]))] := hD
  refine lv_aload_n hx hb kd_lkun_30 rfl (lv_at hl 0 rfl) ?_
  refine lv_iconst (v := 3) hx hb kd_lkun_31 (by decide) ?_
  refine k_put (k := 6) (v := .int 3) C0 hP hD hS 0 183 rfl (by decide +kernel) rfl rfl (Nat.le_of_ble_eq_true rfl) kd_lkun_32 (fun H locs hP hD hS => ?_)
  have hP : va_P D clx [(a, .inr (2, [.int 5, .int 5, .int 0, .int 2, .int 1, .int 5, .int 3, .int x7, .ref r8, .ref r9]))] H := hP
  have hD : va_D A [(a, .inr (2, [.int 5, .int 5, .int 0, .int 2, .int 1, .int 5, .int 3, .int x7, .ref r8, .ref r9]))] := hD
  refine lv_aload_n hx hb kd_lkun_35 rfl (lv_at hl 0 rfl) ?_
  refine lv_bipush (v := 6) hx hb kd_lkun_36 (by decide) ?_
  refine k_put (k := 7) (v := .int 6) C0 hP hD hS 0 187 rfl (by decide +kernel) rfl rfl (Nat.le_of_ble_eq_true rfl) kd_lkun_38 (fun H locs hP hD hS => ?_)
  have hP : va_P D clx [(a, .inr (2, [.int 5, .int 5, .int 0, .int 2, .int 1, .int 5, .int 3, .int 6, .ref r8, .ref r9]))] H := hP
  have hD : va_D A [(a, .inr (2, [.int 5, .int 5, .int 0, .int 2, .int 1, .int 5, .int 3, .int 6, .ref r8, .ref r9]))] := hD
  exact k_vret C0 hr hlocks hP hD hS ⟨rfl, rfl⟩ ⟨Nat.le_of_ble_eq_true rfl, Nat.le_of_ble_eq_true rfl⟩ kd_lkun_41
abbrev kc_lkin : ByteArray := prog_6_method_1_code
def ky_lkin : MethodName := ⟨"IceManners$Lake", "<init>", "()V"⟩
set_option maxRecDepth 100000 in
theorem kd_lkin_0 : decode kc_lkin 0 = .ok (.aload_n 0, 1) := by decide +kernel
set_option maxRecDepth 100000 in
theorem kd_lkin_1 : decode kc_lkin 1 = .ok (.invokespecial 3, 3) := by decide +kernel
set_option maxRecDepth 100000 in
theorem kd_lkin_4 : decode kc_lkin 4 = .ok (.aload_n 0, 1) := by decide +kernel
set_option maxRecDepth 100000 in
theorem kd_lkin_5 : decode kc_lkin 5 = .ok (.bipush 6, 2) := by decide +kernel
set_option maxRecDepth 100000 in
theorem kd_lkin_7 : decode kc_lkin 7 = .ok (.newarray .long, 2) := by decide +kernel
set_option maxRecDepth 100000 in
theorem kd_lkin_9 : decode kc_lkin 9 = .ok (.putfield 9, 3) := by decide +kernel
set_option maxRecDepth 100000 in
theorem kd_lkin_12 : decode kc_lkin 12 = .ok (.aload_n 0, 1) := by decide +kernel
set_option maxRecDepth 100000 in
theorem kd_lkin_13 : decode kc_lkin 13 = .ok (.bipush 6, 2) := by decide +kernel
set_option maxRecDepth 100000 in
theorem kd_lkin_15 : decode kc_lkin 15 = .ok (.newarray .int, 2) := by decide +kernel
set_option maxRecDepth 100000 in
theorem kd_lkin_17 : decode kc_lkin 17 = .ok (.putfield 15, 3) := by decide +kernel
set_option maxRecDepth 100000 in
theorem kd_lkin_20 : decode kc_lkin 20 = .ok (.aload_n 0, 1) := by decide +kernel
set_option maxRecDepth 100000 in
theorem kd_lkin_21 : decode kc_lkin 21 = .ok (.invokevirtual 19, 3) := by decide +kernel
set_option maxRecDepth 100000 in
theorem kd_lkin_24 : decode kc_lkin 24 = .ok (.return_, 1) := by decide +kernel
set_option maxHeartbeats 4000000 in
set_option maxRecDepth 100000 in
theorem n_lkin {l : Launch} {κ : Nat → Nat} {D : va_G} {tA : Nat → ClassId} (a : Nat) : Ct l κ D tA ky_lkin kc_lkin 1 none 1 2 12 [.ref a] [(a, .inr (2, [.int 0, .int 0, .int 0, .int 0, .int 0, .int 0, .int 0, .int 0, .null, .null]))] (fun r w => ∃ qn ql, r = none ∧ w = [(a, .inr (2, [.int 5, .int 5, .int 0, .int 2, .int 1, .int 5, .int 3, .int 6, .ref qn, .ref ql])), (qn, .inl (tA 3, 6, .inr (.inl (fun _ => 0)))), (ql, .inl (tA 0, 6, .inl (fun _ => 0)))]) := by
  refine Ct.of rfl (Nat.le_of_ble_eq_true rfl) ?_
  intro p e s m args below meth c A ls C0 hr hlocks hin hP hD hS hl
  obtain ⟨hx, hb, hml, hown, hts, hK, hA, hI⟩ := id C0
  have hl : lv_has ls 1 [(0, .ref a)] := hl
  have hin : meth.name = "<init>" := hin
  refine lv_aload_n hx hb kd_lkin_0 rfl (lv_at hl 0 rfl) ?_
  refine k_obj (n1 := 154) C0 (by decide +kernel) hl.1 ⟨Nat.le_of_ble_eq_true rfl, Nat.le_of_ble_eq_true rfl⟩ kd_lkin_1 ?_
  refine lv_aload_n hx hb kd_lkin_4 rfl (lv_at hl 0 rfl) ?_
  refine lv_bipush (v := 6) hx hb kd_lkin_5 (by decide) ?_
  refine k_newl (N' := 6) C0 hP hD hS (by decide +kernel) (by rfl) (by decide) ⟨Nat.le_of_ble_eq_true rfl, Nat.le_of_ble_eq_true rfl⟩ kd_lkin_7 (fun qn H hP hD hS => ?_)
  have hP : va_P D clx [(a, .inr (2, [.int 0, .int 0, .int 0, .int 0, .int 0, .int 0, .int 0, .int 0, .null, .null])), (qn, .inl (tA 3, 6, .inr (.inl (fun _ => 0))))] H := hP
  have hD : va_D A [(a, .inr (2, [.int 0, .int 0, .int 0, .int 0, .int 0, .int 0, .int 0, .int 0, .null, .null])), (qn, .inl (tA 3, 6, .inr (.inl (fun _ => 0))))] := hD
  refine k_putF (k := 8) (v := .ref qn) C0 hin hP hD hS 0 191 rfl (by decide +kernel) rfl rfl (Nat.le_of_ble_eq_true rfl) kd_lkin_9 (fun H locs hP hD hS => ?_)
  have hP : va_P D clx [(a, .inr (2, [.int 0, .int 0, .int 0, .int 0, .int 0, .int 0, .int 0, .int 0, .ref qn, .null])), (qn, .inl (tA 3, 6, .inr (.inl (fun _ => 0))))] H := hP
  have hD : va_D A [(a, .inr (2, [.int 0, .int 0, .int 0, .int 0, .int 0, .int 0, .int 0, .int 0, .ref qn, .null])), (qn, .inl (tA 3, 6, .inr (.inl (fun _ => 0))))] := hD
  refine lv_aload_n hx hb kd_lkin_12 rfl (lv_at hl 0 rfl) ?_
  refine lv_bipush (v := 6) hx hb kd_lkin_13 (by decide) ?_
  refine k_newi (N' := 6) C0 hP hD hS (by decide +kernel) (by rfl) (by decide) ⟨Nat.le_of_ble_eq_true rfl, Nat.le_of_ble_eq_true rfl⟩ kd_lkin_15 (fun ql H hP hD hS => ?_)
  have hP : va_P D clx [(a, .inr (2, [.int 0, .int 0, .int 0, .int 0, .int 0, .int 0, .int 0, .int 0, .ref qn, .null])), (qn, .inl (tA 3, 6, .inr (.inl (fun _ => 0)))), (ql, .inl (tA 0, 6, .inl (fun _ => 0)))] H := hP
  have hD : va_D A [(a, .inr (2, [.int 0, .int 0, .int 0, .int 0, .int 0, .int 0, .int 0, .int 0, .ref qn, .null])), (qn, .inl (tA 3, 6, .inr (.inl (fun _ => 0)))), (ql, .inl (tA 0, 6, .inl (fun _ => 0)))] := hD
  refine k_putF (k := 9) (v := .ref ql) C0 hin hP hD hS 0 194 rfl (by decide +kernel) rfl rfl (Nat.le_of_ble_eq_true rfl) kd_lkin_17 (fun H locs hP hD hS => ?_)
  have hP : va_P D clx [(a, .inr (2, [.int 0, .int 0, .int 0, .int 0, .int 0, .int 0, .int 0, .int 0, .ref qn, .ref ql])), (qn, .inl (tA 3, 6, .inr (.inl (fun _ => 0)))), (ql, .inl (tA 0, 6, .inl (fun _ => 0)))] H := hP
  have hD : va_D A [(a, .inr (2, [.int 0, .int 0, .int 0, .int 0, .int 0, .int 0, .int 0, .int 0, .ref qn, .ref ql])), (qn, .inl (tA 3, 6, .inr (.inl (fun _ => 0)))), (ql, .inl (tA 0, 6, .inl (fun _ => 0)))] := hD
  refine lv_aload_n hx hb kd_lkin_20 rfl (lv_at hl 0 rfl) ?_
  refine k_callV (n := 0) (n1 := 155) (n2 := 156) (n3 := 157) (n4 := 107) (n5 := 158) (As := []) (rest := []) (wr := [(qn, .inl (tA 3, 6, .inr (.inl (fun _ => 0)))), (ql, .inl (tA 0, 6, .inl (fun _ => 0)))]) C0 (n_lkun a qn ql 0 0 0 0 0 0 0 0) (by decide +kernel) (va_recv hK hP (ci := 2) (q0 := 0) rfl rfl) hP hD hS [0] [1, 2] rfl rfl rfl rfl (by decide) hl.1 rfl (Nat.le_of_ble_eq_true rfl) ⟨Nat.le_of_ble_eq_true rfl, Nat.le_of_ble_eq_true rfl⟩ ⟨Nat.le_of_ble_eq_true rfl, Nat.le_of_ble_eq_true rfl⟩ kd_lkin_21 rfl (fun r w1 H locs hQ hP hD hS => ?_)
  obtain ⟨rfl, rfl⟩ := hQ
  have hP : va_P D clx [(qn, .inl (tA 3, 6, .inr (.inl (fun _ => 0)))), (ql, .inl (tA 0, 6, .inl (fun _ => 0))), (a, .inr (2, [.int 5, .int 5, .int 0, .int 2, .int 1, .int 5, .int 3, .int 6, .ref qn, .ref ql]))] H := hP
  have hD : va_D A [(qn, .inl (tA 3, 6, .inr (.inl (fun _ => 0)))), (ql, .inl (tA 0, 6, .inl (fun _ => 0))), (a, .inr (2, [.int 5, .int 5, .int 0, .int 2, .int 1, .int 5, .int 3, .int 6, .ref qn, .ref ql]))] := hD
  have hP9 := hP.sub (ws' := [(a, .inr (2, [.int 5, .int 5, .int 0, .int 2, .int 1, .int 5, .int 3, .int 6, .ref qn, .ref ql])), (qn, .inl (tA 3, 6, .inr (.inl (fun _ => 0)))), (ql, .inl (tA 0, 6, .inl (fun _ => 0)))]) [2, 0, 1] rfl
  have hD9 := hD.sub (ws' := [(a, .inr (2, [.int 5, .int 5, .int 0, .int 2, .int 1, .int 5, .int 3, .int 6, .ref qn, .ref ql])), (qn, .inl (tA 3, 6, .inr (.inl (fun _ => 0)))), (ql, .inl (tA 0, 6, .inl (fun _ => 0)))]) [2, 0, 1] rfl rfl
  clear hP hD
  have hP := hP9
  have hD := hD9
  exact k_vret C0 hr hlocks hP hD hS ⟨qn, ql, rfl, rfl⟩ ⟨Nat.le_of_ble_eq_true rfl, Nat.le_of_ble_eq_true rfl⟩ kd_lkin_24
abbrev kc_fill : ByteArray := prog_35_method_103_code
def ky_fill : MethodName := ⟨"java/util/Arrays", "fill", "([II)V"⟩
set_option maxRecDepth 100000 in
theorem kd_fill_0 : decode kc_fill 0 = .ok (.iconst 0, 1) := by decide +kernel
set_option maxRecDepth 100000 in
theorem kd_fill_1 : decode kc_fill 1 = .ok (.istore_n 2, 1) := by decide +kernel
set_option maxRecDepth 100000 in
theorem kd_fill_2 : decode kc_fill 2 = .ok (.aload_n 0, 1) := by decide +kernel
set_option maxRecDepth 100000 in
theorem kd_fill_3 : decode kc_fill 3 = .ok (.arraylength, 1) := by decide +kernel
set_option maxRecDepth 100000 in
theorem kd_fill_4 : decode kc_fill 4 = .ok (.istore_n 3, 1) := by decide +kernel
set_option maxRecDepth 100000 in
theorem kd_fill_5 : decode kc_fill 5 = .ok (.iload_n 2, 1) := by decide +kernel
set_option maxRecDepth 100000 in
theorem kd_fill_6 : decode kc_fill 6 = .ok (.iload_n 3, 1) := by decide +kernel
set_option maxRecDepth 100000 in
theorem kd_fill_7 : decode kc_fill 7 = .ok (.if_icmp .ge 13, 3) := by decide +kernel
set_option maxRecDepth 100000 in
theorem kd_fill_10 : decode kc_fill 10 = .ok (.aload_n 0, 1) := by decide +kernel
set_option maxRecDepth 100000 in
theorem kd_fill_11 : decode kc_fill 11 = .ok (.iload_n 2, 1) := by decide +kernel
set_option maxRecDepth 100000 in
theorem kd_fill_12 : decode kc_fill 12 = .ok (.iload_n 1, 1) := by decide +kernel
set_option maxRecDepth 100000 in
theorem kd_fill_13 : decode kc_fill 13 = .ok (.iastore, 1) := by decide +kernel
set_option maxRecDepth 100000 in
theorem kd_fill_14 : decode kc_fill 14 = .ok (.iinc 2 1, 3) := by decide +kernel
set_option maxRecDepth 100000 in
theorem kd_fill_17 : decode kc_fill 17 = .ok (.goto (-12), 3) := by decide +kernel
set_option maxRecDepth 100000 in
theorem kd_fill_20 : decode kc_fill 20 = .ok (.return_, 1) := by decide +kernel
set_option maxHeartbeats 4000000 in
set_option maxRecDepth 100000 in
theorem n_fill {l : Launch} {κ : Nat → Nat} {D : va_G} {tA : Nat → ClassId} (a n : Nat) (f : Nat → Int32) (v : Int32) (hn : n < 2 ^ 31) : Ct l κ D tA ky_fill kc_fill 4 none 0 0 0 [.ref a, .int v] [(a, .inl (tA 0, n, .inl f))] (fun r w => r = none ∧ w = [(a, .inl (tA 0, n, .inl (fun _ => v)))]) := by
  refine Ct.of rfl (Nat.le_of_ble_eq_true rfl) ?_
  intro p e s m args below meth c A ls C0 hr hlocks hin hP hD hS hl
  obtain ⟨hx, hb, hml, hown, hts, hK, hA, hI⟩ := id C0
  have hl : lv_has ls 4 [(0, .ref a), (1, .int v)] := hl
  have hin : meth.name = "fill" := hin
  refine lv_iconst (v := 0) hx hb kd_fill_0 (by decide) ?_
  refine lv_istore_n (lv' := [(2, .int 0), (0, .ref a), (1, .int v)]) hx hb kd_fill_1 rfl hl (by decide) rfl (fun ls hl => ?_)
  refine lv_aload_n hx hb kd_fill_2 rfl (lv_at hl 1 rfl) ?_
  refine k_alen (t0 := 0) C0 hP 0 rfl rfl kd_fill_3 ?_
  refine lv_istore_n (lv' := [(3, .int (nI n)), (2, .int 0), (0, .ref a), (1, .int v)]) hx hb kd_fill_4 rfl hl (by decide) rfl (fun ls hl => ?_)
  have loop : ∀ (N i : Nat) (g : Nat → Int32) (H : Heap) (locs : List Loc) (ls : Array Slot), n - i < N → i ≤ n → (∀ k, k < i → g k = v) → va_P D clx [(a, .inl (tA 0, n, .inl g))] H → va_D A [(a, .inl (tA 0, n, .inl g))] → va_S A s.heap H locs → lv_has ls 4 [(2, .int (nI i)), (3, .int (nI n)), (0, .ref a), (1, .int v)] → W p l e (rmc 0 0 0) s m args below meth c H locs 0 0 (Ke D (fun r w => r = none ∧ w = [(a, .inl (tA 0, n, .inl (fun _ => v)))]) A below args s 0 0) (F0 m 5 ls []) := by
    intro N
    induction N with
    | zero => intro i g H locs ls h9; omega
    | succ N ih =>
      intro i g H locs ls hN hi hg hP hD hS hl
      refine lv_iload_n hx hb kd_fill_5 rfl (lv_at hl 0 rfl) ?_
      refine lv_iload_n hx hb kd_fill_6 rfl (lv_at hl 1 rfl) ?_
      refine lv_icmp_ge (tgt := 20) hx hb kd_fill_7 (by decide) (fun h9 => ?_) (fun h9 => ?_)
      · have e9 : i = n := by have := (nI_leI hn (by omega)).mp h9; omega
        subst e9
        have hP9 := hP.re hD 0 rfl (arr_i (g := fun _ => v) hg)
        have hP : va_P D clx [(a, .inl (tA 0, i, .inl (fun _ => v)))] H := hP9
        have hD : va_D A [(a, .inl (tA 0, i, .inl (fun _ => v)))] := hD.set (p := 0) rfl
        exact k_vret C0 hr hlocks hP hD hS ⟨rfl, rfl⟩ ⟨Nat.le_of_ble_eq_true rfl, Nat.le_of_ble_eq_true rfl⟩ kd_fill_20
      · have h9 : i < n := by have := mt (nI_leI hn (by omega)).mpr h9; omega
        refine lv_aload_n hx hb kd_fill_10 rfl (lv_at hl 2 rfl) ?_
        refine lv_iload_n hx hb kd_fill_11 rfl (lv_at hl 0 rfl) ?_
        refine lv_iload_n hx hb kd_fill_12 rfl (lv_at hl 3 rfl) ?_
        refine k_iast C0 hP hD hS 0 rfl (vp_in_nI h9 hn) kd_fill_13 (fun H locs hP hD hS => ?_)
        have hP : va_P D clx [(a, .inl (tA 0, n, .inl (upd g (nI i).toNatClampNeg v)))] H := hP
        have hD : va_D A [(a, .inl (tA 0, n, .inl (upd g (nI i).toNatClampNeg v)))] := hD
        refine lv_iinc (v := (nI (i + 1))) (lv' := [(2, .int (nI (i + 1))), (3, .int (nI n)), (0, .ref a), (1, .int v)]) hx hb kd_fill_14 hl (k := 0) rfl (by rw [← nI_1]; rfl) (by decide) rfl (fun ls hl => ?_)
        refine lv_goto (tgt := 5) hx hb kd_fill_17 (by decide) ?_
        refine ih (i + 1) (upd g (nI i).toNatClampNeg v) H locs ls (by omega) (by omega) (fun k hk => ?_) hP hD hS (lv_sub hl [0, 1, 2, 3] rfl)
        rw [nI_clamp (by omega)]
        unfold upd
        by_cases e9 : k = i
        · rw [if_pos e9]
        · rw [if_neg e9]; exact hg k (by omega)
  exact loop (n + 1) 0 f s.heap [] ls (by omega) (by omega) (fun k hk => absurd hk (Nat.not_lt_zero _)) hP hD hS (lv_sub hl [1, 0, 2, 3] rfl)
abbrev kc_stin : ByteArray := prog_10_method_1_code
def ky_stin : MethodName := ⟨"IceManners$State", "<init>", "(LIceManners$Lake;)V"⟩
set_option maxRecDepth 100000 in
theorem kd_stin_0 : decode kc_stin 0 = .ok (.aload_n 0, 1) := by decide +kernel
set_option maxRecDepth 100000 in
theorem kd_stin_1 : decode kc_stin 1 = .ok (.invokespecial 3, 3) := by decide +kernel
set_option maxRecDepth 100000 in
theorem kd_stin_4 : decode kc_stin 4 = .ok (.aload_n 0, 1) := by decide +kernel
set_option maxRecDepth 100000 in
theorem kd_stin_5 : decode kc_stin 5 = .ok (.bipush 64, 2) := by decide +kernel
set_option maxRecDepth 100000 in
theorem kd_stin_7 : decode kc_stin 7 = .ok (.newarray .int, 2) := by decide +kernel
set_option maxRecDepth 100000 in
theorem kd_stin_9 : decode kc_stin 9 = .ok (.putfield 9, 3) := by decide +kernel
set_option maxRecDepth 100000 in
theorem kd_stin_12 : decode kc_stin 12 = .ok (.aload_n 0, 1) := by decide +kernel
set_option maxRecDepth 100000 in
theorem kd_stin_13 : decode kc_stin 13 = .ok (.bipush 6, 2) := by decide +kernel
set_option maxRecDepth 100000 in
theorem kd_stin_15 : decode kc_stin 15 = .ok (.newarray .int, 2) := by decide +kernel
set_option maxRecDepth 100000 in
theorem kd_stin_17 : decode kc_stin 17 = .ok (.putfield 15, 3) := by decide +kernel
set_option maxRecDepth 100000 in
theorem kd_stin_20 : decode kc_stin 20 = .ok (.aload_n 0, 1) := by decide +kernel
set_option maxRecDepth 100000 in
theorem kd_stin_21 : decode kc_stin 21 = .ok (.bipush 6, 2) := by decide +kernel
set_option maxRecDepth 100000 in
theorem kd_stin_23 : decode kc_stin 23 = .ok (.newarray .int, 2) := by decide +kernel
set_option maxRecDepth 100000 in
theorem kd_stin_25 : decode kc_stin 25 = .ok (.putfield 18, 3) := by decide +kernel
set_option maxRecDepth 100000 in
theorem kd_stin_28 : decode kc_stin 28 = .ok (.aload_n 0, 1) := by decide +kernel
set_option maxRecDepth 100000 in
theorem kd_stin_29 : decode kc_stin 29 = .ok (.bipush 6, 2) := by decide +kernel
set_option maxRecDepth 100000 in
theorem kd_stin_31 : decode kc_stin 31 = .ok (.newarray .int, 2) := by decide +kernel
set_option maxRecDepth 100000 in
theorem kd_stin_33 : decode kc_stin 33 = .ok (.putfield 21, 3) := by decide +kernel
set_option maxRecDepth 100000 in
theorem kd_stin_36 : decode kc_stin 36 = .ok (.aload_n 0, 1) := by decide +kernel
set_option maxRecDepth 100000 in
theorem kd_stin_37 : decode kc_stin 37 = .ok (.aload_n 1, 1) := by decide +kernel
set_option maxRecDepth 100000 in
theorem kd_stin_38 : decode kc_stin 38 = .ok (.putfield 24, 3) := by decide +kernel
set_option maxRecDepth 100000 in
theorem kd_stin_41 : decode kc_stin 41 = .ok (.aload_n 0, 1) := by decide +kernel
set_option maxRecDepth 100000 in
theorem kd_stin_42 : decode kc_stin 42 = .ok (.getfield 9, 3) := by decide +kernel
set_option maxRecDepth 100000 in
theorem kd_stin_45 : decode kc_stin 45 = .ok (.iconst 5, 1) := by decide +kernel
set_option maxRecDepth 100000 in
theorem kd_stin_46 : decode kc_stin 46 = .ok (.invokestatic 28, 3) := by decide +kernel
set_option maxRecDepth 100000 in
theorem kd_stin_49 : decode kc_stin 49 = .ok (.return_, 1) := by decide +kernel
set_option maxHeartbeats 4000000 in
set_option maxRecDepth 100000 in
theorem n_stin {l : Launch} {κ : Nat → Nat} {D : va_G} {tA : Nat → ClassId} (a lk : Nat) : Ct l κ D tA ky_stin kc_stin 2 none 1 4 82 [.ref a, .ref lk] [(a, .inr (5, [.null, .null, .null, .null, .null, .int 0, .int 0, .int 0, .int 0, .int 0, .int 0, .int 0, .int 0]))] (fun r w => ∃ q1 q2 q3 q4, r = none ∧ w = [(a, .inr (5, [.ref lk, .ref q1, .ref q2, .ref q3, .ref q4, .int 0, .int 0, .int 0, .int 0, .int 0, .int 0, .int 0, .int 0])), (q1, .inl (tA 0, 64, .inl (fun _ => 5))), (q2, .inl (tA 0, 6, .inl (fun _ => 0))), (q3, .inl (tA 0, 6, .inl (fun _ => 0))), (q4, .inl (tA 0, 6, .inl (fun _ => 0)))]) := by
  refine Ct.of rfl (Nat.le_of_ble_eq_true rfl) ?_
  intro p e s m args below meth c A ls C0 hr hlocks hin hP hD hS hl
  obtain ⟨hx, hb, hml, hown, hts, hK, hA, hI⟩ := id C0
  have hl : lv_has ls 2 [(0, .ref a), (1, .ref lk)] := hl
  have hin : meth.name = "<init>" := hin
  refine lv_aload_n hx hb kd_stin_0 rfl (lv_at hl 0 rfl) ?_
  refine k_obj (n1 := 227) C0 (by decide +kernel) hl.1 ⟨Nat.le_of_ble_eq_true rfl, Nat.le_of_ble_eq_true rfl⟩ kd_stin_1 ?_
  refine lv_aload_n hx hb kd_stin_4 rfl (lv_at hl 0 rfl) ?_
  refine lv_bipush (v := 64) hx hb kd_stin_5 (by decide) ?_
  refine k_newi (N' := 64) C0 hP hD hS (by decide +kernel) (by rfl) (by decide) ⟨Nat.le_of_ble_eq_true rfl, Nat.le_of_ble_eq_true rfl⟩ kd_stin_7 (fun q1 H hP hD hS => ?_)
  have hP : va_P D clx [(a, .inr (5, [.null, .null, .null, .null, .null, .int 0, .int 0, .int 0, .int 0, .int 0, .int 0, .int 0, .int 0])), (q1, .inl (tA 0, 64, .inl (fun _ => 0)))] H := hP
  have hD : va_D A [(a, .inr (5, [.null, .null, .null, .null, .null, .int 0, .int 0, .int 0, .int 0, .int 0, .int 0, .int 0, .int 0])), (q1, .inl (tA 0, 64, .inl (fun _ => 0)))] := hD
  refine k_putF (k := 1) (v := .ref q1) C0 hin hP hD hS 0 234 rfl (by decide +kernel) rfl rfl (Nat.le_of_ble_eq_true rfl) kd_stin_9 (fun H locs hP hD hS => ?_)
  have hP : va_P D clx [(a, .inr (5, [.null, .ref q1, .null, .null, .null, .int 0, .int 0, .int 0, .int 0, .int 0, .int 0, .int 0, .int 0])), (q1, .inl (tA 0, 64, .inl (fun _ => 0)))] H := hP
  have hD : va_D A [(a, .inr (5, [.null, .ref q1, .null, .null, .null, .int 0, .int 0, .int 0, .int 0, .int 0, .int 0, .int 0, .int 0])), (q1, .inl (tA 0, 64, .inl (fun _ => 0)))] := hD
  refine lv_aload_n hx hb kd_stin_12 rfl (lv_at hl 0 rfl) ?_
  refine lv_bipush (v := 6) hx hb kd_stin_13 (by decide) ?_
  refine k_newi (N' := 6) C0 hP hD hS (by decide +kernel) (by rfl) (by decide) ⟨Nat.le_of_ble_eq_true rfl, Nat.le_of_ble_eq_true rfl⟩ kd_stin_15 (fun q2 H hP hD hS => ?_)
  have hP : va_P D clx [(a, .inr (5, [.null, .ref q1, .null, .null, .null, .int 0, .int 0, .int 0, .int 0, .int 0, .int 0, .int 0, .int 0])), (q1, .inl (tA 0, 64, .inl (fun _ => 0))), (q2, .inl (tA 0, 6, .inl (fun _ => 0)))] H := hP
  have hD : va_D A [(a, .inr (5, [.null, .ref q1, .null, .null, .null, .int 0, .int 0, .int 0, .int 0, .int 0, .int 0, .int 0, .int 0])), (q1, .inl (tA 0, 64, .inl (fun _ => 0))), (q2, .inl (tA 0, 6, .inl (fun _ => 0)))] := hD
  refine k_putF (k := 2) (v := .ref q2) C0 hin hP hD hS 0 239 rfl (by decide +kernel) rfl rfl (Nat.le_of_ble_eq_true rfl) kd_stin_17 (fun H locs hP hD hS => ?_)
  have hP : va_P D clx [(a, .inr (5, [.null, .ref q1, .ref q2, .null, .null, .int 0, .int 0, .int 0, .int 0, .int 0, .int 0, .int 0, .int 0])), (q1, .inl (tA 0, 64, .inl (fun _ => 0))), (q2, .inl (tA 0, 6, .inl (fun _ => 0)))] H := hP
  have hD : va_D A [(a, .inr (5, [.null, .ref q1, .ref q2, .null, .null, .int 0, .int 0, .int 0, .int 0, .int 0, .int 0, .int 0, .int 0])), (q1, .inl (tA 0, 64, .inl (fun _ => 0))), (q2, .inl (tA 0, 6, .inl (fun _ => 0)))] := hD
  refine lv_aload_n hx hb kd_stin_20 rfl (lv_at hl 0 rfl) ?_
  refine lv_bipush (v := 6) hx hb kd_stin_21 (by decide) ?_
  refine k_newi (N' := 6) C0 hP hD hS (by decide +kernel) (by rfl) (by decide) ⟨Nat.le_of_ble_eq_true rfl, Nat.le_of_ble_eq_true rfl⟩ kd_stin_23 (fun q3 H hP hD hS => ?_)
  have hP : va_P D clx [(a, .inr (5, [.null, .ref q1, .ref q2, .null, .null, .int 0, .int 0, .int 0, .int 0, .int 0, .int 0, .int 0, .int 0])), (q1, .inl (tA 0, 64, .inl (fun _ => 0))), (q2, .inl (tA 0, 6, .inl (fun _ => 0))), (q3, .inl (tA 0, 6, .inl (fun _ => 0)))] H := hP
  have hD : va_D A [(a, .inr (5, [.null, .ref q1, .ref q2, .null, .null, .int 0, .int 0, .int 0, .int 0, .int 0, .int 0, .int 0, .int 0])), (q1, .inl (tA 0, 64, .inl (fun _ => 0))), (q2, .inl (tA 0, 6, .inl (fun _ => 0))), (q3, .inl (tA 0, 6, .inl (fun _ => 0)))] := hD
  refine k_putF (k := 3) (v := .ref q3) C0 hin hP hD hS 0 244 rfl (by decide +kernel) rfl rfl (Nat.le_of_ble_eq_true rfl) kd_stin_25 (fun H locs hP hD hS => ?_)
  have hP : va_P D clx [(a, .inr (5, [.null, .ref q1, .ref q2, .ref q3, .null, .int 0, .int 0, .int 0, .int 0, .int 0, .int 0, .int 0, .int 0])), (q1, .inl (tA 0, 64, .inl (fun _ => 0))), (q2, .inl (tA 0, 6, .inl (fun _ => 0))), (q3, .inl (tA 0, 6, .inl (fun _ => 0)))] H := hP
  have hD : va_D A [(a, .inr (5, [.null, .ref q1, .ref q2, .ref q3, .null, .int 0, .int 0, .int 0, .int 0, .int 0, .int 0, .int 0, .int 0])), (q1, .inl (tA 0, 64, .inl (fun _ => 0))), (q2, .inl (tA 0, 6, .inl (fun _ => 0))), (q3, .inl (tA 0, 6, .inl (fun _ => 0)))] := hD
  refine lv_aload_n hx hb kd_stin_28 rfl (lv_at hl 0 rfl) ?_
  refine lv_bipush (v := 6) hx hb kd_stin_29 (by decide) ?_
  refine k_newi (N' := 6) C0 hP hD hS (by decide +kernel) (by rfl) (by decide) ⟨Nat.le_of_ble_eq_true rfl, Nat.le_of_ble_eq_true rfl⟩ kd_stin_31 (fun q4 H hP hD hS => ?_)
  have hP : va_P D clx [(a, .inr (5, [.null, .ref q1, .ref q2, .ref q3, .null, .int 0, .int 0, .int 0, .int 0, .int 0, .int 0, .int 0, .int 0])), (q1, .inl (tA 0, 64, .inl (fun _ => 0))), (q2, .inl (tA 0, 6, .inl (fun _ => 0))), (q3, .inl (tA 0, 6, .inl (fun _ => 0))), (q4, .inl (tA 0, 6, .inl (fun _ => 0)))] H := hP
  have hD : va_D A [(a, .inr (5, [.null, .ref q1, .ref q2, .ref q3, .null, .int 0, .int 0, .int 0, .int 0, .int 0, .int 0, .int 0, .int 0])), (q1, .inl (tA 0, 64, .inl (fun _ => 0))), (q2, .inl (tA 0, 6, .inl (fun _ => 0))), (q3, .inl (tA 0, 6, .inl (fun _ => 0))), (q4, .inl (tA 0, 6, .inl (fun _ => 0)))] := hD
  refine k_putF (k := 4) (v := .ref q4) C0 hin hP hD hS 0 248 rfl (by decide +kernel) rfl rfl (Nat.le_of_ble_eq_true rfl) kd_stin_33 (fun H locs hP hD hS => ?_)
  have hP : va_P D clx [(a, .inr (5, [.null, .ref q1, .ref q2, .ref q3, .ref q4, .int 0, .int 0, .int 0, .int 0, .int 0, .int 0, .int 0, .int 0])), (q1, .inl (tA 0, 64, .inl (fun _ => 0))), (q2, .inl (tA 0, 6, .inl (fun _ => 0))), (q3, .inl (tA 0, 6, .inl (fun _ => 0))), (q4, .inl (tA 0, 6, .inl (fun _ => 0)))] H := hP
  have hD : va_D A [(a, .inr (5, [.null, .ref q1, .ref q2, .ref q3, .ref q4, .int 0, .int 0, .int 0, .int 0, .int 0, .int 0, .int 0, .int 0])), (q1, .inl (tA 0, 64, .inl (fun _ => 0))), (q2, .inl (tA 0, 6, .inl (fun _ => 0))), (q3, .inl (tA 0, 6, .inl (fun _ => 0))), (q4, .inl (tA 0, 6, .inl (fun _ => 0)))] := hD
  refine lv_aload_n hx hb kd_stin_36 rfl (lv_at hl 0 rfl) ?_
  refine lv_aload_n hx hb kd_stin_37 rfl (lv_at hl 1 rfl) ?_
  refine k_putF (k := 0) (v := .ref lk) C0 hin hP hD hS 0 231 rfl (by decide +kernel) rfl rfl (Nat.le_of_ble_eq_true rfl) kd_stin_38 (fun H locs hP hD hS => ?_)
  have hP : va_P D clx [(a, .inr (5, [.ref lk, .ref q1, .ref q2, .ref q3, .ref q4, .int 0, .int 0, .int 0, .int 0, .int 0, .int 0, .int 0, .int 0])), (q1, .inl (tA 0, 64, .inl (fun _ => 0))), (q2, .inl (tA 0, 6, .inl (fun _ => 0))), (q3, .inl (tA 0, 6, .inl (fun _ => 0))), (q4, .inl (tA 0, 6, .inl (fun _ => 0)))] H := hP
  have hD : va_D A [(a, .inr (5, [.ref lk, .ref q1, .ref q2, .ref q3, .ref q4, .int 0, .int 0, .int 0, .int 0, .int 0, .int 0, .int 0, .int 0])), (q1, .inl (tA 0, 64, .inl (fun _ => 0))), (q2, .inl (tA 0, 6, .inl (fun _ => 0))), (q3, .inl (tA 0, 6, .inl (fun _ => 0))), (q4, .inl (tA 0, 6, .inl (fun _ => 0)))] := hD
  refine lv_aload_n hx hb kd_stin_41 rfl (lv_at hl 0 rfl) ?_
  refine k_get (k := 1) (v := .ref q1) C0 hP 0 234 rfl (by decide +kernel) rfl kd_stin_42 ?_
  refine lv_iconst (v := 5) hx hb kd_stin_45 (by decide) ?_
  refine k_callS (n := 2) (n1 := 228) (n2 := 229) (n4 := 109) (n5 := 230) (As := [.ref q1, .int 5]) (rest := []) (wr := [(a, .inr (5, [.ref lk, .ref q1, .ref q2, .ref q3, .ref q4, .int 0, .int 0, .int 0, .int 0, .int 0, .int 0, .int 0, .int 0])), (q2, .inl (tA 0, 6, .inl (fun _ => 0))), (q3, .inl (tA 0, 6, .inl (fun _ => 0))), (q4, .inl (tA 0, 6, .inl (fun _ => 0)))]) C0 (n_fill q1 64 _ 5 (by decide)) (by decide +kernel) hP hD hS [1] [0, 2, 3, 4] rfl rfl rfl rfl (by decide) hl.1 rfl (Nat.le_of_ble_eq_true rfl) ⟨Nat.le_of_ble_eq_true rfl, Nat.le_of_ble_eq_true rfl⟩ ⟨Nat.le_of_ble_eq_true rfl, Nat.le_of_ble_eq_true rfl⟩ kd_stin_46 rfl (fun r w1 H locs hQ hP hD hS => ?_)
  obtain ⟨rfl, rfl⟩ := hQ
  have hP : va_P D clx [(a, .inr (5, [.ref lk, .ref q1, .ref q2, .ref q3, .ref q4, .int 0, .int 0, .int 0, .int 0, .int 0, .int 0, .int 0, .int 0])), (q2, .inl (tA 0, 6, .inl (fun _ => 0))), (q3, .inl (tA 0, 6, .inl (fun _ => 0))), (q4, .inl (tA 0, 6, .inl (fun _ => 0))), (q1, .inl (tA 0, 64, .inl (fun _ => 5)))] H := hP
  have hD : va_D A [(a, .inr (5, [.ref lk, .ref q1, .ref q2, .ref q3, .ref q4, .int 0, .int 0, .int 0, .int 0, .int 0, .int 0, .int 0, .int 0])), (q2, .inl (tA 0, 6, .inl (fun _ => 0))), (q3, .inl (tA 0, 6, .inl (fun _ => 0))), (q4, .inl (tA 0, 6, .inl (fun _ => 0))), (q1, .inl (tA 0, 64, .inl (fun _ => 5)))] := hD
  have hP9 := hP.sub (ws' := [(a, .inr (5, [.ref lk, .ref q1, .ref q2, .ref q3, .ref q4, .int 0, .int 0, .int 0, .int 0, .int 0, .int 0, .int 0, .int 0])), (q1, .inl (tA 0, 64, .inl (fun _ => 5))), (q2, .inl (tA 0, 6, .inl (fun _ => 0))), (q3, .inl (tA 0, 6, .inl (fun _ => 0))), (q4, .inl (tA 0, 6, .inl (fun _ => 0)))]) [0, 4, 1, 2, 3] rfl
  have hD9 := hD.sub (ws' := [(a, .inr (5, [.ref lk, .ref q1, .ref q2, .ref q3, .ref q4, .int 0, .int 0, .int 0, .int 0, .int 0, .int 0, .int 0, .int 0])), (q1, .inl (tA 0, 64, .inl (fun _ => 5))), (q2, .inl (tA 0, 6, .inl (fun _ => 0))), (q3, .inl (tA 0, 6, .inl (fun _ => 0))), (q4, .inl (tA 0, 6, .inl (fun _ => 0)))]) [0, 4, 1, 2, 3] rfl rfl
  clear hP hD
  have hP := hP9
  have hD := hD9
  exact k_vret C0 hr hlocks hP hD hS ⟨q1, q2, q3, q4, rfl, rfl⟩ ⟨Nat.le_of_ble_eq_true rfl, Nat.le_of_ble_eq_true rfl⟩ kd_stin_49
abbrev kc_snin : ByteArray := prog_9_method_1_code
def ky_snin : MethodName := ⟨"IceManners$Sentence", "<init>", "()V"⟩
set_option maxRecDepth 100000 in
theorem kd_snin_0 : decode kc_snin 0 = .ok (.aload_n 0, 1) := by decide +kernel
set_option maxRecDepth 100000 in
theorem kd_snin_1 : decode kc_snin 1 = .ok (.invokespecial 5, 3) := by decide +kernel
set_option maxRecDepth 100000 in
theorem kd_snin_4 : decode kc_snin 4 = .ok (.aload_n 0, 1) := by decide +kernel
set_option maxRecDepth 100000 in
theorem kd_snin_5 : decode kc_snin 5 = .ok (.bipush 40, 2) := by decide +kernel
set_option maxRecDepth 100000 in
theorem kd_snin_7 : decode kc_snin 7 = .ok (.anewarray 11, 3) := by decide +kernel
set_option maxRecDepth 100000 in
theorem kd_snin_10 : decode kc_snin 10 = .ok (.putfield 13, 3) := by decide +kernel
set_option maxRecDepth 100000 in
theorem kd_snin_13 : decode kc_snin 13 = .ok (.aload_n 0, 1) := by decide +kernel
set_option maxRecDepth 100000 in
theorem kd_snin_14 : decode kc_snin 14 = .ok (.bipush 40, 2) := by decide +kernel
set_option maxRecDepth 100000 in
theorem kd_snin_16 : decode kc_snin 16 = .ok (.anewarray 11, 3) := by decide +kernel
set_option maxRecDepth 100000 in
theorem kd_snin_19 : decode kc_snin 19 = .ok (.putfield 17, 3) := by decide +kernel
set_option maxRecDepth 100000 in
theorem kd_snin_22 : decode kc_snin 22 = .ok (.aload_n 0, 1) := by decide +kernel
set_option maxRecDepth 100000 in
theorem kd_snin_23 : decode kc_snin 23 = .ok (.bipush 40, 2) := by decide +kernel
set_option maxRecDepth 100000 in
theorem kd_snin_25 : decode kc_snin 25 = .ok (.newarray .int, 2) := by decide +kernel
set_option maxRecDepth 100000 in
theorem kd_snin_27 : decode kc_snin 27 = .ok (.putfield 20, 3) := by decide +kernel
set_option maxRecDepth 100000 in
theorem kd_snin_30 : decode kc_snin 30 = .ok (.iconst 0, 1) := by decide +kernel
set_option maxRecDepth 100000 in
theorem kd_snin_31 : decode kc_snin 31 = .ok (.istore_n 1, 1) := by decide +kernel
set_option maxRecDepth 100000 in
theorem kd_snin_32 : decode kc_snin 32 = .ok (.iload_n 1, 1) := by decide +kernel
set_option maxRecDepth 100000 in
theorem kd_snin_33 : decode kc_snin 33 = .ok (.bipush 40, 2) := by decide +kernel
set_option maxRecDepth 100000 in
theorem kd_snin_35 : decode kc_snin 35 = .ok (.if_icmp .ge 27, 3) := by decide +kernel
set_option maxRecDepth 100000 in
theorem kd_snin_38 : decode kc_snin 38 = .ok (.aload_n 0, 1) := by decide +kernel
set_option maxRecDepth 100000 in
theorem kd_snin_39 : decode kc_snin 39 = .ok (.getfield 13, 3) := by decide +kernel
set_option maxRecDepth 100000 in
theorem kd_snin_42 : decode kc_snin 42 = .ok (.iload_n 1, 1) := by decide +kernel
set_option maxRecDepth 100000 in
theorem kd_snin_43 : decode kc_snin 43 = .ok (.getstatic 24, 3) := by decide +kernel
set_option maxRecDepth 100000 in
theorem kd_snin_46 : decode kc_snin 46 = .ok (.aastore, 1) := by decide +kernel
set_option maxRecDepth 100000 in
theorem kd_snin_47 : decode kc_snin 47 = .ok (.aload_n 0, 1) := by decide +kernel
set_option maxRecDepth 100000 in
theorem kd_snin_48 : decode kc_snin 48 = .ok (.getfield 17, 3) := by decide +kernel
set_option maxRecDepth 100000 in
theorem kd_snin_51 : decode kc_snin 51 = .ok (.iload_n 1, 1) := by decide +kernel
set_option maxRecDepth 100000 in
theorem kd_snin_52 : decode kc_snin 52 = .ok (.getstatic 24, 3) := by decide +kernel
set_option maxRecDepth 100000 in
theorem kd_snin_55 : decode kc_snin 55 = .ok (.aastore, 1) := by decide +kernel
set_option maxRecDepth 100000 in
theorem kd_snin_56 : decode kc_snin 56 = .ok (.iinc 1 1, 3) := by decide +kernel
set_option maxRecDepth 100000 in
theorem kd_snin_59 : decode kc_snin 59 = .ok (.goto (-27), 3) := by decide +kernel
set_option maxRecDepth 100000 in
theorem kd_snin_62 : decode kc_snin 62 = .ok (.return_, 1) := by decide +kernel
set_option maxHeartbeats 4000000 in
set_option maxRecDepth 100000 in
theorem n_snin {l : Launch} {κ : Nat → Nat} {D : va_G} {tA : Nat → ClassId} (a : Nat) : Ct l κ D tA ky_snin kc_snin 2 none 1 3 120 [.ref a] [(a, .inr (4, [.null, .null, .null, .int 0, .int 0]))] (fun r w => ∃ q1 q2 q3, r = none ∧ w = [(a, .inr (4, [.ref q1, .ref q2, .ref q3, .int 0, .int 0])), (q1, .inl (tA 4, 40, .inr (.inr (.inr (.inr (fun _ => some (κ 100000))))))), (q2, .inl (tA 4, 40, .inr (.inr (.inr (.inr (fun _ => some (κ 100000))))))), (q3, .inl (tA 0, 40, .inl (fun _ => 0)))]) := by
  refine Ct.of rfl (Nat.le_of_ble_eq_true rfl) ?_
  intro p e s m args below meth c A ls C0 hr hlocks hin hP hD hS hl
  obtain ⟨hx, hb, hml, hown, hts, hK, hA, hI⟩ := id C0
  have hl : lv_has ls 2 [(0, .ref a)] := hl
  have hin : meth.name = "<init>" := hin
  refine lv_aload_n hx hb kd_snin_0 rfl (lv_at hl 0 rfl) ?_
  refine k_obj (n1 := 300) C0 (by decide +kernel) hl.1 ⟨Nat.le_of_ble_eq_true rfl, Nat.le_of_ble_eq_true rfl⟩ kd_snin_1 ?_
  refine lv_aload_n hx hb kd_snin_4 rfl (lv_at hl 0 rfl) ?_
  refine lv_bipush (v := 40) hx hb kd_snin_5 (by decide) ?_
  refine k_newq (N' := 40) (t := 4) (n1 := 301) C0 hP hD hS (by decide +kernel) hI.2.2.2.2.1 rfl (by rfl) (by decide) ⟨Nat.le_of_ble_eq_true rfl, Nat.le_of_ble_eq_true rfl⟩ kd_snin_7 (fun q1 H hP hD hS => ?_)
  have hP : va_P D clx [(a, .inr (4, [.null, .null, .null, .int 0, .int 0])), (q1, .inl (tA 4, 40, .inr (.inr (.inr (.inr (fun _ => none))))))] H := hP
  have hD : va_D A [(a, .inr (4, [.null, .null, .null, .int 0, .int 0])), (q1, .inl (tA 4, 40, .inr (.inr (.inr (.inr (fun _ => none))))))] := hD
  refine k_putF (k := 0) (v := .ref q1) C0 hin hP hD hS 0 305 rfl (by decide +kernel) rfl rfl (Nat.le_of_ble_eq_true rfl) kd_snin_10 (fun H locs hP hD hS => ?_)
  have hP : va_P D clx [(a, .inr (4, [.ref q1, .null, .null, .int 0, .int 0])), (q1, .inl (tA 4, 40, .inr (.inr (.inr (.inr (fun _ => none))))))] H := hP
  have hD : va_D A [(a, .inr (4, [.ref q1, .null, .null, .int 0, .int 0])), (q1, .inl (tA 4, 40, .inr (.inr (.inr (.inr (fun _ => none))))))] := hD
  refine lv_aload_n hx hb kd_snin_13 rfl (lv_at hl 0 rfl) ?_
  refine lv_bipush (v := 40) hx hb kd_snin_14 (by decide) ?_
  refine k_newq (N' := 40) (t := 4) (n1 := 301) C0 hP hD hS (by decide +kernel) hI.2.2.2.2.1 rfl (by rfl) (by decide) ⟨Nat.le_of_ble_eq_true rfl, Nat.le_of_ble_eq_true rfl⟩ kd_snin_16 (fun q2 H hP hD hS => ?_)
  have hP : va_P D clx [(a, .inr (4, [.ref q1, .null, .null, .int 0, .int 0])), (q1, .inl (tA 4, 40, .inr (.inr (.inr (.inr (fun _ => none)))))), (q2, .inl (tA 4, 40, .inr (.inr (.inr (.inr (fun _ => none))))))] H := hP
  have hD : va_D A [(a, .inr (4, [.ref q1, .null, .null, .int 0, .int 0])), (q1, .inl (tA 4, 40, .inr (.inr (.inr (.inr (fun _ => none)))))), (q2, .inl (tA 4, 40, .inr (.inr (.inr (.inr (fun _ => none))))))] := hD
  refine k_putF (k := 1) (v := .ref q2) C0 hin hP hD hS 0 306 rfl (by decide +kernel) rfl rfl (Nat.le_of_ble_eq_true rfl) kd_snin_19 (fun H locs hP hD hS => ?_)
  have hP : va_P D clx [(a, .inr (4, [.ref q1, .ref q2, .null, .int 0, .int 0])), (q1, .inl (tA 4, 40, .inr (.inr (.inr (.inr (fun _ => none)))))), (q2, .inl (tA 4, 40, .inr (.inr (.inr (.inr (fun _ => none))))))] H := hP
  have hD : va_D A [(a, .inr (4, [.ref q1, .ref q2, .null, .int 0, .int 0])), (q1, .inl (tA 4, 40, .inr (.inr (.inr (.inr (fun _ => none)))))), (q2, .inl (tA 4, 40, .inr (.inr (.inr (.inr (fun _ => none))))))] := hD
  refine lv_aload_n hx hb kd_snin_22 rfl (lv_at hl 0 rfl) ?_
  refine lv_bipush (v := 40) hx hb kd_snin_23 (by decide) ?_
  refine k_newi (N' := 40) C0 hP hD hS (by decide +kernel) (by rfl) (by decide) ⟨Nat.le_of_ble_eq_true rfl, Nat.le_of_ble_eq_true rfl⟩ kd_snin_25 (fun q3 H hP hD hS => ?_)
  have hP : va_P D clx [(a, .inr (4, [.ref q1, .ref q2, .null, .int 0, .int 0])), (q1, .inl (tA 4, 40, .inr (.inr (.inr (.inr (fun _ => none)))))), (q2, .inl (tA 4, 40, .inr (.inr (.inr (.inr (fun _ => none)))))), (q3, .inl (tA 0, 40, .inl (fun _ => 0)))] H := hP
  have hD : va_D A [(a, .inr (4, [.ref q1, .ref q2, .null, .int 0, .int 0])), (q1, .inl (tA 4, 40, .inr (.inr (.inr (.inr (fun _ => none)))))), (q2, .inl (tA 4, 40, .inr (.inr (.inr (.inr (fun _ => none)))))), (q3, .inl (tA 0, 40, .inl (fun _ => 0)))] := hD
  refine k_putF (k := 2) (v := .ref q3) C0 hin hP hD hS 0 307 rfl (by decide +kernel) rfl rfl (Nat.le_of_ble_eq_true rfl) kd_snin_27 (fun H locs hP hD hS => ?_)
  have hP : va_P D clx [(a, .inr (4, [.ref q1, .ref q2, .ref q3, .int 0, .int 0])), (q1, .inl (tA 4, 40, .inr (.inr (.inr (.inr (fun _ => none)))))), (q2, .inl (tA 4, 40, .inr (.inr (.inr (.inr (fun _ => none)))))), (q3, .inl (tA 0, 40, .inl (fun _ => 0)))] H := hP
  have hD : va_D A [(a, .inr (4, [.ref q1, .ref q2, .ref q3, .int 0, .int 0])), (q1, .inl (tA 4, 40, .inr (.inr (.inr (.inr (fun _ => none)))))), (q2, .inl (tA 4, 40, .inr (.inr (.inr (.inr (fun _ => none)))))), (q3, .inl (tA 0, 40, .inl (fun _ => 0)))] := hD
  refine lv_iconst (v := 0) hx hb kd_snin_30 (by decide) ?_
  refine lv_istore_n (lv' := [(1, .int 0), (0, .ref a)]) hx hb kd_snin_31 rfl hl (by decide) rfl (fun ls hl => ?_)
  have loop : ∀ (N i : Nat) (f1 f2 : Nat → Option Nat) (H : Heap) (locs : List Loc) (ls : Array Slot), 40 - i < N → i ≤ 40 → (∀ k, k < i → f1 k = some (κ 100000)) → (∀ k, k < i → f2 k = some (κ 100000)) → va_P D clx [(a, .inr (4, [.ref q1, .ref q2, .ref q3, .int 0, .int 0])), (q1, .inl (tA 4, 40, .inr (.inr (.inr (.inr f1))))), (q2, .inl (tA 4, 40, .inr (.inr (.inr (.inr f2))))), (q3, .inl (tA 0, 40, .inl (fun _ => 0)))] H → va_D A [(a, .inr (4, [.ref q1, .ref q2, .ref q3, .int 0, .int 0])), (q1, .inl (tA 4, 40, .inr (.inr (.inr (.inr f1))))), (q2, .inl (tA 4, 40, .inr (.inr (.inr (.inr f2))))), (q3, .inl (tA 0, 40, .inl (fun _ => 0)))] → va_S A s.heap H locs → lv_has ls 2 [(1, .int (nI i)), (0, .ref a)] → W p l e (rmc 1 3 120) s m args below meth c H locs 3 120 (Ke D (fun r w => ∃ q1 q2 q3, r = none ∧ w = [(a, .inr (4, [.ref q1, .ref q2, .ref q3, .int 0, .int 0])), (q1, .inl (tA 4, 40, .inr (.inr (.inr (.inr (fun _ => some (κ 100000))))))), (q2, .inl (tA 4, 40, .inr (.inr (.inr (.inr (fun _ => some (κ 100000))))))), (q3, .inl (tA 0, 40, .inl (fun _ => 0)))]) A below args s 3 120) (F0 m 32 ls []) := by
    intro N
    induction N with
    | zero => intro i f1 f2 H locs ls h9; omega
    | succ N ih =>
      intro i f1 f2 H locs ls hN hi hf1 hf2 hP hD hS hl
      refine lv_iload_n hx hb kd_snin_32 rfl (lv_at hl 0 rfl) ?_
      refine lv_bipush (v := 40) hx hb kd_snin_33 (by decide) ?_
      refine lv_icmp_ge (tgt := 62) hx hb kd_snin_35 (by decide) (fun h9 => ?_) (fun h9 => ?_)
      · have e9 : i = 40 := by have := (nI_leI (a := 40) (by decide) (by omega)).mp h9; omega
        subst e9
        have hP9 := hP.re hD 1 rfl (arr_q (g := fun _ => some (κ 100000)) hf1)
        have hD9 : va_D A [(a, .inr (4, [.ref q1, .ref q2, .ref q3, .int 0, .int 0])), (q1, .inl (tA 4, 40, .inr (.inr (.inr (.inr (fun _ => some (κ 100000))))))), (q2, .inl (tA 4, 40, .inr (.inr (.inr (.inr f2))))), (q3, .inl (tA 0, 40, .inl (fun _ => 0)))] := hD.set (p := 1) rfl
        replace hP : va_P D clx [(a, .inr (4, [.ref q1, .ref q2, .ref q3, .int 0, .int 0])), (q1, .inl (tA 4, 40, .inr (.inr (.inr (.inr (fun _ => some (κ 100000))))))), (q2, .inl (tA 4, 40, .inr (.inr (.inr (.inr f2))))), (q3, .inl (tA 0, 40, .inl (fun _ => 0)))] H := hP9
        replace hD := hD9
        have hP9 := hP.re hD 2 rfl (arr_q (g := fun _ => some (κ 100000)) hf2)
        have hD9 : va_D A [(a, .inr (4, [.ref q1, .ref q2, .ref q3, .int 0, .int 0])), (q1, .inl (tA 4, 40, .inr (.inr (.inr (.inr (fun _ => some (κ 100000))))))), (q2, .inl (tA 4, 40, .inr (.inr (.inr (.inr (fun _ => some (κ 100000))))))), (q3, .inl (tA 0, 40, .inl (fun _ => 0)))] := hD.set (p := 2) rfl
        replace hP : va_P D clx [(a, .inr (4, [.ref q1, .ref q2, .ref q3, .int 0, .int 0])), (q1, .inl (tA 4, 40, .inr (.inr (.inr (.inr (fun _ => some (κ 100000))))))), (q2, .inl (tA 4, 40, .inr (.inr (.inr (.inr (fun _ => some (κ 100000))))))), (q3, .inl (tA 0, 40, .inl (fun _ => 0)))] H := hP9
        replace hD := hD9
        exact k_vret C0 hr hlocks hP hD hS ⟨q1, q2, q3, rfl, rfl⟩ ⟨Nat.le_of_ble_eq_true rfl, Nat.le_of_ble_eq_true rfl⟩ kd_snin_62
      · have h9 : i < 40 := by have := mt (nI_leI (a := 40) (by decide) (by omega)).mpr h9; omega
        refine lv_aload_n hx hb kd_snin_38 rfl (lv_at hl 1 rfl) ?_
        refine k_get (k := 0) (v := .ref q1) C0 hP 0 305 rfl (by decide +kernel) rfl kd_snin_39 ?_
        refine lv_iload_n hx hb kd_snin_42 rfl (lv_at hl 0 rfl) ?_
        refine k_end (n1 := 303) C0 hS (by decide +kernel) kd_snin_43 ?_
        refine k_aast (t0 := 4) C0 hP hD hS 1 rfl (vp_in_nI h9 (by decide)) kd_snin_46 (fun H locs hP hD hS => ?_)
        have hP : va_P D clx [(a, .inr (4, [.ref q1, .ref q2, .ref q3, .int 0, .int 0])), (q1, .inl (tA 4, 40, .inr (.inr (.inr (.inr (va_up f1 (nI i).toNatClampNeg (some (κ 100000)))))))), (q2, .inl (tA 4, 40, .inr (.inr (.inr (.inr f2))))), (q3, .inl (tA 0, 40, .inl (fun _ => 0)))] H := hP
        have hD : va_D A [(a, .inr (4, [.ref q1, .ref q2, .ref q3, .int 0, .int 0])), (q1, .inl (tA 4, 40, .inr (.inr (.inr (.inr (va_up f1 (nI i).toNatClampNeg (some (κ 100000)))))))), (q2, .inl (tA 4, 40, .inr (.inr (.inr (.inr f2))))), (q3, .inl (tA 0, 40, .inl (fun _ => 0)))] := hD
        refine lv_aload_n hx hb kd_snin_47 rfl (lv_at hl 1 rfl) ?_
        refine k_get (k := 1) (v := .ref q2) C0 hP 0 306 rfl (by decide +kernel) rfl kd_snin_48 ?_
        refine lv_iload_n hx hb kd_snin_51 rfl (lv_at hl 0 rfl) ?_
        refine k_end (n1 := 303) C0 hS (by decide +kernel) kd_snin_52 ?_
        refine k_aast (t0 := 4) C0 hP hD hS 2 rfl (vp_in_nI h9 (by decide)) kd_snin_55 (fun H locs hP hD hS => ?_)
        have hP : va_P D clx [(a, .inr (4, [.ref q1, .ref q2, .ref q3, .int 0, .int 0])), (q1, .inl (tA 4, 40, .inr (.inr (.inr (.inr (va_up f1 (nI i).toNatClampNeg (some (κ 100000)))))))), (q2, .inl (tA 4, 40, .inr (.inr (.inr (.inr (va_up f2 (nI i).toNatClampNeg (some (κ 100000)))))))), (q3, .inl (tA 0, 40, .inl (fun _ => 0)))] H := hP
        have hD : va_D A [(a, .inr (4, [.ref q1, .ref q2, .ref q3, .int 0, .int 0])), (q1, .inl (tA 4, 40, .inr (.inr (.inr (.inr (va_up f1 (nI i).toNatClampNeg (some (κ 100000)))))))), (q2, .inl (tA 4, 40, .inr (.inr (.inr (.inr (va_up f2 (nI i).toNatClampNeg (some (κ 100000)))))))), (q3, .inl (tA 0, 40, .inl (fun _ => 0)))] := hD
        refine lv_iinc (v := (nI (i + 1))) (lv' := [(1, .int (nI (i + 1))), (0, .ref a)]) hx hb kd_snin_56 hl (k := 0) rfl (by rw [← nI_1]; rfl) (by decide) rfl (fun ls hl => ?_)
        refine lv_goto (tgt := 32) hx hb kd_snin_59 (by decide) ?_
        refine ih (i + 1) (va_up f1 (nI i).toNatClampNeg (some (κ 100000))) (va_up f2 (nI i).toNatClampNeg (some (κ 100000))) H locs ls (by omega) (by omega) (fun k hk => ?_) (fun k hk => ?_) hP hD hS (lv_sub hl [0, 1] rfl)
        · rw [nI_clamp (by omega)]
          unfold va_up
          by_cases e9 : k = i
          · rw [if_pos e9]
          · rw [if_neg e9]; exact hf1 k (by omega)
        · rw [nI_clamp (by omega)]
          unfold va_up
          by_cases e9 : k = i
          · rw [if_pos e9]
          · rw [if_neg e9]; exact hf2 k (by omega)
  exact W.widen (Nat.le_of_ble_eq_true rfl) (Nat.le_of_ble_eq_true rfl) (loop 41 0 (fun _ => none) (fun _ => none) H locs ls (by omega) (by omega) (fun k hk => absurd hk (Nat.not_lt_zero _)) (fun k hk => absurd hk (Nat.not_lt_zero _)) hP hD hS (lv_sub hl [0, 1] rfl))
abbrev kc_bkin : ByteArray := prog_3_method_1_code
def ky_bkin : MethodName := ⟨"IceManners$Book", "<init>", "()V"⟩
set_option maxRecDepth 100000 in
theorem kd_bkin_0 : decode kc_bkin 0 = .ok (.aload_n 0, 1) := by decide +kernel
set_option maxRecDepth 100000 in
theorem kd_bkin_1 : decode kc_bkin 1 = .ok (.invokespecial 3, 3) := by decide +kernel
set_option maxRecDepth 100000 in
theorem kd_bkin_4 : decode kc_bkin 4 = .ok (.aload_n 0, 1) := by decide +kernel
set_option maxRecDepth 100000 in
theorem kd_bkin_5 : decode kc_bkin 5 = .ok (.bipush 40, 2) := by decide +kernel
set_option maxRecDepth 100000 in
theorem kd_bkin_7 : decode kc_bkin 7 = .ok (.anewarray 11, 3) := by decide +kernel
set_option maxRecDepth 100000 in
theorem kd_bkin_10 : decode kc_bkin 10 = .ok (.putfield 13, 3) := by decide +kernel
set_option maxRecDepth 100000 in
theorem kd_bkin_13 : decode kc_bkin 13 = .ok (.aload_n 0, 1) := by decide +kernel
set_option maxRecDepth 100000 in
theorem kd_bkin_14 : decode kc_bkin 14 = .ok (.bipush 40, 2) := by decide +kernel
set_option maxRecDepth 100000 in
theorem kd_bkin_16 : decode kc_bkin 16 = .ok (.newarray .int, 2) := by decide +kernel
set_option maxRecDepth 100000 in
theorem kd_bkin_18 : decode kc_bkin 18 = .ok (.putfield 17, 3) := by decide +kernel
set_option maxRecDepth 100000 in
theorem kd_bkin_21 : decode kc_bkin 21 = .ok (.aload_n 0, 1) := by decide +kernel
set_option maxRecDepth 100000 in
theorem kd_bkin_22 : decode kc_bkin 22 = .ok (.bipush 40, 2) := by decide +kernel
set_option maxRecDepth 100000 in
theorem kd_bkin_24 : decode kc_bkin 24 = .ok (.newarray .int, 2) := by decide +kernel
set_option maxRecDepth 100000 in
theorem kd_bkin_26 : decode kc_bkin 26 = .ok (.putfield 21, 3) := by decide +kernel
set_option maxRecDepth 100000 in
theorem kd_bkin_29 : decode kc_bkin 29 = .ok (.iconst 0, 1) := by decide +kernel
set_option maxRecDepth 100000 in
theorem kd_bkin_30 : decode kc_bkin 30 = .ok (.istore_n 1, 1) := by decide +kernel
set_option maxRecDepth 100000 in
theorem kd_bkin_31 : decode kc_bkin 31 = .ok (.iload_n 1, 1) := by decide +kernel
set_option maxRecDepth 100000 in
theorem kd_bkin_32 : decode kc_bkin 32 = .ok (.bipush 40, 2) := by decide +kernel
set_option maxRecDepth 100000 in
theorem kd_bkin_34 : decode kc_bkin 34 = .ok (.if_icmp .ge 18, 3) := by decide +kernel
set_option maxRecDepth 100000 in
theorem kd_bkin_37 : decode kc_bkin 37 = .ok (.aload_n 0, 1) := by decide +kernel
set_option maxRecDepth 100000 in
theorem kd_bkin_38 : decode kc_bkin 38 = .ok (.getfield 13, 3) := by decide +kernel
set_option maxRecDepth 100000 in
theorem kd_bkin_41 : decode kc_bkin 41 = .ok (.iload_n 1, 1) := by decide +kernel
set_option maxRecDepth 100000 in
theorem kd_bkin_42 : decode kc_bkin 42 = .ok (.getstatic 24, 3) := by decide +kernel
set_option maxRecDepth 100000 in
theorem kd_bkin_45 : decode kc_bkin 45 = .ok (.aastore, 1) := by decide +kernel
set_option maxRecDepth 100000 in
theorem kd_bkin_46 : decode kc_bkin 46 = .ok (.iinc 1 1, 3) := by decide +kernel
set_option maxRecDepth 100000 in
theorem kd_bkin_49 : decode kc_bkin 49 = .ok (.goto (-18), 3) := by decide +kernel
set_option maxRecDepth 100000 in
theorem kd_bkin_52 : decode kc_bkin 52 = .ok (.return_, 1) := by decide +kernel
set_option maxHeartbeats 4000000 in
set_option maxRecDepth 100000 in
theorem n_bkin {l : Launch} {κ : Nat → Nat} {D : va_G} {tA : Nat → ClassId} (a : Nat) : Ct l κ D tA ky_bkin kc_bkin 2 none 1 3 120 [.ref a] [(a, .inr (0, [.null, .null, .null, .int 0, .int 0]))] (fun r w => ∃ q1 q2 q3, r = none ∧ w = [(a, .inr (0, [.ref q1, .ref q2, .ref q3, .int 0, .int 0])), (q1, .inl (tA 4, 40, .inr (.inr (.inr (.inr (fun _ => some (κ 100000))))))), (q2, .inl (tA 0, 40, .inl (fun _ => 0))), (q3, .inl (tA 0, 40, .inl (fun _ => 0)))]) := by
  refine Ct.of rfl (Nat.le_of_ble_eq_true rfl) ?_
  intro p e s m args below meth c A ls C0 hr hlocks hin hP hD hS hl
  obtain ⟨hx, hb, hml, hown, hts, hK, hA, hI⟩ := id C0
  have hl : lv_has ls 2 [(0, .ref a)] := hl
  have hin : meth.name = "<init>" := hin
  refine lv_aload_n hx hb kd_bkin_0 rfl (lv_at hl 0 rfl) ?_
  refine k_obj (n1 := 452) C0 (by decide +kernel) hl.1 ⟨Nat.le_of_ble_eq_true rfl, Nat.le_of_ble_eq_true rfl⟩ kd_bkin_1 ?_
  refine lv_aload_n hx hb kd_bkin_4 rfl (lv_at hl 0 rfl) ?_
  refine lv_bipush (v := 40) hx hb kd_bkin_5 (by decide) ?_
  refine k_newq (N' := 40) (t := 4) (n1 := 453) C0 hP hD hS (by decide +kernel) hI.2.2.2.2.1 rfl (by rfl) (by decide) ⟨Nat.le_of_ble_eq_true rfl, Nat.le_of_ble_eq_true rfl⟩ kd_bkin_7 (fun q1 H hP hD hS => ?_)
  have hP : va_P D clx [(a, .inr (0, [.null, .null, .null, .int 0, .int 0])), (q1, .inl (tA 4, 40, .inr (.inr (.inr (.inr (fun _ => none))))))] H := hP
  have hD : va_D A [(a, .inr (0, [.null, .null, .null, .int 0, .int 0])), (q1, .inl (tA 4, 40, .inr (.inr (.inr (.inr (fun _ => none))))))] := hD
  refine k_putF (k := 0) (v := .ref q1) C0 hin hP hD hS 0 455 rfl (by decide +kernel) rfl rfl (Nat.le_of_ble_eq_true rfl) kd_bkin_10 (fun H locs hP hD hS => ?_)
  have hP : va_P D clx [(a, .inr (0, [.ref q1, .null, .null, .int 0, .int 0])), (q1, .inl (tA 4, 40, .inr (.inr (.inr (.inr (fun _ => none))))))] H := hP
  have hD : va_D A [(a, .inr (0, [.ref q1, .null, .null, .int 0, .int 0])), (q1, .inl (tA 4, 40, .inr (.inr (.inr (.inr (fun _ => none))))))] := hD
  refine lv_aload_n hx hb kd_bkin_13 rfl (lv_at hl 0 rfl) ?_
  refine lv_bipush (v := 40) hx hb kd_bkin_14 (by decide) ?_
  refine k_newi (N' := 40) C0 hP hD hS (by decide +kernel) (by rfl) (by decide) ⟨Nat.le_of_ble_eq_true rfl, Nat.le_of_ble_eq_true rfl⟩ kd_bkin_16 (fun q2 H hP hD hS => ?_)
  have hP : va_P D clx [(a, .inr (0, [.ref q1, .null, .null, .int 0, .int 0])), (q1, .inl (tA 4, 40, .inr (.inr (.inr (.inr (fun _ => none)))))), (q2, .inl (tA 0, 40, .inl (fun _ => 0)))] H := hP
  have hD : va_D A [(a, .inr (0, [.ref q1, .null, .null, .int 0, .int 0])), (q1, .inl (tA 4, 40, .inr (.inr (.inr (.inr (fun _ => none)))))), (q2, .inl (tA 0, 40, .inl (fun _ => 0)))] := hD
  refine k_putF (k := 1) (v := .ref q2) C0 hin hP hD hS 0 456 rfl (by decide +kernel) rfl rfl (Nat.le_of_ble_eq_true rfl) kd_bkin_18 (fun H locs hP hD hS => ?_)
  have hP : va_P D clx [(a, .inr (0, [.ref q1, .ref q2, .null, .int 0, .int 0])), (q1, .inl (tA 4, 40, .inr (.inr (.inr (.inr (fun _ => none)))))), (q2, .inl (tA 0, 40, .inl (fun _ => 0)))] H := hP
  have hD : va_D A [(a, .inr (0, [.ref q1, .ref q2, .null, .int 0, .int 0])), (q1, .inl (tA 4, 40, .inr (.inr (.inr (.inr (fun _ => none)))))), (q2, .inl (tA 0, 40, .inl (fun _ => 0)))] := hD
  refine lv_aload_n hx hb kd_bkin_21 rfl (lv_at hl 0 rfl) ?_
  refine lv_bipush (v := 40) hx hb kd_bkin_22 (by decide) ?_
  refine k_newi (N' := 40) C0 hP hD hS (by decide +kernel) (by rfl) (by decide) ⟨Nat.le_of_ble_eq_true rfl, Nat.le_of_ble_eq_true rfl⟩ kd_bkin_24 (fun q3 H hP hD hS => ?_)
  have hP : va_P D clx [(a, .inr (0, [.ref q1, .ref q2, .null, .int 0, .int 0])), (q1, .inl (tA 4, 40, .inr (.inr (.inr (.inr (fun _ => none)))))), (q2, .inl (tA 0, 40, .inl (fun _ => 0))), (q3, .inl (tA 0, 40, .inl (fun _ => 0)))] H := hP
  have hD : va_D A [(a, .inr (0, [.ref q1, .ref q2, .null, .int 0, .int 0])), (q1, .inl (tA 4, 40, .inr (.inr (.inr (.inr (fun _ => none)))))), (q2, .inl (tA 0, 40, .inl (fun _ => 0))), (q3, .inl (tA 0, 40, .inl (fun _ => 0)))] := hD
  refine k_putF (k := 2) (v := .ref q3) C0 hin hP hD hS 0 457 rfl (by decide +kernel) rfl rfl (Nat.le_of_ble_eq_true rfl) kd_bkin_26 (fun H locs hP hD hS => ?_)
  have hP : va_P D clx [(a, .inr (0, [.ref q1, .ref q2, .ref q3, .int 0, .int 0])), (q1, .inl (tA 4, 40, .inr (.inr (.inr (.inr (fun _ => none)))))), (q2, .inl (tA 0, 40, .inl (fun _ => 0))), (q3, .inl (tA 0, 40, .inl (fun _ => 0)))] H := hP
  have hD : va_D A [(a, .inr (0, [.ref q1, .ref q2, .ref q3, .int 0, .int 0])), (q1, .inl (tA 4, 40, .inr (.inr (.inr (.inr (fun _ => none)))))), (q2, .inl (tA 0, 40, .inl (fun _ => 0))), (q3, .inl (tA 0, 40, .inl (fun _ => 0)))] := hD
  refine lv_iconst (v := 0) hx hb kd_bkin_29 (by decide) ?_
  refine lv_istore_n (lv' := [(1, .int 0), (0, .ref a)]) hx hb kd_bkin_30 rfl hl (by decide) rfl (fun ls hl => ?_)
  have loop : ∀ (N i : Nat) (f1 : Nat → Option Nat) (H : Heap) (locs : List Loc) (ls : Array Slot), 40 - i < N → i ≤ 40 → (∀ k, k < i → f1 k = some (κ 100000)) → va_P D clx [(a, .inr (0, [.ref q1, .ref q2, .ref q3, .int 0, .int 0])), (q1, .inl (tA 4, 40, .inr (.inr (.inr (.inr f1))))), (q2, .inl (tA 0, 40, .inl (fun _ => 0))), (q3, .inl (tA 0, 40, .inl (fun _ => 0)))] H → va_D A [(a, .inr (0, [.ref q1, .ref q2, .ref q3, .int 0, .int 0])), (q1, .inl (tA 4, 40, .inr (.inr (.inr (.inr f1))))), (q2, .inl (tA 0, 40, .inl (fun _ => 0))), (q3, .inl (tA 0, 40, .inl (fun _ => 0)))] → va_S A s.heap H locs → lv_has ls 2 [(1, .int (nI i)), (0, .ref a)] → W p l e (rmc 1 3 120) s m args below meth c H locs 3 120 (Ke D (fun r w => ∃ q1 q2 q3, r = none ∧ w = [(a, .inr (0, [.ref q1, .ref q2, .ref q3, .int 0, .int 0])), (q1, .inl (tA 4, 40, .inr (.inr (.inr (.inr (fun _ => some (κ 100000))))))), (q2, .inl (tA 0, 40, .inl (fun _ => 0))), (q3, .inl (tA 0, 40, .inl (fun _ => 0)))]) A below args s 3 120) (F0 m 31 ls []) := by
    intro N
    induction N with
    | zero => intro i f1 H locs ls h9; omega
    | succ N ih =>
      intro i f1 H locs ls hN hi hf1 hP hD hS hl
      refine lv_iload_n hx hb kd_bkin_31 rfl (lv_at hl 0 rfl) ?_
      refine lv_bipush (v := 40) hx hb kd_bkin_32 (by decide) ?_
      refine lv_icmp_ge (tgt := 52) hx hb kd_bkin_34 (by decide) (fun h9 => ?_) (fun h9 => ?_)
      · have e9 : i = 40 := by have := (nI_leI (a := 40) (by decide) (by omega)).mp h9; omega
        subst e9
        have hP9 := hP.re hD 1 rfl (arr_q (g := fun _ => some (κ 100000)) hf1)
        have hD9 : va_D A [(a, .inr (0, [.ref q1, .ref q2, .ref q3, .int 0, .int 0])), (q1, .inl (tA 4, 40, .inr (.inr (.inr (.inr (fun _ => some (κ 100000))))))), (q2, .inl (tA 0, 40, .inl (fun _ => 0))), (q3, .inl (tA 0, 40, .inl (fun _ => 0)))] := hD.set (p := 1) rfl
        replace hP : va_P D clx [(a, .inr (0, [.ref q1, .ref q2, .ref q3, .int 0, .int 0])), (q1, .inl (tA 4, 40, .inr (.inr (.inr (.inr (fun _ => some (κ 100000))))))), (q2, .inl (tA 0, 40, .inl (fun _ => 0))), (q3, .inl (tA 0, 40, .inl (fun _ => 0)))] H := hP9
        replace hD := hD9
        exact k_vret C0 hr hlocks hP hD hS ⟨q1, q2, q3, rfl, rfl⟩ ⟨Nat.le_of_ble_eq_true rfl, Nat.le_of_ble_eq_true rfl⟩ kd_bkin_52
      · have h9 : i < 40 := by have := mt (nI_leI (a := 40) (by decide) (by omega)).mpr h9; omega
        refine lv_aload_n hx hb kd_bkin_37 rfl (lv_at hl 1 rfl) ?_
        refine k_get (k := 0) (v := .ref q1) C0 hP 0 455 rfl (by decide +kernel) rfl kd_bkin_38 ?_
        refine lv_iload_n hx hb kd_bkin_41 rfl (lv_at hl 0 rfl) ?_
        refine k_end (n1 := 454) C0 hS (by decide +kernel) kd_bkin_42 ?_
        refine k_aast (t0 := 4) C0 hP hD hS 1 rfl (vp_in_nI h9 (by decide)) kd_bkin_45 (fun H locs hP hD hS => ?_)
        have hP : va_P D clx [(a, .inr (0, [.ref q1, .ref q2, .ref q3, .int 0, .int 0])), (q1, .inl (tA 4, 40, .inr (.inr (.inr (.inr (va_up f1 (nI i).toNatClampNeg (some (κ 100000)))))))), (q2, .inl (tA 0, 40, .inl (fun _ => 0))), (q3, .inl (tA 0, 40, .inl (fun _ => 0)))] H := hP
        have hD : va_D A [(a, .inr (0, [.ref q1, .ref q2, .ref q3, .int 0, .int 0])), (q1, .inl (tA 4, 40, .inr (.inr (.inr (.inr (va_up f1 (nI i).toNatClampNeg (some (κ 100000)))))))), (q2, .inl (tA 0, 40, .inl (fun _ => 0))), (q3, .inl (tA 0, 40, .inl (fun _ => 0)))] := hD
        refine lv_iinc (v := (nI (i + 1))) (lv' := [(1, .int (nI (i + 1))), (0, .ref a)]) hx hb kd_bkin_46 hl (k := 0) rfl (by rw [← nI_1]; rfl) (by decide) rfl (fun ls hl => ?_)
        refine lv_goto (tgt := 31) hx hb kd_bkin_49 (by decide) ?_
        refine ih (i + 1) (va_up f1 (nI i).toNatClampNeg (some (κ 100000))) H locs ls (by omega) (by omega) (fun k hk => ?_) hP hD hS (lv_sub hl [0, 1] rfl)
        · rw [nI_clamp (by omega)]
          unfold va_up
          by_cases e9 : k = i
          · rw [if_pos e9]
          · rw [if_neg e9]; exact hf1 k (by omega)
  exact W.widen (Nat.le_of_ble_eq_true rfl) (Nat.le_of_ble_eq_true rfl) (loop 41 0 (fun _ => none) H locs ls (by omega) (by omega) (fun k hk => absurd hk (Nat.not_lt_zero _)) hP hD hS (lv_sub hl [0, 1] rfl))
abbrev kc_wyin : ByteArray := prog_12_method_1_code
def ky_wyin : MethodName := ⟨"IceManners$Ways", "<init>", "()V"⟩
set_option maxRecDepth 100000 in
theorem kd_wyin_0 : decode kc_wyin 0 = .ok (.aload_n 0, 1) := by decide +kernel
set_option maxRecDepth 100000 in
theorem kd_wyin_1 : decode kc_wyin 1 = .ok (.invokespecial 3, 3) := by decide +kernel
set_option maxRecDepth 100000 in
theorem kd_wyin_4 : decode kc_wyin 4 = .ok (.aload_n 0, 1) := by decide +kernel
set_option maxRecDepth 100000 in
theorem kd_wyin_5 : decode kc_wyin 5 = .ok (.bipush 64, 2) := by decide +kernel
set_option maxRecDepth 100000 in
theorem kd_wyin_7 : decode kc_wyin 7 = .ok (.newarray .int, 2) := by decide +kernel
set_option maxRecDepth 100000 in
theorem kd_wyin_9 : decode kc_wyin 9 = .ok (.putfield 9, 3) := by decide +kernel
set_option maxRecDepth 100000 in
theorem kd_wyin_12 : decode kc_wyin 12 = .ok (.aload_n 0, 1) := by decide +kernel
set_option maxRecDepth 100000 in
theorem kd_wyin_13 : decode kc_wyin 13 = .ok (.bipush 64, 2) := by decide +kernel
set_option maxRecDepth 100000 in
theorem kd_wyin_15 : decode kc_wyin 15 = .ok (.newarray .int, 2) := by decide +kernel
set_option maxRecDepth 100000 in
theorem kd_wyin_17 : decode kc_wyin 17 = .ok (.putfield 15, 3) := by decide +kernel
set_option maxRecDepth 100000 in
theorem kd_wyin_20 : decode kc_wyin 20 = .ok (.aload_n 0, 1) := by decide +kernel
set_option maxRecDepth 100000 in
theorem kd_wyin_21 : decode kc_wyin 21 = .ok (.bipush 64, 2) := by decide +kernel
set_option maxRecDepth 100000 in
theorem kd_wyin_23 : decode kc_wyin 23 = .ok (.newarray .int, 2) := by decide +kernel
set_option maxRecDepth 100000 in
theorem kd_wyin_25 : decode kc_wyin 25 = .ok (.putfield 18, 3) := by decide +kernel
set_option maxRecDepth 100000 in
theorem kd_wyin_28 : decode kc_wyin 28 = .ok (.return_, 1) := by decide +kernel
set_option maxHeartbeats 4000000 in
set_option maxRecDepth 100000 in
theorem n_wyin {l : Launch} {κ : Nat → Nat} {D : va_G} {tA : Nat → ClassId} (a : Nat) : Ct l κ D tA ky_wyin kc_wyin 1 none 1 3 192 [.ref a] [(a, .inr (7, [.null, .null, .null, .int 0]))] (fun r w => ∃ q1 q2 q3, r = none ∧ w = [(a, .inr (7, [.ref q1, .ref q2, .ref q3, .int 0])), (q1, .inl (tA 0, 64, .inl (fun _ => 0))), (q2, .inl (tA 0, 64, .inl (fun _ => 0))), (q3, .inl (tA 0, 64, .inl (fun _ => 0)))]) := by
  refine Ct.of rfl (Nat.le_of_ble_eq_true rfl) ?_
  intro p e s m args below meth c A ls C0 hr hlocks hin hP hD hS hl
  obtain ⟨hx, hb, hml, hown, hts, hK, hA, hI⟩ := id C0
  have hl : lv_has ls 1 [(0, .ref a)] := hl
  have hin : meth.name = "<init>" := hin
  refine lv_aload_n hx hb kd_wyin_0 rfl (lv_at hl 0 rfl) ?_
  refine k_obj (n1 := 477) C0 (by decide +kernel) hl.1 ⟨Nat.le_of_ble_eq_true rfl, Nat.le_of_ble_eq_true rfl⟩ kd_wyin_1 ?_
  refine lv_aload_n hx hb kd_wyin_4 rfl (lv_at hl 0 rfl) ?_
  refine lv_bipush (v := 64) hx hb kd_wyin_5 (by decide) ?_
  refine k_newi (N' := 64) C0 hP hD hS (by decide +kernel) (by rfl) (by decide) ⟨Nat.le_of_ble_eq_true rfl, Nat.le_of_ble_eq_true rfl⟩ kd_wyin_7 (fun q1 H hP hD hS => ?_)
  have hP : va_P D clx [(a, .inr (7, [.null, .null, .null, .int 0])), (q1, .inl (tA 0, 64, .inl (fun _ => 0)))] H := hP
  have hD : va_D A [(a, .inr (7, [.null, .null, .null, .int 0])), (q1, .inl (tA 0, 64, .inl (fun _ => 0)))] := hD
  refine k_putF (k := 0) (v := .ref q1) C0 hin hP hD hS 0 478 rfl (by decide +kernel) rfl rfl (Nat.le_of_ble_eq_true rfl) kd_wyin_9 (fun H locs hP hD hS => ?_)
  have hP : va_P D clx [(a, .inr (7, [.ref q1, .null, .null, .int 0])), (q1, .inl (tA 0, 64, .inl (fun _ => 0)))] H := hP
  have hD : va_D A [(a, .inr (7, [.ref q1, .null, .null, .int 0])), (q1, .inl (tA 0, 64, .inl (fun _ => 0)))] := hD
  refine lv_aload_n hx hb kd_wyin_12 rfl (lv_at hl 0 rfl) ?_
  refine lv_bipush (v := 64) hx hb kd_wyin_13 (by decide) ?_
  refine k_newi (N' := 64) C0 hP hD hS (by decide +kernel) (by rfl) (by decide) ⟨Nat.le_of_ble_eq_true rfl, Nat.le_of_ble_eq_true rfl⟩ kd_wyin_15 (fun q2 H hP hD hS => ?_)
  have hP : va_P D clx [(a, .inr (7, [.ref q1, .null, .null, .int 0])), (q1, .inl (tA 0, 64, .inl (fun _ => 0))), (q2, .inl (tA 0, 64, .inl (fun _ => 0)))] H := hP
  have hD : va_D A [(a, .inr (7, [.ref q1, .null, .null, .int 0])), (q1, .inl (tA 0, 64, .inl (fun _ => 0))), (q2, .inl (tA 0, 64, .inl (fun _ => 0)))] := hD
  refine k_putF (k := 1) (v := .ref q2) C0 hin hP hD hS 0 479 rfl (by decide +kernel) rfl rfl (Nat.le_of_ble_eq_true rfl) kd_wyin_17 (fun H locs hP hD hS => ?_)
  have hP : va_P D clx [(a, .inr (7, [.ref q1, .ref q2, .null, .int 0])), (q1, .inl (tA 0, 64, .inl (fun _ => 0))), (q2, .inl (tA 0, 64, .inl (fun _ => 0)))] H := hP
  have hD : va_D A [(a, .inr (7, [.ref q1, .ref q2, .null, .int 0])), (q1, .inl (tA 0, 64, .inl (fun _ => 0))), (q2, .inl (tA 0, 64, .inl (fun _ => 0)))] := hD
  refine lv_aload_n hx hb kd_wyin_20 rfl (lv_at hl 0 rfl) ?_
  refine lv_bipush (v := 64) hx hb kd_wyin_21 (by decide) ?_
  refine k_newi (N' := 64) C0 hP hD hS (by decide +kernel) (by rfl) (by decide) ⟨Nat.le_of_ble_eq_true rfl, Nat.le_of_ble_eq_true rfl⟩ kd_wyin_23 (fun q3 H hP hD hS => ?_)
  have hP : va_P D clx [(a, .inr (7, [.ref q1, .ref q2, .null, .int 0])), (q1, .inl (tA 0, 64, .inl (fun _ => 0))), (q2, .inl (tA 0, 64, .inl (fun _ => 0))), (q3, .inl (tA 0, 64, .inl (fun _ => 0)))] H := hP
  have hD : va_D A [(a, .inr (7, [.ref q1, .ref q2, .null, .int 0])), (q1, .inl (tA 0, 64, .inl (fun _ => 0))), (q2, .inl (tA 0, 64, .inl (fun _ => 0))), (q3, .inl (tA 0, 64, .inl (fun _ => 0)))] := hD
  refine k_putF (k := 2) (v := .ref q3) C0 hin hP hD hS 0 480 rfl (by decide +kernel) rfl rfl (Nat.le_of_ble_eq_true rfl) kd_wyin_25 (fun H locs hP hD hS => ?_)
  have hP : va_P D clx [(a, .inr (7, [.ref q1, .ref q2, .ref q3, .int 0])), (q1, .inl (tA 0, 64, .inl (fun _ => 0))), (q2, .inl (tA 0, 64, .inl (fun _ => 0))), (q3, .inl (tA 0, 64, .inl (fun _ => 0)))] H := hP
  have hD : va_D A [(a, .inr (7, [.ref q1, .ref q2, .ref q3, .int 0])), (q1, .inl (tA 0, 64, .inl (fun _ => 0))), (q2, .inl (tA 0, 64, .inl (fun _ => 0))), (q3, .inl (tA 0, 64, .inl (fun _ => 0)))] := hD
  exact k_vret C0 hr hlocks hP hD hS ⟨q1, q2, q3, rfl, rfl⟩ ⟨Nat.le_of_ble_eq_true rfl, Nat.le_of_ble_eq_true rfl⟩ kd_wyin_28
abbrev kc_rdin : ByteArray := prog_7_method_1_code
def ky_rdin : MethodName := ⟨"IceManners$Reader", "<init>", "([I)V"⟩
set_option maxRecDepth 100000 in
theorem kd_rdin_0 : decode kc_rdin 0 = .ok (.aload_n 0, 1) := by decide +kernel
set_option maxRecDepth 100000 in
theorem kd_rdin_1 : decode kc_rdin 1 = .ok (.invokespecial 3, 3) := by decide +kernel
set_option maxRecDepth 100000 in
theorem kd_rdin_4 : decode kc_rdin 4 = .ok (.aload_n 0, 1) := by decide +kernel
set_option maxRecDepth 100000 in
theorem kd_rdin_5 : decode kc_rdin 5 = .ok (.getstatic 9, 3) := by decide +kernel
set_option maxRecDepth 100000 in
theorem kd_rdin_8 : decode kc_rdin 8 = .ok (.putfield 15, 3) := by decide +kernel
set_option maxRecDepth 100000 in
theorem kd_rdin_11 : decode kc_rdin 11 = .ok (.aload_n 0, 1) := by decide +kernel
set_option maxRecDepth 100000 in
theorem kd_rdin_12 : decode kc_rdin 12 = .ok (.aload_n 1, 1) := by decide +kernel
set_option maxRecDepth 100000 in
theorem kd_rdin_13 : decode kc_rdin 13 = .ok (.putfield 20, 3) := by decide +kernel
set_option maxRecDepth 100000 in
theorem kd_rdin_16 : decode kc_rdin 16 = .ok (.return_, 1) := by decide +kernel
set_option maxHeartbeats 4000000 in
set_option maxRecDepth 100000 in
theorem n_rdin {l : Launch} {κ : Nat → Nat} {D : va_G} {tA : Nat → ClassId} (a t : Nat) : Ct l κ D tA ky_rdin kc_rdin 2 none 1 0 0 [.ref a, .ref t] [(a, .inr (3, [.null, .int 0, .int 0, .int 0, .int 0, .int 0, .int 0, .long 0, .int 0, .int 0, .null, .int 0, .int 0]))] (fun r w => r = none ∧ w = [(a, .inr (3, [.ref t, .int 0, .int 0, .int 0, .int 0, .int 0, .int 0, .long 0, .int 0, .int 0, .ref (κ 100000), .int 0, .int 0]))]) := by
  refine Ct.of rfl (Nat.le_of_ble_eq_true rfl) ?_
  intro p e s m args below meth c A ls C0 hr hlocks hin hP hD hS hl
  obtain ⟨hx, hb, hml, hown, hts, hK, hA, hI⟩ := id C0
  have hl : lv_has ls 2 [(0, .ref a), (1, .ref t)] := hl
  have hin : meth.name = "<init>" := hin
  refine lv_aload_n hx hb kd_rdin_0 rfl (lv_at hl 0 rfl) ?_
  refine k_obj (n1 := 366) C0 (by decide +kernel) hl.1 ⟨Nat.le_of_ble_eq_true rfl, Nat.le_of_ble_eq_true rfl⟩ kd_rdin_1 ?_
  refine lv_aload_n hx hb kd_rdin_4 rfl (lv_at hl 0 rfl) ?_
  refine k_end (n1 := 367) C0 hS (by decide +kernel) kd_rdin_5 ?_
  refine k_put (k := 10) (v := .ref (κ 100000)) C0 hP hD hS 0 378 rfl (by decide +kernel) rfl rfl (Nat.le_of_ble_eq_true rfl) kd_rdin_8 (fun H locs hP hD hS => ?_)
  have hP : va_P D clx [(a, .inr (3, [.null, .int 0, .int 0, .int 0, .int 0, .int 0, .int 0, .long 0, .int 0, .int 0, .ref (κ 100000), .int 0, .int 0]))] H := hP
  have hD : va_D A [(a, .inr (3, [.null, .int 0, .int 0, .int 0, .int 0, .int 0, .int 0, .long 0, .int 0, .int 0, .ref (κ 100000), .int 0, .int 0]))] := hD
  refine lv_aload_n hx hb kd_rdin_11 rfl (lv_at hl 0 rfl) ?_
  refine lv_aload_n hx hb kd_rdin_12 rfl (lv_at hl 1 rfl) ?_
  refine k_putF (k := 0) (v := .ref t) C0 hin hP hD hS 0 368 rfl (by decide +kernel) rfl rfl (Nat.le_of_ble_eq_true rfl) kd_rdin_13 (fun H locs hP hD hS => ?_)
  have hP : va_P D clx [(a, .inr (3, [.ref t, .int 0, .int 0, .int 0, .int 0, .int 0, .int 0, .long 0, .int 0, .int 0, .ref (κ 100000), .int 0, .int 0]))] H := hP
  have hD : va_D A [(a, .inr (3, [.ref t, .int 0, .int 0, .int 0, .int 0, .int 0, .int 0, .long 0, .int 0, .int 0, .ref (κ 100000), .int 0, .int 0]))] := hD
  exact k_vret C0 hr hlocks hP hD hS ⟨rfl, rfl⟩ ⟨Nat.le_of_ble_eq_true rfl, Nat.le_of_ble_eq_true rfl⟩ kd_rdin_16
abbrev kc_tlin : ByteArray := prog_11_method_1_code
def ky_tlin : MethodName := ⟨"IceManners$Telling", "<init>", "(LIceManners$Reader;LIceManners$Scene;)V"⟩
set_option maxRecDepth 100000 in
theorem kd_tlin_0 : decode kc_tlin 0 = .ok (.aload_n 0, 1) := by decide +kernel
set_option maxRecDepth 100000 in
theorem kd_tlin_1 : decode kc_tlin 1 = .ok (.invokespecial 3, 3) := by decide +kernel
set_option maxRecDepth 100000 in
theorem kd_tlin_4 : decode kc_tlin 4 = .ok (.aload_n 0, 1) := by decide +kernel
set_option maxRecDepth 100000 in
theorem kd_tlin_5 : decode kc_tlin 5 = .ok (.aload_n 1, 1) := by decide +kernel
set_option maxRecDepth 100000 in
theorem kd_tlin_6 : decode kc_tlin 6 = .ok (.putfield 9, 3) := by decide +kernel
set_option maxRecDepth 100000 in
theorem kd_tlin_9 : decode kc_tlin 9 = .ok (.aload_n 0, 1) := by decide +kernel
set_option maxRecDepth 100000 in
theorem kd_tlin_10 : decode kc_tlin 10 = .ok (.aload_n 2, 1) := by decide +kernel
set_option maxRecDepth 100000 in
theorem kd_tlin_11 : decode kc_tlin 11 = .ok (.putfield 15, 3) := by decide +kernel
set_option maxRecDepth 100000 in
theorem kd_tlin_14 : decode kc_tlin 14 = .ok (.return_, 1) := by decide +kernel
set_option maxHeartbeats 4000000 in
set_option maxRecDepth 100000 in
theorem n_tlin {l : Launch} {κ : Nat → Nat} {D : va_G} {tA : Nat → ClassId} (a x y : Nat) : Ct l κ D tA ky_tlin kc_tlin 3 none 1 0 0 [.ref a, .ref x, .ref y] [(a, .inr (6, [.null, .null, .int 0, .int 0, .int 0, .int 0, .int 0, .int 0, .long 0]))] (fun r w => r = none ∧ w = [(a, .inr (6, [.ref x, .ref y, .int 0, .int 0, .int 0, .int 0, .int 0, .int 0, .long 0]))]) := by
  refine Ct.of rfl (Nat.le_of_ble_eq_true rfl) ?_
  intro p e s m args below meth c A ls C0 hr hlocks hin hP hD hS hl
  obtain ⟨hx, hb, hml, hown, hts, hK, hA, hI⟩ := id C0
  have hl : lv_has ls 3 [(0, .ref a), (1, .ref x), (2, .ref y)] := hl
  have hin : meth.name = "<init>" := hin
  refine lv_aload_n hx hb kd_tlin_0 rfl (lv_at hl 0 rfl) ?_
  refine k_obj (n1 := 418) C0 (by decide +kernel) hl.1 ⟨Nat.le_of_ble_eq_true rfl, Nat.le_of_ble_eq_true rfl⟩ kd_tlin_1 ?_
  refine lv_aload_n hx hb kd_tlin_4 rfl (lv_at hl 0 rfl) ?_
  refine lv_aload_n hx hb kd_tlin_5 rfl (lv_at hl 1 rfl) ?_
  refine k_putF (k := 0) (v := .ref x) C0 hin hP hD hS 0 419 rfl (by decide +kernel) rfl rfl (Nat.le_of_ble_eq_true rfl) kd_tlin_6 (fun H locs hP hD hS => ?_)
  have hP : va_P D clx [(a, .inr (6, [.ref x, .null, .int 0, .int 0, .int 0, .int 0, .int 0, .int 0, .long 0]))] H := hP
  have hD : va_D A [(a, .inr (6, [.ref x, .null, .int 0, .int 0, .int 0, .int 0, .int 0, .int 0, .long 0]))] := hD
  refine lv_aload_n hx hb kd_tlin_9 rfl (lv_at hl 0 rfl) ?_
  refine lv_aload_n hx hb kd_tlin_10 rfl (lv_at hl 2 rfl) ?_
  refine k_putF (k := 1) (v := .ref y) C0 hin hP hD hS 0 420 rfl (by decide +kernel) rfl rfl (Nat.le_of_ble_eq_true rfl) kd_tlin_11 (fun H locs hP hD hS => ?_)
  have hP : va_P D clx [(a, .inr (6, [.ref x, .ref y, .int 0, .int 0, .int 0, .int 0, .int 0, .int 0, .long 0]))] H := hP
  have hD : va_D A [(a, .inr (6, [.ref x, .ref y, .int 0, .int 0, .int 0, .int 0, .int 0, .int 0, .long 0]))] := hD
  exact k_vret C0 hr hlocks hP hD hS ⟨rfl, rfl⟩ ⟨Nat.le_of_ble_eq_true rfl, Nat.le_of_ble_eq_true rfl⟩ kd_tlin_14
