/-! person and mean of the law. Printed by wip/whole/pFD.py; vx_catch is the given one. -/
section Rows9
variable {p : Program} {l : Launch} {e : Env} {R : Room} {s : State} {m : MethodId} {args : Array Value} {below : List Frame} {meth : Method} {c : Code} {H : Heap} {locs : List Loc} {cells slots : Nat} {Q : State → Prop} {pc : Nat} {ls : Array Slot} {rest : List Value}
/-- caught by the row x of this method's table; the rows ahead don't take it -/
theorem vx_catch {own name : String} {E : String} {ce : Cell} {q : Addr} (hown : s.vm.findClass own = some m.cls) (pre : List ExceptionTableEntry) (x : ExceptionTableEntry) (suf : List ExceptionTableEntry) (hsplit : c.exceptionTable.toList = pre ++ x :: suf)
    (hpass : ∀ z ∈ pre, covers z pc = false ∨ (z.catchType ≠ 0 ∧ ∃ nm : String, (Cond.classLink own z.catchType nm).before args s = true ∧ va_Nc E nm s)) (hx : covers x pc = true) (h0 : x.catchType ≠ 0)
    (hlink : (Cond.classLink own x.catchType name).before args s = true) (hcast : (Cond.castable E name).before args s = true) (hcell : H[q]? = some ce) (hv : ce.vm = .none) (hcl : s.vm.findClass E = some ce.cls)
    (kk : W p l e R s m args below meth c H locs cells slots Q (F0 m x.handlerPc ls [.ref q])) : vx_W p l e R s m args below meth c H locs cells slots Q (F0 m pc ls rest) q := by
  intro T hT X
  have hpl : e.platform.magicAccessors = ({} : Platform).magicAccessors := by rw [X.admits.platform]
  obtain ⟨c3, c4, hc3, hc4, hasg⟩ := Cond.castable_spec hcast
  cases Option.some.inj (hc3.symm.trans hcl)
  obtain ⟨c5, hc5, hcl5⟩ := Cond.classLink_spec hown hlink e.platform hpl
  cases Option.some.inj (hc4.symm.trans hc5)
  obtain ⟨vm', X', st⟩ := X.thenCaughtThrough q (g := F0 m pc ls rest) rfl (Steps.refl _) (by rw [hT]; exact hcell) (by rw [hv]; rfl) (by obtain ⟨k9, h9, -⟩ := Vm.findClass_spec hcl; exact ⟨k9, h9⟩) pre x suf hsplit
    (fun z hz => by
      rcases hpass z hz with h | ⟨hz0, nm, hl1, hn1⟩
      · exact Or.inl h
      · obtain ⟨c6, hc6, hcl6⟩ := Cond.classLink_spec hown hl1 e.platform hpl
        obtain ⟨a8, b8, h1, h2, h3⟩ := hn1
        cases Option.some.inj (h1.symm.trans hcl)
        cases Option.some.inj (h2.symm.trans hc6)
        exact Or.inr ⟨hz0, _, hcl6, h3⟩) hx (Or.inr ⟨h0, c4, hcl5, hasg⟩)
  obtain ⟨t, a1, b1⟩ := kk (T.setVm vm') hT X'
  exact ⟨t, st.trans a1, b1⟩
end Rows9
/-- the law's row of one answer -/
def oC (tA : Nat → ClassId) (qo : Nat) (g : Nat → Int64) : Nat × va_E := (qo, .inl (tA 3, 1, .inr (.inl g)))
abbrev kc_lwp : ByteArray := method_3_code
abbrev kc_lwm : ByteArray := method_4_code
def ky_lwp : MethodName := ⟨"IceMannersLaw", "person", "(LIceManners;II[J)I"⟩
def ky_lwm : MethodName := ⟨"IceMannersLaw", "mean", "(LIceManners;I[J)I"⟩
def hh_lwp : List (Nat × Nat × Nat × Nat) := [(0, 10, 13, 13)]
def hh_lwm : List (Nat × Nat × Nat × Nat) := [(0, 9, 12, 13)]
theorem kd_lwp_0 : decode kc_lwp 0 = .ok (.aload_n 3, 1) := by decide +kernel
theorem kd_lwp_1 : decode kc_lwp 1 = .ok (.iconst 0, 1) := by decide +kernel
theorem kd_lwp_2 : decode kc_lwp 2 = .ok (.aload_n 0, 1) := by decide +kernel
theorem kd_lwp_3 : decode kc_lwp 3 = .ok (.iload_n 1, 1) := by decide +kernel
theorem kd_lwp_4 : decode kc_lwp 4 = .ok (.iload_n 2, 1) := by decide +kernel
theorem kd_lwp_5 : decode kc_lwp 5 = .ok (.invokevirtual 7, 3) := by decide +kernel
theorem kd_lwp_8 : decode kc_lwp 8 = .ok (.i2l, 1) := by decide +kernel
theorem kd_lwp_9 : decode kc_lwp 9 = .ok (.lastore, 1) := by decide +kernel
theorem kd_lwp_10 : decode kc_lwp 10 = .ok (.goto 7, 3) := by decide +kernel
theorem kd_lwp_13 : decode kc_lwp 13 = .ok (.astore 4, 2) := by decide +kernel
theorem kd_lwp_15 : decode kc_lwp 15 = .ok (.iconst 1, 1) := by decide +kernel
theorem kd_lwp_16 : decode kc_lwp 16 = .ok (.ireturn, 1) := by decide +kernel
theorem kd_lwp_17 : decode kc_lwp 17 = .ok (.iconst 0, 1) := by decide +kernel
theorem kd_lwp_18 : decode kc_lwp 18 = .ok (.ireturn, 1) := by decide +kernel
theorem kd_lwm_0 : decode kc_lwm 0 = .ok (.aload_n 2, 1) := by decide +kernel
theorem kd_lwm_1 : decode kc_lwm 1 = .ok (.iconst 0, 1) := by decide +kernel
theorem kd_lwm_2 : decode kc_lwm 2 = .ok (.aload_n 0, 1) := by decide +kernel
theorem kd_lwm_3 : decode kc_lwm 3 = .ok (.iload_n 1, 1) := by decide +kernel
theorem kd_lwm_4 : decode kc_lwm 4 = .ok (.invokevirtual 15, 3) := by decide +kernel
theorem kd_lwm_7 : decode kc_lwm 7 = .ok (.i2l, 1) := by decide +kernel
theorem kd_lwm_8 : decode kc_lwm 8 = .ok (.lastore, 1) := by decide +kernel
theorem kd_lwm_9 : decode kc_lwm 9 = .ok (.goto 6, 3) := by decide +kernel
theorem kd_lwm_12 : decode kc_lwm 12 = .ok (.astore_n 3, 1) := by decide +kernel
theorem kd_lwm_13 : decode kc_lwm 13 = .ok (.iconst 1, 1) := by decide +kernel
theorem kd_lwm_14 : decode kc_lwm 14 = .ok (.ireturn, 1) := by decide +kernel
theorem kd_lwm_15 : decode kc_lwm 15 = .ok (.iconst 0, 1) := by decide +kernel
theorem kd_lwm_16 : decode kc_lwm 16 = .ok (.ireturn, 1) := by decide +kernel
set_option maxHeartbeats 4000000 in
set_option maxRecDepth 100000 in
theorem c_lwp {l : Launch} {κ : Nat → Nat} {D : va_G} {tA : Nat → ClassId} (ρ : Nat → Nat) (M : Mm) (σ : Nat → Nat) (qo : Nat) (g : Nat → Int64) (q w : Nat) (hq : q < σ 2) (hw : w < 8) (hk : ∀ i, 100000 ≤ i → i < 300000 → ρ i = κ i) (hSt : StC M 6 σ) (hV : Inv σ) : Cw l κ D tA ky_lwp kc_lwp 5 (some .int) hh_lwp 14 2 12 [.ref (ρ 0), .int (nI q), .int (nI w), .ref qo] ([oC tA qo g] ++ wl ρ tA M) (fun r w2 => r = some (.int (nI 0)) ∧ ∃ g2 : Nat → Int64, g2 0 = (nI (perA σ q w)).toInt64 ∧ w2 = [oC tA qo g2] ++ wl ρ tA M) := by
  refine Cw.of rfl (Nat.le_of_ble_eq_true rfl) ?_
  intro p e s m args below meth c A ls C0 hr hlocks htab hP hD hS hl
  have hx := C0.1
  have hb := C0.2.1
  have hK := C0.2.2.2.2.2.1
  have hown := C0.2.2.2.1
  have hts := C0.2.2.2.2.1
  have hl : lv_has ls 5 [(0, .ref (ρ 0)), (1, .int (nI q)), (2, .int (nI w)), (3, .ref qo)] := hl
  refine lv_aload_n hx hb kd_lwp_0 rfl (lv_at hl 3 rfl) ?_
  refine lv_iconst (v := nI 0) hx hb kd_lwp_1 (by decide) ?_
  refine lv_aload_n hx hb kd_lwp_2 rfl (lv_at hl 0 rfl) ?_
  refine lv_iload_n hx hb kd_lwp_3 rfl (lv_at hl 1 rfl) ?_
  refine lv_iload_n hx hb kd_lwp_4 rfl (lv_at hl 2 rfl) ?_
  have hrv := va_recv (ci := 9) (q0 := 0) (q := (cR9, cT9, 17)) hK hP.rgt rfl (wl_get (ρ := ρ) (tA := tA) (M := M) (p := 0) (a := 0) (b := 9) rfl (by decide))
  refine k_callVA (n := 2) (n1 := 1426) (n2 := 1427) (n3 := 1428) (n4 := 105) (n5 := 1429) (As := [.int (nI q), .int (nI w)]) (rest := [.int (nI 0), .ref qo]) (wr := [oC tA qo g]) C0 (c_per ρ M σ q w hk hSt hV hq hw) (by decide +kernel) hrv hP hD hS hl.1 rfl (show 1 + (1 + 0) ≤ 8 by decide) ⟨Nat.le_of_ble_eq_true rfl, Nat.le_of_ble_eq_true rfl⟩ ⟨Nat.le_of_ble_eq_true rfl, Nat.le_of_ble_eq_true rfl⟩ kd_lwp_5 rfl (fun r w1 H locs hQ hP hD hS => ?_)
  obtain ⟨rfl, rfl⟩ := hQ
  refine lv_i2l (v := (nI (perA σ q w)).toInt64) hx hb kd_lwp_8 rfl ?_
  refine va_last hx hb hK hP hD hS 0 3 (n := 1) (f := g) rfl rfl (vp_in_nI (by decide) (by decide)) kd_lwp_9 (fun H locs hP hD hS => ?_)
  have hP : va_P D clx ([oC tA qo (vp_updL g (nI 0).toNatClampNeg (nI (perA σ q w)).toInt64)] ++ wl ρ tA M) H := hP
  have hD : va_D A ([oC tA qo (vp_updL g (nI 0).toNatClampNeg (nI (perA σ q w)).toInt64)] ++ wl ρ tA M) := hD
  refine lv_goto (tgt := 17) hx hb kd_lwp_10 (by decide) ?_
  refine lv_iconst (v := nI 0) hx hb kd_lwp_17 (by decide) ?_
  exact k_iret C0 hr hlocks hP hD hS ⟨rfl, _, (by rw [nI_clamp (by decide)]; exact if_pos rfl), rfl⟩ ⟨Nat.le_of_ble_eq_true rfl, Nat.le_of_ble_eq_true rfl⟩ kd_lwp_18
set_option maxHeartbeats 4000000 in
set_option maxRecDepth 100000 in
theorem c_lwpX {l : Launch} {κ : Nat → Nat} {D : va_G} {tA : Nat → ClassId} (ρ : Nat → Nat) (M : Mm) (qo : Nat) (g : Nat → Int64) (x w : Int32) (hM : Cth l κ D tA ky_per kc_per 4 (some .int) 12 2 12 [.ref (ρ 0), .int x, .int w] (wl ρ tA M)) : Cw l κ D tA ky_lwp kc_lwp 5 (some .int) hh_lwp 14 2 12 [.ref (ρ 0), .int x, .int w, .ref qo] ([oC tA qo g] ++ wl ρ tA M) (fun r w2 => r = some (.int (nI 1)) ∧ w2 = [oC tA qo g] ++ wl ρ tA M) := by
  refine Cw.of rfl (Nat.le_of_ble_eq_true rfl) ?_
  intro p e s m args below meth c A ls C0 hr hlocks htab hP hD hS hl
  have hx := C0.1
  have hb := C0.2.1
  have hK := C0.2.2.2.2.2.1
  have hown := C0.2.2.2.1
  have hts := C0.2.2.2.2.1
  have hl : lv_has ls 5 [(0, .ref (ρ 0)), (1, .int x), (2, .int w), (3, .ref qo)] := hl
  refine lv_aload_n hx hb kd_lwp_0 rfl (lv_at hl 3 rfl) ?_
  refine lv_iconst (v := nI 0) hx hb kd_lwp_1 (by decide) ?_
  refine lv_aload_n hx hb kd_lwp_2 rfl (lv_at hl 0 rfl) ?_
  refine lv_iload_n hx hb kd_lwp_3 rfl (lv_at hl 1 rfl) ?_
  refine lv_iload_n hx hb kd_lwp_4 rfl (lv_at hl 2 rfl) ?_
  have hrv := va_recv (ci := 9) (q0 := 0) (q := (cR9, cT9, 17)) hK hP.rgt rfl (wl_get (ρ := ρ) (tA := tA) (M := M) (p := 0) (a := 0) (b := 9) rfl (by decide))
  refine k_callVX (n := 2) (n1 := 1426) (n2 := 1427) (n3 := 1428) (n4 := 105) (n5 := 1429) (As := [.int x, .int w]) (rest := [.int (nI 0), .ref qo]) (wr := [oC tA qo g]) C0 hM (by decide +kernel) hrv hP hD hS hl.1 rfl (show 1 + (1 + 0) ≤ 8 by decide) ⟨Nat.le_of_ble_eq_true rfl, Nat.le_of_ble_eq_true rfl⟩ ⟨Nat.le_of_ble_eq_true rfl, Nat.le_of_ble_eq_true rfl⟩ kd_lwp_5 rfl (fun q9 ce H locs hP hS hc9 hv9 hcl => ?_)
  have hcast : va_Nw (.castable nsE nsE) s := C0.2.2.2.2.2.2.2.2.2.2.1.1.2.2.2
  refine vx_catch (own := "IceMannersLaw") (name := nsE) (E := nsE) hown [] ⟨0, 10, 13, 13⟩ [] (by rw [htab]; rfl) (fun z hz => nomatch hz) rfl (by decide) (hts _ (lkB_in ns_lk)) (hcast.use rfl) hc9 hv9 hcl ?_
  refine lv_astore (lv' := [(4, .ref q9), (0, .ref (ρ 0)), (1, .int x), (2, .int w), (3, .ref qo)]) hx hb kd_lwp_13 hl (by decide) rfl (fun ls hl => ?_)
  refine lv_iconst (v := nI 1) hx hb kd_lwp_15 (by decide) ?_
  exact k_iret C0 hr hlocks hP hD hS ⟨rfl, rfl⟩ ⟨Nat.le_of_ble_eq_true rfl, Nat.le_of_ble_eq_true rfl⟩ kd_lwp_16
set_option maxHeartbeats 4000000 in
set_option maxRecDepth 100000 in
theorem c_lwm {l : Launch} {κ : Nat → Nat} {D : va_G} {tA : Nat → ClassId} (ρ : Nat → Nat) (M : Mm) (σ : Nat → Nat) (qo : Nat) (g : Nat → Int64) (w : Nat) (hw : w < 2) (hk : ∀ i, 100000 ≤ i → i < 300000 → ρ i = κ i) (hSt : StC M 6 σ) (hV : Inv σ) : Cw l κ D tA ky_lwm kc_lwm 4 (some .int) hh_lwm 14 2 12 [.ref (ρ 0), .int (nI w), .ref qo] ([oC tA qo g] ++ wl ρ tA M) (fun r w2 => r = some (.int (nI 0)) ∧ ∃ g2 : Nat → Int64, g2 0 = (nI (meaA σ w)).toInt64 ∧ w2 = [oC tA qo g2] ++ wl ρ tA M) := by
  refine Cw.of rfl (Nat.le_of_ble_eq_true rfl) ?_
  intro p e s m args below meth c A ls C0 hr hlocks htab hP hD hS hl
  have hx := C0.1
  have hb := C0.2.1
  have hK := C0.2.2.2.2.2.1
  have hown := C0.2.2.2.1
  have hts := C0.2.2.2.2.1
  have hl : lv_has ls 4 [(0, .ref (ρ 0)), (1, .int (nI w)), (2, .ref qo)] := hl
  refine lv_aload_n hx hb kd_lwm_0 rfl (lv_at hl 2 rfl) ?_
  refine lv_iconst (v := nI 0) hx hb kd_lwm_1 (by decide) ?_
  refine lv_aload_n hx hb kd_lwm_2 rfl (lv_at hl 0 rfl) ?_
  refine lv_iload_n hx hb kd_lwm_3 rfl (lv_at hl 1 rfl) ?_
  have hrv := va_recv (ci := 9) (q0 := 0) (q := (cR9, cT9, 17)) hK hP.rgt rfl (wl_get (ρ := ρ) (tA := tA) (M := M) (p := 0) (a := 0) (b := 9) rfl (by decide))
  refine k_callVA (n := 1) (n1 := 1504) (n2 := 1505) (n3 := 1506) (n4 := 105) (n5 := 1507) (As := [.int (nI w)]) (rest := [.int (nI 0), .ref qo]) (wr := [oC tA qo g]) C0 (c_mea ρ M σ w hk hSt hV hw) (by decide +kernel) hrv hP hD hS hl.1 rfl (show 1 + (1 + 0) ≤ 8 by decide) ⟨Nat.le_of_ble_eq_true rfl, Nat.le_of_ble_eq_true rfl⟩ ⟨Nat.le_of_ble_eq_true rfl, Nat.le_of_ble_eq_true rfl⟩ kd_lwm_4 rfl (fun r w1 H locs hQ hP hD hS => ?_)
  obtain ⟨rfl, rfl⟩ := hQ
  refine lv_i2l (v := (nI (meaA σ w)).toInt64) hx hb kd_lwm_7 rfl ?_
  refine va_last hx hb hK hP hD hS 0 3 (n := 1) (f := g) rfl rfl (vp_in_nI (by decide) (by decide)) kd_lwm_8 (fun H locs hP hD hS => ?_)
  have hP : va_P D clx ([oC tA qo (vp_updL g (nI 0).toNatClampNeg (nI (meaA σ w)).toInt64)] ++ wl ρ tA M) H := hP
  have hD : va_D A ([oC tA qo (vp_updL g (nI 0).toNatClampNeg (nI (meaA σ w)).toInt64)] ++ wl ρ tA M) := hD
  refine lv_goto (tgt := 15) hx hb kd_lwm_9 (by decide) ?_
  refine lv_iconst (v := nI 0) hx hb kd_lwm_15 (by decide) ?_
  exact k_iret C0 hr hlocks hP hD hS ⟨rfl, _, (by rw [nI_clamp (by decide)]; exact if_pos rfl), rfl⟩ ⟨Nat.le_of_ble_eq_true rfl, Nat.le_of_ble_eq_true rfl⟩ kd_lwm_16
set_option maxHeartbeats 4000000 in
set_option maxRecDepth 100000 in
theorem c_lwmX {l : Launch} {κ : Nat → Nat} {D : va_G} {tA : Nat → ClassId} (ρ : Nat → Nat) (M : Mm) (qo : Nat) (g : Nat → Int64) (w : Int32) (hM : Cth l κ D tA ky_mea kc_mea 5 (some .int) 12 2 12 [.ref (ρ 0), .int w] (wl ρ tA M)) : Cw l κ D tA ky_lwm kc_lwm 4 (some .int) hh_lwm 14 2 12 [.ref (ρ 0), .int w, .ref qo] ([oC tA qo g] ++ wl ρ tA M) (fun r w2 => r = some (.int (nI 1)) ∧ w2 = [oC tA qo g] ++ wl ρ tA M) := by
  refine Cw.of rfl (Nat.le_of_ble_eq_true rfl) ?_
  intro p e s m args below meth c A ls C0 hr hlocks htab hP hD hS hl
  have hx := C0.1
  have hb := C0.2.1
  have hK := C0.2.2.2.2.2.1
  have hown := C0.2.2.2.1
  have hts := C0.2.2.2.2.1
  have hl : lv_has ls 4 [(0, .ref (ρ 0)), (1, .int w), (2, .ref qo)] := hl
  refine lv_aload_n hx hb kd_lwm_0 rfl (lv_at hl 2 rfl) ?_
  refine lv_iconst (v := nI 0) hx hb kd_lwm_1 (by decide) ?_
  refine lv_aload_n hx hb kd_lwm_2 rfl (lv_at hl 0 rfl) ?_
  refine lv_iload_n hx hb kd_lwm_3 rfl (lv_at hl 1 rfl) ?_
  have hrv := va_recv (ci := 9) (q0 := 0) (q := (cR9, cT9, 17)) hK hP.rgt rfl (wl_get (ρ := ρ) (tA := tA) (M := M) (p := 0) (a := 0) (b := 9) rfl (by decide))
  refine k_callVX (n := 1) (n1 := 1504) (n2 := 1505) (n3 := 1506) (n4 := 105) (n5 := 1507) (As := [.int w]) (rest := [.int (nI 0), .ref qo]) (wr := [oC tA qo g]) C0 hM (by decide +kernel) hrv hP hD hS hl.1 rfl (show 1 + (1 + 0) ≤ 8 by decide) ⟨Nat.le_of_ble_eq_true rfl, Nat.le_of_ble_eq_true rfl⟩ ⟨Nat.le_of_ble_eq_true rfl, Nat.le_of_ble_eq_true rfl⟩ kd_lwm_4 rfl (fun q9 ce H locs hP hS hc9 hv9 hcl => ?_)
  have hcast : va_Nw (.castable nsE nsE) s := C0.2.2.2.2.2.2.2.2.2.2.1.1.2.2.2
  refine vx_catch (own := "IceMannersLaw") (name := nsE) (E := nsE) hown [] ⟨0, 9, 12, 13⟩ [] (by rw [htab]; rfl) (fun z hz => nomatch hz) rfl (by decide) (hts _ (lkB_in ns_lk)) (hcast.use rfl) hc9 hv9 hcl ?_
  refine lv_astore_n (lv' := [(3, .ref q9), (0, .ref (ρ 0)), (1, .int w), (2, .ref qo)]) hx hb kd_lwm_12 rfl hl (by decide) rfl (fun ls hl => ?_)
  refine lv_iconst (v := nI 1) hx hb kd_lwm_13 (by decide) ?_
  exact k_iret C0 hr hlocks hP hD hS ⟨rfl, rfl⟩ ⟨Nat.le_of_ble_eq_true rfl, Nat.le_of_ble_eq_true rfl⟩ kd_lwm_14
