/-! putName of the class. Printed by wip/whole/pF7.py. -/
theorem lu64 {W c : Nat} (hW : W < 9223372036854775808) (hc : c < 64) : ((Int64.ofNat W).toUInt64 >>> ((nI c).toInt64.toUInt64 &&& Int64.toUInt64 63)).toInt64 = Int64.ofNat (W / 2 ^ c) := by
  have hs : ∀ c, c < 64 → ((nI c).toInt64.toUInt64 &&& Int64.toUInt64 63) = UInt64.ofNat c := by decide +kernel
  rw [hs c hc]
  have h1 : ((Int64.ofNat W).toUInt64 >>> UInt64.ofNat c).toNat = W / 2 ^ c := by
    have e1 : (Int64.ofNat W).toUInt64.toNat = W := by
      show (BitVec.ofNat 64 W).toNat = W
      rw [BitVec.toNat_ofNat, Nat.mod_eq_of_lt (by omega)]
    have e2 : (UInt64.ofNat c).toNat = c := by
      show (BitVec.ofNat 64 c).toNat = c
      rw [BitVec.toNat_ofNat, Nat.mod_eq_of_lt (by omega)]
    rw [UInt64.toNat_shiftRight, e1, e2, Nat.mod_eq_of_lt hc, Nat.shiftRight_eq_div_pow]
  have h2 : W / 2 ^ c ≤ W := Nat.div_le_self _ _
  apply Int64.toBitVec_inj.mp
  apply BitVec.eq_of_toNat_eq
  show ((Int64.ofNat W).toUInt64 >>> UInt64.ofNat c).toNat = (BitVec.ofNat 64 (W / 2 ^ c)).toNat
  rw [h1, BitVec.toNat_ofNat, Nat.mod_eq_of_lt (by omega)]
theorem li64 {V : Nat} (hV : V < 9223372036854775808) : (Int64.ofNat V).toInt32 &&& 255 = nI (V % 256) := by
  apply Int32.toBitVec_inj.mp
  apply BitVec.eq_of_toNat_eq
  show ((BitVec.ofNat 64 V).signExtend 32 &&& 255#32).toNat = (BitVec.ofNat 32 (V % 256)).toNat
  rw [BitVec.signExtend_eq_setWidth_of_le _ (by decide), BitVec.toNat_and, BitVec.toNat_setWidth, BitVec.toNat_ofNat, BitVec.toNat_ofNat, BitVec.toNat_ofNat, show 255 % 2 ^ 32 = 2 ^ 8 - 1 from rfl, Nat.and_two_pow_sub_one_eq_mod]
  omega
theorem sh8_s (k : Nat) : Int32.ofInt (8 * ((k + 1 : Nat) : Int) - 8) = nI (8 * k) := by
  rw [show (8 * ((k + 1 : Nat) : Int) - 8) = ((8 * k : Nat) : Int) from by omega]
  rfl
theorem TWp_cg {tA : Nat → ClassId} {qt cnt : Nat} {g g2 : Nat → Int32} {w : va_W} (h : TWp tA qt cnt g w) (e : ∀ j, j < cnt → g j = g2 j) : TWp tA qt cnt g2 w := by
  obtain ⟨qb, n, f, ml, h1, h2, h3, h4, h5⟩ := h
  exact ⟨qb, n, f, ml, h1, h2, h3, fun j hj => (h4 j hj).trans (e j hj), h5⟩
/-- the text t, in the cells w -/
def Txw (tA : Nat → ClassId) (qt : Nat) (t : Txt) (w : va_W) : Prop := TWp tA qt t.1 (fun j => nI (t.2 j)) w
theorem Txw_ly {tA : Nat → ClassId} {qt : Nat} {t : Txt} {v : Nat} {w : va_W} (h : TWp tA qt (t.1 + 1) (fun j => if j < t.1 then nI (t.2 j) else nI v) w) : Txw tA qt (lyC t v) w := by
  refine TWp_cg (cnt := t.1 + 1) h (fun j hj => ?_)
  show _ = nI (su t.2 t.1 v j)
  unfold su
  by_cases h9 : j < t.1
  · rw [if_pos h9, if_neg (by omega)]
  · rw [if_neg h9, if_pos (by omega)]
theorem sh8_d (k : Nat) : nI (8 * k) + Int32.ofInt (-8) = Int32.ofInt (8 * (k : Int) - 8) := by
  rw [show nI (8 * k) = Int32.ofInt ((8 * k : Nat) : Int) from rfl, ← Int32.ofInt_add]
  rw [show ((8 * k : Nat) : Int) + -8 = 8 * (k : Int) - 8 from by omega]
theorem nI_inj0 {v : Nat} (h : v < 1000) (h9 : nI v = 0) : v = 0 := by
  have h1 := congrArg Int32.toInt h9
  rw [nI_toInt (by omega), show (0 : Int32).toInt = 0 from rfl] at h1
  omega
abbrev kc_put : ByteArray := prog_1_method_38_code
def ky_put : MethodName := ⟨"IceManners", "putName", "(J)V"⟩
set_option maxRecDepth 100000 in
theorem kd_put_0 : decode kc_put 0 = .ok (.bipush 48, 2) := by decide +kernel
set_option maxRecDepth 100000 in
theorem kd_put_2 : decode kc_put 2 = .ok (.istore_n 3, 1) := by decide +kernel
set_option maxRecDepth 100000 in
theorem kd_put_3 : decode kc_put 3 = .ok (.iload_n 3, 1) := by decide +kernel
set_option maxRecDepth 100000 in
theorem kd_put_4 : decode kc_put 4 = .ok (.ifCond .lt 35, 3) := by decide +kernel
set_option maxRecDepth 100000 in
theorem kd_put_7 : decode kc_put 7 = .ok (.lload_n 1, 1) := by decide +kernel
set_option maxRecDepth 100000 in
theorem kd_put_8 : decode kc_put 8 = .ok (.iload_n 3, 1) := by decide +kernel
set_option maxRecDepth 100000 in
theorem kd_put_9 : decode kc_put 9 = .ok (.lushr, 1) := by decide +kernel
set_option maxRecDepth 100000 in
theorem kd_put_10 : decode kc_put 10 = .ok (.l2i, 1) := by decide +kernel
set_option maxRecDepth 100000 in
theorem kd_put_11 : decode kc_put 11 = .ok (.sipush 255, 3) := by decide +kernel
set_option maxRecDepth 100000 in
theorem kd_put_14 : decode kc_put 14 = .ok (.iand, 1) := by decide +kernel
set_option maxRecDepth 100000 in
theorem kd_put_15 : decode kc_put 15 = .ok (.istore 4, 2) := by decide +kernel
set_option maxRecDepth 100000 in
theorem kd_put_17 : decode kc_put 17 = .ok (.iload 4, 2) := by decide +kernel
set_option maxRecDepth 100000 in
theorem kd_put_19 : decode kc_put 19 = .ok (.ifCond .eq 14, 3) := by decide +kernel
set_option maxRecDepth 100000 in
theorem kd_put_22 : decode kc_put 22 = .ok (.aload_n 0, 1) := by decide +kernel
set_option maxRecDepth 100000 in
theorem kd_put_23 : decode kc_put 23 = .ok (.getfield 86, 3) := by decide +kernel
set_option maxRecDepth 100000 in
theorem kd_put_26 : decode kc_put 26 = .ok (.iload 4, 2) := by decide +kernel
set_option maxRecDepth 100000 in
theorem kd_put_28 : decode kc_put 28 = .ok (.i2c, 1) := by decide +kernel
set_option maxRecDepth 100000 in
theorem kd_put_29 : decode kc_put 29 = .ok (.invokevirtual 361, 3) := by decide +kernel
set_option maxRecDepth 100000 in
theorem kd_put_32 : decode kc_put 32 = .ok (.pop, 1) := by decide +kernel
set_option maxRecDepth 100000 in
theorem kd_put_33 : decode kc_put 33 = .ok (.iinc 3 (-8), 3) := by decide +kernel
set_option maxRecDepth 100000 in
theorem kd_put_36 : decode kc_put 36 = .ok (.goto (-33), 3) := by decide +kernel
set_option maxRecDepth 100000 in
theorem kd_put_39 : decode kc_put 39 = .ok (.return_, 1) := by decide +kernel
section PUT
variable {l : Launch} {κ : Nat → Nat} {D : va_G} {tA : Nat → ClassId} {p : Program} {e : Env} {s : State} {m : MethodId} {args : Array Value} {below : List Frame} {meth : Method} {c : Code} {A : Nat → Prop} {ρ : Nat → Nat} {M : Mm} {nm9 : Nat}
set_option maxHeartbeats 4000000 in
set_option maxRecDepth 100000 in
theorem put_loop (C0 : Kf κ "IceManners" kc_put 5 p s m args c D tA A) (hr : meth.sig.returnType = none) (hlocks : meth.locks = false) (hk : ∀ i, 100000 ≤ i → i < 300000 → ρ i = κ i) (hW : nm9 < 9223372036854775808) (hb8 : ∀ k, k < 8 → nm9 / 2 ^ (8 * k) % 256 < 128) (T : Txt) :
    ∀ (k : Nat) (t : Txt) (w : va_W) (H : Heap) (locs : List Loc) (ls : Array Slot) (cells slots : Nat), k ≤ 7 → t.1 + k ≤ 34 → cells + k ≤ 7 → slots + 34 * k ≤ 238 → spl nm9 k t = T → Txw tA (ρ 300000) t w → va_P D clx (wl ρ tA M ++ w) H → va_D A (wl ρ tA M ++ w) → va_S A s.heap H locs → lv_has ls 5 [(3, .int (Int32.ofInt (8 * (k : Int) - 8))), (0, .ref (ρ 0)), (1, .long (Int64.ofNat nm9))] →
      W p l e (rmc 8 7 238) s m args below meth c H locs cells slots (Ke D (fun r w2 => r = none ∧ ∃ w', w2 = wl ρ tA M ++ w' ∧ Txw tA (ρ 300000) T w') A below args s 7 238) (F0 m 3 ls []) := by
  have C1 := C0
  obtain ⟨hx, hb, hml, hown, hts, hK, hA, hI⟩ := C0
  intro k
  induction k with
  | zero =>
    intro t w H locs ls cells slots _ _ hcc hss hT hw hP hD hS hl
    refine lv_iload_n hx hb kd_put_3 rfl (lv_at hl 0 rfl) ?_
    refine lv_if_lt (tgt := 39) hx hb kd_put_4 (by decide) (fun h9 => ?_) (fun h9 => absurd (by decide) h9)
    exact k_vret C1 hr hlocks hP hD hS ⟨rfl, w, rfl, by rw [← hT]; exact hw⟩ ⟨by omega, by omega⟩ kd_put_39
  | succ k ih =>
    intro t w H locs ls cells slots hk7 ht hcc hss hT hw hP hD hS hl
    rw [sh8_s] at hl
    have hvv := hb8 k (by omega)
    have hdv : nm9 / 2 ^ (8 * k) < 9223372036854775808 := Nat.lt_of_le_of_lt (Nat.div_le_self _ _) hW
    generalize hv : nm9 / 2 ^ (8 * k) % 256 = v at hvv
    have hT1 : spl nm9 k (if v = 0 then t else lyC t v) = T := by rw [← hT, ← hv]; rfl
    refine lv_iload_n hx hb kd_put_3 rfl (lv_at hl 0 rfl) ?_
    refine lv_if_lt (tgt := 39) hx hb kd_put_4 (by decide) (fun h9 => absurd h9 (nI_not_neg (by omega))) (fun h9 => ?_)
    refine lv_lload_n hx hb kd_put_7 rfl (lv_at hl 2 rfl) ?_
    refine lv_iload_n hx hb kd_put_8 rfl (lv_at hl 0 rfl) ?_
    refine lv_lushr (v := Int64.ofNat (nm9 / 2 ^ (8 * k))) hx hb kd_put_9 (lu64 hW (by omega)) ?_
    refine lv_l2i hx hb kd_put_10 rfl ?_
    refine lv_sipush (v := 255) hx hb kd_put_11 (by decide) ?_
    refine lv_iand hx hb kd_put_14 ?_
    rw [li64 hdv, hv]
    refine lv_istore (lv' := [(4, .int (nI v)), (3, .int (nI (8 * k))), (0, .ref (ρ 0)), (1, .long (Int64.ofNat nm9))]) hx hb kd_put_15 hl (by decide) rfl (fun ls hl => ?_)
    refine lv_iload hx hb kd_put_17 (lv_at hl 0 rfl) ?_
    -- behind a letter
    have go : ∀ (t2 : Txt) (w2 : va_W) (H : Heap) (locs : List Loc) (cells2 slots2 : Nat), t2.1 ≤ t.1 + 1 → cells2 ≤ cells + 1 → slots2 ≤ slots + 34 → spl nm9 k t2 = T → Txw tA (ρ 300000) t2 w2 → va_P D clx (wl ρ tA M ++ w2) H → va_D A (wl ρ tA M ++ w2) → va_S A s.heap H locs → W p l e (rmc 8 7 238) s m args below meth c H locs cells2 slots2 (Ke D (fun r w2 => r = none ∧ ∃ w', w2 = wl ρ tA M ++ w' ∧ Txw tA (ρ 300000) T w') A below args s 7 238) (F0 m 33 ls []) := by
      intro t2 w2 H locs cells2 slots2 h1 h2 h3 h4 h5 hP hD hS
      refine lv_iinc (v := Int32.ofInt (8 * (k : Int) - 8)) (lv' := [(3, .int (Int32.ofInt (8 * (k : Int) - 8))), (4, .int (nI v)), (0, .ref (ρ 0)), (1, .long (Int64.ofNat nm9))]) hx hb kd_put_33 hl (k := 1) rfl (sh8_d k) (by decide) rfl (fun ls hl => ?_)
      refine lv_goto (tgt := 3) hx hb kd_put_36 (by decide) ?_
      exact ih t2 w2 H locs ls cells2 slots2 (by omega) (by omega) (by omega) (by omega) h4 h5 hP hD hS (lv_sub hl [0, 2, 3] rfl)
    refine lv_if_eq (tgt := 33) hx hb kd_put_19 (by decide) (fun h9 => ?_) (fun h9 => ?_)
    · have hv0 : v = 0 := nI_inj0 (by omega) h9
      rw [if_pos hv0] at hT1
      exact go t w H locs cells slots (by omega) (by omega) (by omega) hT1 hw hP hD hS
    · have hv0 : ¬ v = 0 := fun h => h9 (by rw [h]; rfl)
      rw [if_neg hv0] at hT1
      have CL := C1.lw hk hD.lft
      refine lv_aload_n hx hb kd_put_22 rfl (lv_at hl 2 rfl) ?_
      refine lg_get (pl := 0) (ci := 9) (k := 12) (q := (5, 300000)) (n9 := 535) CL hP.lft.down (by decide +kernel) rfl rfl kd_put_23 ?_
      refine lv_iload hx hb kd_put_26 (lv_at hl 0 rfl) ?_
      refine lv_i2c (v := nI v) hx hb kd_put_28 (chr_1 hvv).2.1 ?_
      obtain ⟨qb, n, f, ml, g1, g2, g3, g4, rfl⟩ := hw
      refine k_callVA (n := 1) (n1 := 1113) (n2 := 1114) (n3 := 1115) (n4 := 119) (n5 := 1116) (As := [.int (nI v)]) (rest := []) C1 (s_sapc (ρ 300000) qb n t.1 f (fun j => nI (t.2 j)) ml g1 g2 g3 g4 v hvv (by omega)) (by decide +kernel) (va_recv hK hP.rgt (ci := 11) (q0 := 0) rfl rfl) hP hD hS hl.1 rfl (Nat.zero_le _) ⟨Nat.le_of_ble_eq_true rfl, Nat.le_of_ble_eq_true rfl⟩ ⟨by show cells + 1 ≤ 7; omega, by show slots + 34 ≤ 238; omega⟩ kd_put_29 rfl (fun r w1 H locs hQ hP hD hS => ?_)
      obtain ⟨rfl, hw1⟩ := hQ
      refine lv_pop hx hb kd_put_32 rfl ?_
      exact go (lyC t v) w1 H locs (cells + 1) (slots + 34) (Nat.le_refl _) (Nat.le_refl _) (Nat.le_refl _) hT1 (Txw_ly hw1) hP hD hS
end PUT
set_option maxHeartbeats 4000000 in
set_option maxRecDepth 100000 in
theorem c_put {l : Launch} {κ : Nat → Nat} {D : va_G} {tA : Nat → ClassId} (ρ : Nat → Nat) (M : Mm) (nm9 : Nat) (t : Txt) (w : va_W) (hk : ∀ i, 100000 ≤ i → i < 300000 → ρ i = κ i) (hW : nm9 < 9223372036854775808) (hb8 : ∀ k, k < 8 → nm9 / 2 ^ (8 * k) % 256 < 128) (ht : t.1 + 7 ≤ 34) (hw : Txw tA (ρ 300000) t w) : Ct l κ D tA ky_put kc_put 5 none 8 7 238 [.ref (ρ 0), .long (Int64.ofNat nm9)] (wl ρ tA M ++ w) (fun r w2 => r = none ∧ ∃ w', w2 = wl ρ tA M ++ w' ∧ Txw tA (ρ 300000) (spl nm9 7 t) w') := by
  refine Ct.of rfl (Nat.le_of_ble_eq_true rfl) ?_
  intro p e s m args below meth c A ls C0 hr hlocks hin hP hD hS hl
  have hx := C0.1
  have hb := C0.2.1
  have hl : lv_has ls 5 [(0, .ref (ρ 0)), (1, .long (Int64.ofNat nm9))] := hl
  refine lv_bipush (v := 48) hx hb kd_put_0 (by decide) ?_
  refine lv_istore_n (lv' := [(3, .int 48), (0, .ref (ρ 0)), (1, .long (Int64.ofNat nm9))]) hx hb kd_put_2 rfl hl (by decide) rfl (fun ls hl => ?_)
  exact put_loop C0 hr hlocks hk hW hb8 (spl nm9 7 t) 7 t w s.heap [] ls 0 0 (Nat.le_refl _) ht (Nat.le_refl _) (Nat.le_refl _) rfl hw hP hD hS hl
