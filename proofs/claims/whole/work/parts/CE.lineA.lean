/-! line of the class: behind the name. Printed by wip/whole/pF9.py. -/
section LIA
variable {l : Launch} {κ : Nat → Nat} {D : va_G} {tA : Nat → ClassId} {p : Program} {e : Env} {s : State} {m : MethodId} {args : Array Value} {below : List Frame} {meth : Method} {c : Code} {A : Nat → Prop} {ρ : Nat → Nat} {M : Mm} {σ : Nat → Nat} {q nm9 : Nat} {T t : Txt} {w : va_W} {H : Heap} {locs : List Loc} {ls : Array Slot} {cells slots : Nat}
set_option maxHeartbeats 4000000 in
set_option maxRecDepth 100000 in
theorem lin_1 (C0 : Kf κ "IceManners" kc_lin 3 p s m args c D tA A) (hr : meth.sig.returnType = some .int) (hlocks : meth.locks = false) (hk : ∀ i, 100000 ≤ i → i < 300000 → ρ i = κ i) (hSt : StC M 6 σ) (hI9 : Inv σ) (hq : q < σ 2) (ht : t.1 ≤ 7) (hT : (if (σ 92).testBit q = true then spl 422776890724 8 (lyC (lnA σ q t) 32) else lnA σ q t) = T) (hcs : cells ≤ 8 ∧ slots ≤ 272) (hw : Txw tA (ρ 300000) t w) (hP : va_P D clx (wl ρ tA M ++ w) H) (hD : va_D A (wl ρ tA M ++ w)) (hS : va_S A s.heap H locs) (hl : lv_has ls 3 [(2, .ref (ρ 6)), (0, .ref (ρ 0)), (1, .int (nI q))]) : W p l e (rmc 10 15 510) s m args below meth c H locs cells slots (Ke D (QLn ρ tA M T) A below args s 15 510) (F0 m 48 ls []) := by
  have hx := C0.1
  have hb := C0.2.1
  have hB := hI9.1
  have b6 := Bd_2 hB
  have fq := Bd_q hB q (by omega)
  have ic := Bd_c hB (σ (160 + q)) (by omega)
  have hin := hI9.2.1 q hq
  refine lv_aload_n hx hb kd_lin_48 rfl (lv_at hl 0 rfl) ?_
  refine lv_iload_n hx hb kd_lin_49 rfl (lv_at hl 2 rfl) ?_
  refine lg_call (d := 0) (p0 := 6) (ix := 158) (n9 := 941) (j := 200) (n := 1) (k9 := 5) (As := [.int (nI q)]) (v := .int (b2 (fal σ q = true))) (st := []) (C0.lw hk hD.lft) (by decide +kernel) rfl rfl (Nat.le_of_ble_eq_true rfl) (Nat.zero_le _) ⟨Nat.le_of_ble_eq_true rfl, ?_⟩ ⟨by show cells ≤ 15; omega, by show slots ≤ 510; omega⟩ kd_lin_50 rfl hl.1 hP.lft.down hS (w_st_isFallen 0 M 6 σ hSt hB q (by omega) _ ⟨rfl, rfl⟩) (fun H1 locs1 hP1 hS1 hkp => ?_)
  · have h9 := (mok_sp 200 (by decide)).1.2.2.2.1
    show 8 + (mL 200 + 11) + 200 * 3 ≤ 2000
    omega
  replace hP := wl_beside hP hD hkp hP1
  clear hP1 hkp
  refine lv_if_eq (tgt := 70) hx hb kd_lin_53 (by decide) (fun h9 => ?_) (fun h9 => ?_)
  · have hf : ¬ fal σ q = true := b2_e0.mp h9
    have e1 : lnA σ q t = dig (spl 28526 8 (lyC (dig (dig (spl 24948 8 (lyC t 32)) (σ (160 + q) % 8)) (σ (160 + q) / 8)) 32)) (σ (96 + σ (160 + q))) := if_neg hf
    rw [e1, spl_at, spl_on] at hT
    -- at
    refine lv_aload_n hx hb kd_lin_70 rfl (lv_at hl 1 rfl) ?_
    refine lg_get (pl := 0) (ci := 9) (k := 12) (q := (5, 300000)) (n9 := 535) (C0.lw hk hD.lft) hP.lft.down (by decide +kernel) rfl rfl kd_lin_71 ?_
    refine va_ldcwS hx hb C0.2.2.2.1 (C0.2.2.2.2.2.2.2.2.1.2.2 1 _ rfl).2 kd_lin_74 ?_
    refine ap_S (i := 1) (q := (356, " at ", [32, 97, 116, 32])) rfl [32, 97, 116, 32] rfl C0 hw hP hD hS1 hl.1 ⟨Nat.le_of_ble_eq_true rfl, Nat.le_of_ble_eq_true rfl⟩ ⟨by show cells + 1 ≤ 15; omega, by show slots + 34 ≤ 510; omega⟩ (by show t.1 + 4 ≤ 34; omega) (Nat.zero_le _) kd_lin_77 (fun w H locs hw hP hD hS => ?_)
    refine lv_aload_n hx hb kd_lin_80 rfl (lv_at hl 0 rfl) ?_
    refine lg_get (pl := 6) (ci := 5) (k := 2) (q := (3, 2)) (n9 := 242) (C0.lw hk hD.lft) hP.lft.down (by decide +kernel) rfl rfl kd_lin_81 ?_
    refine lv_iload_n hx hb kd_lin_84 rfl (lv_at hl 2 rfl) ?_
    refine lg_iald (pl := 8) (n := 6) (k := q) (C0.lw hk hD.lft) hP.lft.down rfl rfl (by omega) (by decide) kd_lin_85 ?_
    rw [hSt.2.2.2.2.1 q hq]
    refine lv_bipush (v := nI 8) hx hb kd_lin_86 (by decide) ?_
    refine lv_irem hx hb kd_lin_88 (by decide) ?_
    rw [pk_rem (by omega) (by decide) (by decide)]
    refine ap_I (d := σ (160 + q) % 8) (by omega) C0 hw hP hD hS hl.1 ⟨Nat.le_of_ble_eq_true rfl, Nat.le_of_ble_eq_true rfl⟩ ⟨by show cells + 1 + 1 ≤ 15; omega, by show slots + 34 + 34 ≤ 510; omega⟩ (by show t.1 + 4 + 1 ≤ 34; omega) (Nat.zero_le _) kd_lin_89 (fun w H locs hw hP hD hS => ?_)
    refine lv_pop hx hb kd_lin_92 rfl ?_
    -- the second number
    refine lv_aload_n hx hb kd_lin_93 rfl (lv_at hl 1 rfl) ?_
    refine lg_get (pl := 0) (ci := 9) (k := 12) (q := (5, 300000)) (n9 := 535) (C0.lw hk hD.lft) hP.lft.down (by decide +kernel) rfl rfl kd_lin_94 ?_
    refine lv_bipush (v := nI 32) hx hb kd_lin_97 (by decide) ?_
    refine ap_C (v := 32) (by decide) C0 hw hP hD hS hl.1 ⟨Nat.le_of_ble_eq_true rfl, Nat.le_of_ble_eq_true rfl⟩ ⟨by show cells + 1 + 1 + 1 ≤ 15; omega, by show slots + 34 + 34 + 34 ≤ 510; omega⟩ (by show t.1 + 4 + 1 + 1 ≤ 34; omega) (Nat.zero_le _) kd_lin_99 (fun w H locs hw hP hD hS => ?_)
    refine lv_aload_n hx hb kd_lin_102 rfl (lv_at hl 0 rfl) ?_
    refine lg_get (pl := 6) (ci := 5) (k := 2) (q := (3, 2)) (n9 := 242) (C0.lw hk hD.lft) hP.lft.down (by decide +kernel) rfl rfl kd_lin_103 ?_
    refine lv_iload_n hx hb kd_lin_106 rfl (lv_at hl 2 rfl) ?_
    refine lg_iald (pl := 8) (n := 6) (k := q) (C0.lw hk hD.lft) hP.lft.down rfl rfl (by omega) (by decide) kd_lin_107 ?_
    rw [hSt.2.2.2.2.1 q hq]
    refine lv_bipush (v := nI 8) hx hb kd_lin_108 (by decide) ?_
    refine lv_idiv hx hb kd_lin_110 (by decide) ?_
    rw [pk_div (by omega) (by decide) (by decide)]
    refine ap_I (d := σ (160 + q) / 8) (by omega) C0 hw hP hD hS hl.1 ⟨Nat.le_of_ble_eq_true rfl, Nat.le_of_ble_eq_true rfl⟩ ⟨by show cells + 1 + 1 + 1 + 1 ≤ 15; omega, by show slots + 34 + 34 + 34 + 34 ≤ 510; omega⟩ (by show t.1 + 4 + 1 + 1 + 1 ≤ 34; omega) (Nat.zero_le _) kd_lin_111 (fun w H locs hw hP hD hS => ?_)
    refine lv_pop hx hb kd_lin_114 rfl ?_
    -- on
    refine lv_aload_n hx hb kd_lin_115 rfl (lv_at hl 1 rfl) ?_
    refine lg_get (pl := 0) (ci := 9) (k := 12) (q := (5, 300000)) (n9 := 535) (C0.lw hk hD.lft) hP.lft.down (by decide +kernel) rfl rfl kd_lin_116 ?_
    refine va_ldcwS hx hb C0.2.2.2.1 (C0.2.2.2.2.2.2.2.2.1.2.2 2 _ rfl).2 kd_lin_119 ?_
    refine ap_S (i := 2) (q := (364, " on ", [32, 111, 110, 32])) rfl [32, 111, 110, 32] rfl C0 hw hP hD hS hl.1 ⟨Nat.le_of_ble_eq_true rfl, Nat.le_of_ble_eq_true rfl⟩ ⟨by show cells + 1 + 1 + 1 + 1 + 1 ≤ 15; omega, by show slots + 34 + 34 + 34 + 34 + 34 ≤ 510; omega⟩ (by show t.1 + 4 + 1 + 1 + 1 + 4 ≤ 34; omega) (Nat.zero_le _) kd_lin_122 (fun w H locs hw hP hD hS => ?_)
    refine lv_aload_n hx hb kd_lin_125 rfl (lv_at hl 0 rfl) ?_
    refine lg_get (pl := 6) (ci := 5) (k := 1) (q := (3, 1)) (n9 := 237) (C0.lw hk hD.lft) hP.lft.down (by decide +kernel) rfl rfl kd_lin_126 ?_
    refine lv_aload_n hx hb kd_lin_129 rfl (lv_at hl 0 rfl) ?_
    refine lg_get (pl := 6) (ci := 5) (k := 2) (q := (3, 2)) (n9 := 242) (C0.lw hk hD.lft) hP.lft.down (by decide +kernel) rfl rfl kd_lin_130 ?_
    refine lv_iload_n hx hb kd_lin_133 rfl (lv_at hl 2 rfl) ?_
    refine lg_iald (pl := 8) (n := 6) (k := q) (C0.lw hk hD.lft) hP.lft.down rfl rfl (by omega) (by decide) kd_lin_134 ?_
    rw [hSt.2.2.2.2.1 q hq]
    refine lg_iald (pl := 7) (n := 64) (k := σ (160 + q)) (C0.lw hk hD.lft) hP.lft.down rfl rfl (by omega) (by decide) kd_lin_135 ?_
    rw [hSt.2.2.2.1 (σ (160 + q)) (by omega) hin]
    refine ap_I (d := σ (96 + σ (160 + q))) (by omega) C0 hw hP hD hS hl.1 ⟨Nat.le_of_ble_eq_true rfl, Nat.le_of_ble_eq_true rfl⟩ ⟨by show cells + 1 + 1 + 1 + 1 + 1 + 1 ≤ 15; omega, by show slots + 34 + 34 + 34 + 34 + 34 + 34 ≤ 510; omega⟩ (by show t.1 + 4 + 1 + 1 + 1 + 4 + 1 ≤ 34; omega) (Nat.zero_le _) kd_lin_136 (fun w H locs hw hP hD hS => ?_)
    refine lv_pop hx hb kd_lin_139 rfl ?_
    exact lin_2 C0 hr hlocks hk hSt hB hq (by show t.1 + 4 + 1 + 1 + 1 + 4 + 1 ≤ 20; omega) hT ⟨by omega, by omega⟩ hw hP hD hS hl
  · have hf : fal σ q = true := b2_n0.mp h9
    have e1 : lnA σ q t = spl 1717922924 8 (lyC t 32) := if_pos hf
    rw [e1, spl_fell] at hT
    refine lv_aload_n hx hb kd_lin_56 rfl (lv_at hl 1 rfl) ?_
    refine lg_get (pl := 0) (ci := 9) (k := 12) (q := (5, 300000)) (n9 := 535) (C0.lw hk hD.lft) hP.lft.down (by decide +kernel) rfl rfl kd_lin_57 ?_
    refine va_ldcwS hx hb C0.2.2.2.1 (C0.2.2.2.2.2.2.2.2.1.2.2 0 _ rfl).2 kd_lin_60 ?_
    refine ap_S (i := 0) (q := (350, " fell", [32, 102, 101, 108, 108])) rfl [32, 102, 101, 108, 108] rfl C0 hw hP hD hS1 hl.1 ⟨Nat.le_of_ble_eq_true rfl, Nat.le_of_ble_eq_true rfl⟩ ⟨by show cells + 1 ≤ 15; omega, by show slots + 34 ≤ 510; omega⟩ (by show t.1 + 5 ≤ 34; omega) (Nat.zero_le _) kd_lin_63 (fun w H locs hw hP hD hS => ?_)
    refine lv_pop hx hb kd_lin_66 rfl ?_
    refine lv_goto (tgt := 140) hx hb kd_lin_67 (by decide) ?_
    exact lin_2 C0 hr hlocks hk hSt hB hq (by show t.1 + 5 ≤ 20; omega) hT ⟨by omega, by omega⟩ hw hP hD hS hl
end LIA
