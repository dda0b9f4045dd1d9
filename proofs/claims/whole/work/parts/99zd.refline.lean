/-! Line, by the reference: all of it. -/
def lnA (σ : Nat → Nat) (q : Nat) (t : Txt) : Txt := if fal σ q = true then spl 1717922924 8 (lyC t 32) else dig (spl 28526 8 (lyC (dig (dig (spl 24948 8 (lyC t 32)) (σ (160 + q) % 8)) (σ (160 + q) / 8)) 32)) (σ (96 + σ (160 + q)))
/-- the line of a person whose name is w -/
def lnT (σ : Nat → Nat) (q w : Nat) : Txt := if (σ 92).testBit q = true then spl 422776890724 8 (lyC (lnA σ q (spl w 8 (0, fun _ => 0))) 32) else lnA σ q (spl w 8 (0, fun _ => 0))
theorem sp_fell (t : Txt) : spl 1717922924 8 t = lyC (lyC (lyC (lyC t 102) 101) 108) 108 := rfl
theorem sp_at (t : Txt) : spl 24948 8 t = lyC (lyC t 97) 116 := rfl
theorem sp_on (t : Txt) : spl 28526 8 t = lyC (lyC t 111) 110 := rfl
theorem sp_bowed (t : Txt) : spl 422776890724 8 t = lyC (lyC (lyC (lyC (lyC t 98) 111) 119) 101) 100 := rfl
theorem lnA_len (σ : Nat → Nat) (q : Nat) (t : Txt) : (lnA σ q t).1 ≤ t.1 + 12 := by
  unfold lnA
  split
  · rw [sp_fell]
    show t.1 + 1 + 1 + 1 + 1 + 1 ≤ t.1 + 12
    omega
  · rw [sp_on, sp_at]
    show t.1 + 1 + 1 + 1 + 1 + 1 + 1 + 1 + 1 + 1 + 1 + 1 + 1 ≤ t.1 + 12
    omega
theorem spl_7 {w : Nat} (hw : w < 72057594037927936) (t : Txt) : spl w 8 t = spl w 7 t := by
  show spl w 7 (if w / 2 ^ (8 * 7) % 256 = 0 then t else lyC t (w / 2 ^ (8 * 7) % 256)) = _
  rw [if_pos (by have : w / 2 ^ (8 * 7) = 0 := Nat.div_eq_of_lt (by omega); omega)]
theorem lnT_len {w : Nat} (hw : w < 72057594037927936) (σ : Nat → Nat) (q : Nat) : (lnT σ q w).1 ≤ 25 := by
  have h1 := (spl_len w 7 (0, fun _ => 0)).2
  have h2 := lnA_len σ q (spl w 7 (0, fun _ => 0))
  unfold lnT
  rw [spl_7 hw]
  have h0 : ((0, fun _ => 0) : Txt).1 = 0 := rfl
  split
  · rw [sp_bowed]
    show (lnA σ q (spl w 7 (0, fun _ => 0))).1 + 1 + 1 + 1 + 1 + 1 + 1 ≤ 25
    omega
  · omega
def PLn (M0 : Mm) (t : Txt) (r : Int32) : Po := fun r0 M' => r0 = some (.int r) ∧ TxM M' t ∧ Gx [0, 34] (M0.1 114) (M'.1 114) ∧ Fr [114, 127] M0 M'
set_option maxRecDepth 20000 in
theorem c_m_line (d : Nat) (M : Mm) (σ : Nat → Nat) (hM : Ms M σ) (q : Nat) (hq : q < σ 2) (W : Nat) (hN : M.2.1 119 q = Int64.ofNat W) (hW : W < 72057594037927936) (hb : ∀ k, k < 8 → W / 2 ^ (8 * k) % 256 < 128) : Wn (d + 4) 127 (PLn M (lnT σ q W) (nI (lnT σ q W).1)) (0, lv_args 0 [.ref 114, .int (nI q)], [], M) := by
  have b6 := Bd_2 hM.2
  have fq := Bd_q hM.2 q (by omega)
  have ic := Bd_c hM.2 (σ (160 + q)) (by omega)
  have b92 : σ 92 < 64 := hM.2.2.2.2.2.2.2.2.2.2.2.2.2.2.2.2.2.1
  have k1 : ∀ k, k < 8 → 1717922924 / 2 ^ (8 * k) % 256 < 128 := by decide
  have k2 : ∀ k, k < 8 → 24948 / 2 ^ (8 * k) % 256 < 128 := by decide
  have k3 : ∀ k, k < 8 → 28526 / 2 ^ (8 * k) % 256 < 128 := by decide
  have k4 : ∀ k, k < 8 → 422776890724 / 2 ^ (8 * k) % 256 < 128 := by decide
  have n0 := (spl_len W 7 (0, fun _ => 0)).2
  have n1 : (spl W 8 (0, fun _ => 0)).1 ≤ 7 := by rw [spl_7 hW]; show _ ≤ 0 + 7; exact n0
  refine Wn.run (tab := tb_m_line) rfl 3 (c' := (5, [(0, .ref 114), (1, .int (nI q))], [], (mI M 114 (upd (M.1 114) 0 (nI 0))))) (o := [shp 114 = (0, 10)]) rfl rfl ?_
  generalize hM0 : (mI M 114 (upd (M.1 114) 0 (nI 0))) = M0
  have f0 := fr_1I hM0
  have g0 : Gx [0, 34] (M.1 114) (M0.1 114) := by rw [mI_eq hM0]; exact Gx_up (Gx_rf _ _) (by decide)
  have hM0s : Ms M0 σ := Ms_fr f0 (by decide) hM
  refine Wn.run (tab := tb_m_line) rfl 2 (c' := (7, [(0, .ref 114), (1, .int (nI q))], [.int (nI q), .ref 114], M0)) (o := []) rfl trivial ?_
  refine Wn.callV (p := 114) (n := 2) (ix := 290) (ci := (10)) (fun r0 M1 => r0 = some (.int (nI 1)) ∧ M0 = M1) [.int (nI q)] [] rfl rfl rfl rfl (Nat.le_of_ble_eq_true rfl) (Nat.le_of_ble_eq_true rfl) (w_m_isPersonT _ q hq M0 σ hM0s _ ⟨rfl, rfl⟩) ?_
  rintro _ _ ⟨rfl, rfl⟩
  show Wn _ 127 _ (10, [(0, .ref 114), (1, .int (nI q))], [.int (nI 1)], M0)
  refine Wn.run (tab := tb_m_line) rfl 1 (c' := (if ¬ (nI 1) = 0 then 15 else 13, [(0, .ref 114), (1, .int (nI q))], [], M0)) (o := []) rfl trivial ?_
  rw [if_pos (show ¬ nI 1 = 0 by decide)]
  refine Wn.run (tab := tb_m_line) rfl 3 (c' := (20, [(0, .ref 114), (1, .int (nI q))], [], (mI M0 114 (upd (M0.1 114) 34 (nI 0))))) (o := [shp 114 = (0, 10)]) rfl rfl ?_
  generalize hM1 : (mI M0 114 (upd (M0.1 114) 34 (nI 0))) = M1
  have f1 := fr_1I hM1
  have g1 : Gx [0, 34] (M.1 114) (M1.1 114) := by rw [mI_eq hM1]; exact Gx_up g0 (by decide)
  have F1 : Fr [114, 127] M M1 := fr_tr (fr_up f0 (by decide)) f1 (by decide)
  have T1 : TxM M1 (0, fun _ => 0) := ⟨by rw [mI_eq hM1, pk_us], fun e he => absurd he (Nat.not_lt_zero _)⟩
  have e9 : M1.2.1 119 ((nI q)).toNatClampNeg = Int64.ofNat W := by rw [nI_clamp (by omega), (F1 119 (by decide)).2.1]; exact hN
  refine Wn.run (tab := tb_m_line) rfl 5 (c' := (27, [(0, .ref 114), (1, .int (nI q))], [.long (M1.2.1 119 ((nI q)).toNatClampNeg), .ref 114], M1)) (o := [shp 114 = (0, 10), aok shp 119 3 (nI q)]) rfl ⟨rfl, (ak1 (n := 12) rfl rfl rfl (by omega))⟩ ?_
  rw [e9]
  refine Wn.callV (p := 114) (n := 2) (ix := 381) (ci := (10)) (PTx M1 (spl W 8 (0, fun _ => 0))) [.long (Int64.ofNat W)] [] rfl rfl rfl rfl (Nat.le_of_ble_eq_true rfl) (Nat.le_of_ble_eq_true rfl) (c_m_spells _ M1 _ T1 (by show 0 + 8 ≤ 32; omega) W (by omega) hb) ?_
  rintro _ M2 ⟨rfl, T2, h2, e2⟩
  have g2 : Gx [0, 34] (M.1 114) (M2.1 114) := Gx_tr2 g1 h2 (by decide)
  have F2 : Fr [114, 127] M M2 := fr_tr F1 e2 (by decide)
  have s2 : Ms M2 σ := Ms_fr F2 (by decide) hM
  show Wn _ 127 _ (30, [(0, .ref 114), (1, .int (nI q))], [], M2)
  generalize hA : spl W 8 (0, fun _ => 0) = A at T2 n1
  have eLn : lnT σ q W = if (σ 92).testBit q = true then spl 422776890724 8 (lyC (lnA σ q A) 32) else lnA σ q A := by unfold lnT; rw [hA]
  rw [eLn]
  have nA := lnA_len σ q A
  have z118 : ∀ (N : Mm), TxM N (lnA σ q A) → Gx [0, 34] (M.1 114) (N.1 114) → Fr [114, 127] M N → Wn (d + 4) 127 (PLn M (if (σ 92).testBit q = true then spl 422776890724 8 (lyC (lnA σ q A) 32) else lnA σ q A) (nI (if (σ 92).testBit q = true then spl 422776890724 8 (lyC (lnA σ q A) 32) else lnA σ q A).1)) (118, [(0, .ref 114), (1, .int (nI q))], [], N) := by
    intro N TN gN FN
    have sN : Ms N σ := Ms_fr FN (by decide) hM
    refine Wn.run (tab := tb_m_line) rfl 5 (c' := (126, [(0, .ref 114), (1, .int (nI q))], [.int (nI q), .int (N.1 116 92)], N)) (o := [shp 114 = (0, 10), aok shp 116 0 (nI 92)]) rfl ⟨rfl, ⟨rfl, vp_in_nI (by decide) (by decide)⟩⟩ ?_
    rw [show N.1 116 92 = nI (σ 92) from sN.1 _ (by omega)]
    refine Wn.callS (n := 2) (ix := 216) (fun r0 M1 => r0 = some (.int (b2 ((σ 92).testBit q = true))) ∧ N = M1) [.int (nI (σ 92)), .int (nI q)] [] rfl rfl rfl (Nat.le_of_ble_eq_true rfl) (Nat.le_of_ble_eq_true rfl) (w_m_bitN _ (σ 92) q b92 (by omega) N _ ⟨rfl, rfl⟩) ?_
    rintro _ _ ⟨rfl, rfl⟩
    show Wn _ 127 _ (129, [(0, .ref 114), (1, .int (nI q))], [.int (b2 ((σ 92).testBit q = true))], N)
    refine Wn.run (tab := tb_m_line) rfl 1 (c' := (if (b2 ((σ 92).testBit q = true)) = 0 then 139 else 132, [(0, .ref 114), (1, .int (nI q))], [], N)) (o := []) rfl trivial ?_
    by_cases cb : (σ 92).testBit q = true
    · rw [if_neg (b2_n0.mpr cb), if_pos cb]
      refine Wn.run (tab := tb_m_line) rfl 2 (c' := (136, [(0, .ref 114), (1, .int (nI q))], [.long (422776890724 : Int64), .ref 114], N)) (o := []) rfl trivial ?_
      refine Wn.callV (p := 114) (n := 2) (ix := 387) (ci := (10)) (PTx N (spl 422776890724 8 (lyC (lnA σ q A) 32))) [.long (Int64.ofNat 422776890724)] [] rfl rfl rfl rfl (Nat.le_of_ble_eq_true rfl) (Nat.le_of_ble_eq_true rfl) (c_m_says _ N _ TN (by omega) 422776890724 (by decide) k4) ?_
      rintro _ N2 ⟨rfl, T9, h9, e9⟩
      show Wn _ 127 _ (139, [(0, .ref 114), (1, .int (nI q))], [], N2)
      refine Wn.run (tab := tb_m_line) rfl 2 (c' := (143, [(0, .ref 114), (1, .int (nI q))], [.int (N2.1 114 34)], N2)) (o := [shp 114 = (0, 10)]) rfl rfl ?_
      rw [T9.1]
      exact Wn.iret rfl ⟨rfl, T9, Gx_tr2 gN h9 (by decide), fr_tr FN e9 (by decide)⟩
    · rw [if_pos (b2_e0.mpr cb), if_neg cb]
      refine Wn.run (tab := tb_m_line) rfl 2 (c' := (143, [(0, .ref 114), (1, .int (nI q))], [.int (N.1 114 34)], N)) (o := [shp 114 = (0, 10)]) rfl rfl ?_
      rw [TN.1]
      exact Wn.iret rfl ⟨rfl, TN, gN, FN⟩
  refine Wn.run (tab := tb_m_line) rfl 2 (c' := (32, [(0, .ref 114), (1, .int (nI q))], [.int (nI q), .ref 114], M2)) (o := []) rfl trivial ?_
  refine Wn.callV (p := 114) (n := 2) (ix := 260) (ci := (10)) (fun r0 M3 => r0 = some (.int (b2 (fal σ q = true))) ∧ M2 = M3) [.int (nI q)] [] rfl rfl rfl rfl (Nat.le_of_ble_eq_true rfl) (Nat.le_of_ble_eq_true rfl) (w_m_hasFallen _ q (by omega) M2 σ s2 _ ⟨rfl, rfl⟩) ?_
  rintro _ _ ⟨rfl, rfl⟩
  show Wn _ 127 _ (35, [(0, .ref 114), (1, .int (nI q))], [.int (b2 (fal σ q = true))], M2)
  refine Wn.run (tab := tb_m_line) rfl 1 (c' := (if (b2 (fal σ q = true)) = 0 then 48 else 38, [(0, .ref 114), (1, .int (nI q))], [], M2)) (o := []) rfl trivial ?_
  by_cases cf : fal σ q = true
  · rw [if_neg (b2_n0.mpr cf)]
    have eA : lnA σ q A = spl 1717922924 8 (lyC A 32) := if_pos cf
    rw [eA] at z118
    refine Wn.run (tab := tb_m_line) rfl 2 (c' := (42, [(0, .ref 114), (1, .int (nI q))], [.long (1717922924 : Int64), .ref 114], M2)) (o := []) rfl trivial ?_
    refine Wn.callV (p := 114) (n := 2) (ix := 387) (ci := (10)) (PTx M2 (spl 1717922924 8 (lyC A 32))) [.long (Int64.ofNat 1717922924)] [] rfl rfl rfl rfl (Nat.le_of_ble_eq_true rfl) (Nat.le_of_ble_eq_true rfl) (c_m_says _ M2 _ T2 (by omega) 1717922924 (by decide) k1) ?_
    rintro _ M3 ⟨rfl, T3, h3, e3⟩
    have g3 : Gx [0, 34] (M.1 114) (M3.1 114) := Gx_tr2 g2 h3 (by decide)
    have F3 : Fr [114, 127] M M3 := fr_tr F2 e3 (by decide)
    have s3 : Ms M3 σ := Ms_fr F3 (by decide) hM
    show Wn _ 127 _ (45, [(0, .ref 114), (1, .int (nI q))], [], M3)
    refine Wn.run (tab := tb_m_line) rfl 1 (c' := (118, [(0, .ref 114), (1, .int (nI q))], [], M3)) (o := []) rfl trivial ?_
    rw [eA]
    exact z118 M3 T3 g3 F3
  rw [if_pos (b2_e0.mpr cf)]
  have eA : lnA σ q A = dig (spl 28526 8 (lyC (dig (dig (spl 24948 8 (lyC A 32)) (σ (160 + q) % 8)) (σ (160 + q) / 8)) 32)) (σ (96 + σ (160 + q))) := if_neg cf
  rw [eA] at z118
  rw [eA]
  have r160 : ∀ N : Mm, Ms N σ → N.1 116 (((nI 160) + (nI q))).toNatClampNeg = nI (σ (160 + q)) := fun N h => by rw [nI_add, nI_clamp (by omega)]; exact h.1 _ (by omega)
  refine Wn.run (tab := tb_m_line) rfl 2 (c' := (52, [(0, .ref 114), (1, .int (nI q))], [.long (24948 : Int64), .ref 114], M2)) (o := []) rfl trivial ?_
  refine Wn.callV (p := 114) (n := 2) (ix := 387) (ci := (10)) (PTx M2 (spl 24948 8 (lyC A 32))) [.long (Int64.ofNat 24948)] [] rfl rfl rfl rfl (Nat.le_of_ble_eq_true rfl) (Nat.le_of_ble_eq_true rfl) (c_m_says _ M2 _ T2 (by omega) 24948 (by decide) k2) ?_
  rintro _ M3 ⟨rfl, T3, h3, e3⟩
  have g3 : Gx [0, 34] (M.1 114) (M3.1 114) := Gx_tr2 g2 h3 (by decide)
  have F3 : Fr [114, 127] M M3 := fr_tr F2 e3 (by decide)
  have s3 : Ms M3 σ := Ms_fr F3 (by decide) hM
  show Wn _ 127 _ (55, [(0, .ref 114), (1, .int (nI q))], [], M3)
  have n3 : (spl 24948 8 (lyC A 32)).1 = A.1 + 3 := by rw [sp_at]; rfl
  refine Wn.run (tab := tb_m_line) rfl 9 (c' := (69, [(0, .ref 114), (1, .int (nI q))], [.int ((M3.1 116 (((nI 160) + (nI q))).toNatClampNeg) - (M3.1 116 (((nI 160) + (nI q))).toNatClampNeg) / (nI 8) * (nI 8)), .ref 114], M3)) (o := [shp 114 = (0, 10), aok shp 116 0 ((nI 160) + (nI q)), ¬ (nI 8) = 0]) rfl ⟨rfl, (ak1 (n := 359) rfl rfl (nI_add 160 q) (by omega)), (show ¬ (nI 8) = 0 by decide)⟩ ?_
  rw [r160 M3 s3, n_rem (a := σ (160 + q)) (b := 8) rfl rfl (by omega) (by decide) (by decide)]
  refine Wn.callV (p := 114) (n := 2) (ix := 392) (ci := (10)) (PTx M3 (dig (spl 24948 8 (lyC A 32)) (σ (160 + q) % 8))) [.int (nI (σ (160 + q) % 8))] [] rfl rfl rfl rfl (Nat.le_of_ble_eq_true rfl) (Nat.le_of_ble_eq_true rfl) (c_m_digit _ M3 _ T3 (by omega) _ (by omega)) ?_
  rintro _ M4 ⟨rfl, T4, h4, e4⟩
  have g4 : Gx [0, 34] (M.1 114) (M4.1 114) := Gx_tr2 g3 h4 (by decide)
  have F4 : Fr [114, 127] M M4 := fr_tr F3 e4 (by decide)
  have s4 : Ms M4 σ := Ms_fr F4 (by decide) hM
  show Wn _ 127 _ (72, [(0, .ref 114), (1, .int (nI q))], [], M4)
  have n4 : (dig (spl 24948 8 (lyC A 32)) (σ (160 + q) % 8)).1 = A.1 + 5 := by show (spl 24948 8 (lyC A 32)).1 + 1 + 1 = _; omega
  refine Wn.run (tab := tb_m_line) rfl 9 (c' := (86, [(0, .ref 114), (1, .int (nI q))], [.int ((M4.1 116 (((nI 160) + (nI q))).toNatClampNeg) / (nI 8)), .ref 114], M4)) (o := [shp 114 = (0, 10), aok shp 116 0 ((nI 160) + (nI q)), ¬ (nI 8) = 0]) rfl ⟨rfl, (ak1 (n := 359) rfl rfl (nI_add 160 q) (by omega)), (show ¬ (nI 8) = 0 by decide)⟩ ?_
  rw [r160 M4 s4, n_div (a := σ (160 + q)) (b := 8) rfl rfl (by omega) (by decide) (by decide)]
  refine Wn.callV (p := 114) (n := 2) (ix := 392) (ci := (10)) (PTx M4 (dig (dig (spl 24948 8 (lyC A 32)) (σ (160 + q) % 8)) (σ (160 + q) / 8))) [.int (nI (σ (160 + q) / 8))] [] rfl rfl rfl rfl (Nat.le_of_ble_eq_true rfl) (Nat.le_of_ble_eq_true rfl) (c_m_digit _ M4 _ T4 (by omega) _ (by omega)) ?_
  rintro _ M5 ⟨rfl, T5, h5, e5⟩
  have g5 : Gx [0, 34] (M.1 114) (M5.1 114) := Gx_tr2 g4 h5 (by decide)
  have F5 : Fr [114, 127] M M5 := fr_tr F4 e5 (by decide)
  have s5 : Ms M5 σ := Ms_fr F5 (by decide) hM
  show Wn _ 127 _ (89, [(0, .ref 114), (1, .int (nI q))], [], M5)
  have n5 : (dig (dig (spl 24948 8 (lyC A 32)) (σ (160 + q) % 8)) (σ (160 + q) / 8)).1 = A.1 + 7 := by show (dig (spl 24948 8 (lyC A 32)) (σ (160 + q) % 8)).1 + 1 + 1 = _; omega
  refine Wn.run (tab := tb_m_line) rfl 2 (c' := (93, [(0, .ref 114), (1, .int (nI q))], [.long (28526 : Int64), .ref 114], M5)) (o := []) rfl trivial ?_
  refine Wn.callV (p := 114) (n := 2) (ix := 387) (ci := (10)) (PTx M5 (spl 28526 8 (lyC (dig (dig (spl 24948 8 (lyC A 32)) (σ (160 + q) % 8)) (σ (160 + q) / 8)) 32))) [.long (Int64.ofNat 28526)] [] rfl rfl rfl rfl (Nat.le_of_ble_eq_true rfl) (Nat.le_of_ble_eq_true rfl) (c_m_says _ M5 _ T5 (by omega) 28526 (by decide) k3) ?_
  rintro _ M6 ⟨rfl, T6, h6, e6⟩
  have g6 : Gx [0, 34] (M.1 114) (M6.1 114) := Gx_tr2 g5 h6 (by decide)
  have F6 : Fr [114, 127] M M6 := fr_tr F5 e6 (by decide)
  have s6 : Ms M6 σ := Ms_fr F6 (by decide) hM
  show Wn _ 127 _ (96, [(0, .ref 114), (1, .int (nI q))], [], M6)
  have n6 : (spl 28526 8 (lyC (dig (dig (spl 24948 8 (lyC A 32)) (σ (160 + q) % 8)) (σ (160 + q) / 8)) 32)).1 = A.1 + 10 := by rw [sp_on]; show (dig (dig (spl 24948 8 (lyC A 32)) (σ (160 + q) % 8)) (σ (160 + q) / 8)).1 + 1 + 1 + 1 = _; omega
  have r161 := r160 M6 s6
  refine Wn.run (tab := tb_m_line) rfl 10 (c' := (113, [(0, .ref 114), (1, .int (nI q))], [.int (M6.1 116 (((nI 160) + (nI q))).toNatClampNeg), .int (nI 96), .ref 116, .ref 114], M6)) (o := [shp 114 = (0, 10), shp 114 = (0, 10), aok shp 116 0 ((nI 160) + (nI q))]) rfl ⟨rfl, rfl, (ak1 (n := 359) rfl rfl (nI_add 160 q) (by omega))⟩ ?_
  rw [r161]
  refine Wn.run (tab := tb_m_line) rfl 2 (c' := (115, [(0, .ref 114), (1, .int (nI q))], [.int (M6.1 116 (((nI 96) + (nI (σ (160 + q))))).toNatClampNeg), .ref 114], M6)) (o := [aok shp 116 0 ((nI 96) + (nI (σ (160 + q))))]) rfl (ak1 (n := 359) rfl rfl (nI_add 96 _) (by omega)) ?_
  rw [show M6.1 116 (((nI 96) + (nI (σ (160 + q))))).toNatClampNeg = nI (σ (96 + σ (160 + q))) from by rw [nI_add, nI_clamp (by omega)]; exact s6.1 _ (by omega)]
  refine Wn.callV (p := 114) (n := 2) (ix := 392) (ci := (10)) (PTx M6 (dig (spl 28526 8 (lyC (dig (dig (spl 24948 8 (lyC A 32)) (σ (160 + q) % 8)) (σ (160 + q) / 8)) 32)) (σ (96 + σ (160 + q))))) [.int (nI (σ (96 + σ (160 + q))))] [] rfl rfl rfl rfl (Nat.le_of_ble_eq_true rfl) (Nat.le_of_ble_eq_true rfl) (c_m_digit _ M6 _ T6 (by omega) _ (by omega)) ?_
  rintro _ M7 ⟨rfl, T7, h7, e7⟩
  have g7 : Gx [0, 34] (M.1 114) (M7.1 114) := Gx_tr2 g6 h7 (by decide)
  have F7 : Fr [114, 127] M M7 := fr_tr F6 e7 (by decide)
  have s7 : Ms M7 σ := Ms_fr F7 (by decide) hM
  show Wn _ 127 _ (118, [(0, .ref 114), (1, .int (nI q))], [], M7)
  exact z118 M7 T7 g7 F7
theorem Gx_upd0z {g g' : Nat → Int32} {v : Int32} (h : g' = upd g 0 v) : Gx [0] g g' := fun k hk => by rw [h]; exact pk_un (fun e => hk (by rw [e]; exact List.mem_singleton.mpr rfl))
set_option maxRecDepth 20000 in
theorem c_m_lineP (d : Nat) (M : Mm) (σ : Nat → Nat) (hM : Ms M σ) (x : Int32) (hx : ¬ pI σ x) : Wn (d + 2) 127 (PO M (M.1 114) (nI 0) (some (.int (-1)))) (0, lv_args 0 [.ref 114, .int x], [], M) := by
  refine Wn.run (tab := tb_m_line) rfl 3 (c' := (5, [(0, .ref 114), (1, .int x)], [], (mI M 114 (upd (M.1 114) 0 (nI 0))))) (o := [shp 114 = (0, 10)]) rfl rfl ?_
  generalize hM0 : (mI M 114 (upd (M.1 114) 0 (nI 0))) = M0
  have f0 := fr_1I hM0
  have g0 : M0.1 114 = upd (M.1 114) 0 (nI 0) := mI_eq hM0
  have hM0s : Ms M0 σ := Ms_fr f0 (by decide) hM
  refine Wn.run (tab := tb_m_line) rfl 2 (c' := (7, [(0, .ref 114), (1, .int x)], [.int x, .ref 114], M0)) (o := []) rfl trivial ?_
  refine Wn.callV (p := 114) (n := 2) (ix := 290) (ci := (10)) (fun r0 M1 => r0 = some (.int (nI 0)) ∧ M0 = M1) [.int x] [] rfl rfl rfl rfl (Nat.le_of_ble_eq_true rfl) (Nat.le_of_ble_eq_true rfl) (w_m_isPersonF _ x hx M0 σ hM0s _ ⟨rfl, rfl⟩) ?_
  rintro _ _ ⟨rfl, rfl⟩
  show Wn _ 127 _ (10, [(0, .ref 114), (1, .int x)], [.int (nI 0)], M0)
  refine Wn.run (tab := tb_m_line) rfl 1 (c' := (if ¬ (nI 0) = 0 then 15 else 13, [(0, .ref 114), (1, .int x)], [], M0)) (o := []) rfl trivial ?_
  rw [if_neg (show ¬ ¬ nI 0 = 0 by decide)]
  refine Wn.run (tab := tb_m_line) rfl 1 (c' := (14, [(0, .ref 114), (1, .int x)], [.int (-1 : Int32)], M0)) (o := []) rfl trivial ?_
  exact Wn.iret rfl ⟨rfl, by rw [g0, pk_us], Gx_upd0z g0, f0⟩
set_option maxRecDepth 20000 in
theorem c_m_byteAt (d : Nat) (M : Mm) (n : Nat) (hn : M.1 114 34 = nI n) (hn6 : n ≤ 32) (k : Nat) (hk : k < n) : Wn (d + 1) 128 (PO M (M.1 114) (nI 0) (some (.int (M.1 127 k)))) (0, lv_args 0 [.ref 114, .int (nI k)], [], M) := by
  refine Wn.run (tab := tb_m_byteAt) rfl 3 (c' := (5, [(0, .ref 114), (1, .int (nI k))], [], (mI M 114 (upd (M.1 114) 0 (nI 0))))) (o := [shp 114 = (0, 10)]) rfl rfl ?_
  generalize hM0 : (mI M 114 (upd (M.1 114) 0 (nI 0))) = M0
  have f0 := fr_1I hM0
  have g0 : M0.1 114 = upd (M.1 114) 0 (nI 0) := mI_eq hM0
  have e34 : M0.1 114 34 = nI n := by rw [g0, pk_un (by decide)]; exact hn
  refine Wn.run (tab := tb_m_byteAt) rfl 6 (c' := (13, [(0, .ref 114), (1, .int (nI k))], [.int ((M0.1 114 34) - (nI 1)), .int (nI 0), .int (nI k)], M0)) (o := [shp 114 = (0, 10)]) rfl rfl ?_
  rw [e34]
  refine Wn.callS (n := 3) (ix := 194) (fun r0 M1 => r0 = some (.int (nI 1)) ∧ M0 = M1) [.int (nI k), .int (nI 0), .int ((nI n) - (nI 1))] [] rfl rfl rfl (Nat.le_of_ble_eq_true rfl) (Nat.le_of_ble_eq_true rfl) (w_m_isInT _ _ _ _ M0 _ ⟨?_, rfl⟩) ?_
  rotate_left
  · rintro _ _ ⟨rfl, rfl⟩
    show Wn _ 128 _ (16, [(0, .ref 114), (1, .int (nI k))], [.int (nI 1)], M0)
    refine Wn.run (tab := tb_m_byteAt) rfl 1 (c' := (if (nI 1) = 0 then 28 else 19, [(0, .ref 114), (1, .int (nI k))], [], M0)) (o := []) rfl trivial ?_
    rw [if_neg (show ¬ nI 1 = 0 by decide)]
    refine Wn.run (tab := tb_m_byteAt) rfl 5 (c' := (29, [(0, .ref 114), (1, .int (nI k))], [.int (M0.1 127 ((nI k)).toNatClampNeg)], M0)) (o := [shp 114 = (0, 10), aok shp 127 1 (nI k)]) rfl ⟨rfl, (ak1 (n := 32) rfl rfl rfl (by omega))⟩ ?_
    rw [show M0.1 127 ((nI k)).toNatClampNeg = M.1 127 k from by rw [nI_clamp (by omega), (f0 127 (by decide)).1]]
    exact Wn.iret rfl ⟨rfl, by rw [g0, pk_us], Gx_upd0z g0, f0⟩
  · rw [b2_t (by rw [pk_sub (show 1 ≤ n by omega), nI_toInt (by omega), nI_toInt (by omega), nI_toInt (by omega)]; omega)]
    rfl
theorem sub1_lt2 : ∀ n, n < 33 → (nI n - nI 1).toInt < (nI n).toInt := by decide +kernel
set_option maxRecDepth 20000 in
theorem c_m_byteAtX (d : Nat) (M : Mm) (n : Nat) (hn : M.1 114 34 = nI n) (hn6 : n ≤ 32) (x : Int32) (hx : x < 0 ∨ (nI n) ≤ x) : Wn (d + 1) 128 (PO M (M.1 114) (nI 0) (some (.int (-1)))) (0, lv_args 0 [.ref 114, .int x], [], M) := by
  refine Wn.run (tab := tb_m_byteAt) rfl 3 (c' := (5, [(0, .ref 114), (1, .int x)], [], (mI M 114 (upd (M.1 114) 0 (nI 0))))) (o := [shp 114 = (0, 10)]) rfl rfl ?_
  generalize hM0 : (mI M 114 (upd (M.1 114) 0 (nI 0))) = M0
  have f0 := fr_1I hM0
  have g0 : M0.1 114 = upd (M.1 114) 0 (nI 0) := mI_eq hM0
  have e34 : M0.1 114 34 = nI n := by rw [g0, pk_un (by decide)]; exact hn
  refine Wn.run (tab := tb_m_byteAt) rfl 6 (c' := (13, [(0, .ref 114), (1, .int x)], [.int ((M0.1 114 34) - (nI 1)), .int (nI 0), .int x], M0)) (o := [shp 114 = (0, 10)]) rfl rfl ?_
  rw [e34]
  refine Wn.callS (n := 3) (ix := 194) (fun r0 M1 => r0 = some (.int (nI 0)) ∧ M0 = M1) [.int x, .int (nI 0), .int ((nI n) - (nI 1))] [] rfl rfl rfl (Nat.le_of_ble_eq_true rfl) (Nat.le_of_ble_eq_true rfl) (w_m_isInT _ _ _ _ M0 _ ⟨?_, rfl⟩) ?_
  rotate_left
  · rintro _ _ ⟨rfl, rfl⟩
    show Wn _ 128 _ (16, [(0, .ref 114), (1, .int x)], [.int (nI 0)], M0)
    refine Wn.run (tab := tb_m_byteAt) rfl 1 (c' := (if (nI 0) = 0 then 28 else 19, [(0, .ref 114), (1, .int x)], [], M0)) (o := []) rfl trivial ?_
    rw [if_pos (show nI 0 = 0 by decide)]
    refine Wn.run (tab := tb_m_byteAt) rfl 1 (c' := (29, [(0, .ref 114), (1, .int x)], [.int (-1 : Int32)], M0)) (o := []) rfl trivial ?_
    exact Wn.iret rfl ⟨rfl, by rw [g0, pk_us], Gx_upd0z g0, f0⟩
  · have hnn : ¬ ((nI 0).toInt ≤ x.toInt ∧ x.toInt ≤ ((nI n) - (nI 1)).toInt) := by
      intro h
      have h1 := h.1
      have h2 := h.2
      rw [show (nI 0).toInt = 0 from rfl] at h1
      rcases hx with hx | hx
      · have := Int32.lt_iff_toInt_lt.mp hx
        rw [show (0 : Int32).toInt = 0 from rfl] at this
        omega
      · have a := Int32.le_iff_toInt_le.mp hx
        have b := sub1_lt2 n (by omega)
        omega
    rw [b2_f hnn]
    rfl
theorem c_m_thrown (d : Nat) (M : Mm) : Wn (d + 0) 40 (PN M (some (.int (M.1 114 0)))) (0, lv_args 0 [.ref 114], [], M) := by
  refine Wn.run (tab := tb_m_thrown) rfl 2 (c' := (4, [(0, .ref 114)], [.int (M.1 114 0)], M)) (o := [shp 114 = (0, 10)]) rfl rfl ?_
  exact Wn.iret rfl ⟨rfl, rfl⟩
set_option maxRecDepth 20000 in
theorem c_m_wayAtM (d : Nat) (M : Mm) (hn : M.1 114 30 = (-1 : Int32)) (x : Int32) : Wn (d + 1) 110 (PO M (M.1 114) (nI 0) (some (.int (-1)))) (0, lv_args 0 [.ref 114, .int x], [], M) := by
  refine Wn.run (tab := tb_m_wayAt) rfl 3 (c' := (5, [(0, .ref 114), (1, .int x)], [], (mI M 114 (upd (M.1 114) 0 (nI 0))))) (o := [shp 114 = (0, 10)]) rfl rfl ?_
  generalize hM0 : (mI M 114 (upd (M.1 114) 0 (nI 0))) = M0
  have f0 := fr_1I hM0
  have g0 : M0.1 114 = upd (M.1 114) 0 (nI 0) := mI_eq hM0
  have e30 : M0.1 114 30 = (-1 : Int32) := by rw [g0, pk_un (by decide)]; exact hn
  refine Wn.run (tab := tb_m_wayAt) rfl 6 (c' := (13, [(0, .ref 114), (1, .int x)], [.int ((M0.1 114 30) - (nI 1)), .int (nI 0), .int x], M0)) (o := [shp 114 = (0, 10)]) rfl rfl ?_
  rw [e30]
  refine Wn.callS (n := 3) (ix := 194) (fun r0 M1 => r0 = some (.int (nI 0)) ∧ M0 = M1) [.int x, .int (nI 0), .int ((-1 : Int32) - (nI 1))] [] rfl rfl rfl (Nat.le_of_ble_eq_true rfl) (Nat.le_of_ble_eq_true rfl) (w_m_isInT _ _ _ _ M0 _ ⟨?_, rfl⟩) ?_
  rotate_left
  · rintro _ _ ⟨rfl, rfl⟩
    show Wn _ 110 _ (16, [(0, .ref 114), (1, .int x)], [.int (nI 0)], M0)
    refine Wn.run (tab := tb_m_wayAt) rfl 1 (c' := (if (nI 0) = 0 then 28 else 19, [(0, .ref 114), (1, .int x)], [], M0)) (o := []) rfl trivial ?_
    rw [if_pos (show nI 0 = 0 by decide)]
    refine Wn.run (tab := tb_m_wayAt) rfl 1 (c' := (29, [(0, .ref 114), (1, .int x)], [.int (-1 : Int32)], M0)) (o := []) rfl trivial ?_
    exact Wn.iret rfl ⟨rfl, by rw [g0, pk_us], Gx_upd0z g0, f0⟩
  · have hnn : ¬ ((nI 0).toInt ≤ x.toInt ∧ x.toInt ≤ ((-1 : Int32) - (nI 1)).toInt) := by
      rw [show (nI 0).toInt = 0 from rfl, show ((-1 : Int32) - (nI 1)).toInt = -2 from rfl]
      omega
    rw [b2_f hnn]
    rfl
