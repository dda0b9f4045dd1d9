/-! What is so. -/
theorem bit_val : ∀ a, a < 64 → ∀ q, q < 6 → ((nI a >>> (nI q &&& 31)) &&& (nI 1)) = nI (if a.testBit q = true then 1 else 0) := by decide +kernel
def perA (σ : Nat → Nat) (q w : Nat) : Nat := if w = 0 then σ (160 + q) % 8 else if w = 1 then σ (160 + q) / 8 else if w = 2 then σ (78 + q) else if w = 3 then σ (166 + q) else if w = 4 then (if fal σ q = true then 1 else 0) else if w = 5 then σ (172 + q) else if w = 6 then sdN σ q 4 else dng σ q
def celN (σ : Nat → Nat) (c : Nat) (what : Int32) : Int32 := if what = nI 0 then nI (σ (96 + c)) else if what = nI 1 then nI (ld σ c) else if what = nI 2 then nI (pon σ c) else -1
def nowA (σ : Nat → Nat) (what : Int32) : Int32 := if what = nI 0 then nI (σ 90) else if what = nI 1 then nI (σ 91) else if what = nI 2 then nI (σ 92) else if what = nI 3 then nI (alI σ 64) else if what = nI 4 then nI (brN σ 64) else if what = nI 5 then nI (σ 93) else if what = nI 6 then nI (σ 94) else if what = nI 7 then nI (σ 95) else -1
def cntA (σ : Nat → Nat) (L : Int32) (what : Int32) : Int32 := if what = nI 8 then L else if what = nI 0 then nI (σ 0) else if what = nI 1 then nI (σ 1) else if what = nI 2 then nI (σ 2) else if what = nI 3 then nI (σ 3) else if what = nI 4 then nI (σ 4) else if what = nI 5 then nI (σ 5) else if what = nI 6 then nI (σ 6) else if what = nI 7 then nI (σ 7) else -1
def stdA (σ : Nat → Nat) (q : Nat) : Nat := (σ 6 - σ (172 + q)) + σ (96 + σ (160 + q)) - ld σ (σ (160 + q))
theorem alI_ai {σ : Nat → Nat} (h : OutZ σ) : ∀ n, n ≤ 64 → alI σ n = aiN σ n
  | 0, _ => rfl
  | n + 1, hn => by
    unfold alI aiN
    rw [alI_ai h n (by omega)]
    by_cases hi : inL σ n
    · rw [if_pos hi]
    · rw [if_neg hi, h n (by omega) hi]
theorem cnt_in {σ : Nat → Nat} {L what : Int32} (h8 : ¬ what = nI 8) (h : (nI 0).toInt ≤ what.toInt ∧ what.toInt ≤ (nI 7).toInt) : ∃ k, k < 8 ∧ what = nI k ∧ cntA σ L what = nI (σ k) := by
  have h0 := h.1
  have h7 := h.2
  rw [nI0_toInt] at h0
  rw [nI_toInt (by decide)] at h7
  obtain ⟨k, hk, e, -⟩ := i32_nat (n := 8) h0 (by omega) (by decide)
  refine ⟨k, hk, e, ?_⟩
  unfold cntA
  subst e
  rw [if_neg h8]
  match k, hk with
  | 0, _ => rw [if_pos rfl]
  | 1, _ => rw [if_neg (by decide), if_pos rfl]
  | 2, _ => rw [if_neg (by decide), if_neg (by decide), if_pos rfl]
  | 3, _ => rw [if_neg (by decide), if_neg (by decide), if_neg (by decide), if_pos rfl]
  | 4, _ => rw [if_neg (by decide), if_neg (by decide), if_neg (by decide), if_neg (by decide), if_pos rfl]
  | 5, _ => rw [if_neg (by decide), if_neg (by decide), if_neg (by decide), if_neg (by decide), if_neg (by decide), if_pos rfl]
  | 6, _ => rw [if_neg (by decide), if_neg (by decide), if_neg (by decide), if_neg (by decide), if_neg (by decide), if_neg (by decide), if_pos rfl]
  | 7, _ => rw [if_neg (by decide), if_neg (by decide), if_neg (by decide), if_neg (by decide), if_neg (by decide), if_neg (by decide), if_neg (by decide), if_pos rfl]
theorem cnt_out {σ : Nat → Nat} {L what : Int32} (h8 : ¬ what = nI 8) (h : ¬ ((nI 0).toInt ≤ what.toInt ∧ what.toInt ≤ (nI 7).toInt)) : cntA σ L what = -1 := by
  have hk : ∀ k, k < 8 → ¬ what = nI k := by
    intro k hk e
    apply h
    rw [e, nI0_toInt, nI_toInt (by omega), nI_toInt (by decide)]
    omega
  unfold cntA
  rw [if_neg h8, if_neg (hk 0 (by decide)), if_neg (hk 1 (by decide)), if_neg (hk 2 (by decide)), if_neg (hk 3 (by decide)), if_neg (hk 4 (by decide)), if_neg (hk 5 (by decide)), if_neg (hk 6 (by decide)), if_neg (hk 7 (by decide))]
def PTh (M0 : Mm) (g : Nat → Int32) (v : Int32) : Po := fun r0 M' => r0 = some (.int v) ∧ M'.1 114 = upd g 0 v ∧ Fr [114] M0 M'
set_option maxRecDepth 20000 in
theorem c_m_throwsIf0 (d : Nat) (M : Mm) (g : Nat → Int32) (hg : M.1 114 = g) : Wn (d + 0) 41 (PTh M g (nI 0)) (0, lv_args 0 [.ref 114, .int (nI 0)], [], M) := by
  have hF := fr_rf [114] M
  refine Wn.run (tab := tb_m_throwsIf) rfl 3 (c' := (if (nI 0) = 0 then 9 else 5, [(0, .ref 114), (1, .int (nI 0))], [.ref 114], M)) (o := []) rfl trivial ?_
  rw [if_pos (show (nI 0) = 0 by decide)]
  show Wn _ 41 _ (9, [(0, .ref 114), (1, .int (nI 0))], [.ref 114], M)
  refine Wn.run (tab := tb_m_throwsIf) rfl 2 (c' := (13, [(0, .ref 114), (1, .int (nI 0))], [], (mI M 114 (upd (M.1 114) 0 (nI 0))))) (o := [shp 114 = (0, 10)]) rfl rfl ?_
  generalize hM2 : (mI M 114 (upd (M.1 114) 0 (nI 0))) = M1
  have hk3 := fI_up hM2 hg
  have hF4 := fr_sI hF hM2 (by decide)
  show Wn _ 41 _ (13, [(0, .ref 114), (1, .int (nI 0))], [], M1)
  refine Wn.run (tab := tb_m_throwsIf) rfl 1 (c' := (14, [(0, .ref 114), (1, .int (nI 0))], [.int (nI 0)], M1)) (o := []) rfl trivial ?_
  exact Wn.zret rfl (Or.inl rfl) ⟨rfl, hk3, hF4⟩
set_option maxRecDepth 20000 in
theorem c_m_throwsIf1 (d : Nat) (M : Mm) (g : Nat → Int32) (hg : M.1 114 = g) : Wn (d + 0) 41 (PTh M g (nI 1)) (0, lv_args 0 [.ref 114, .int (nI 1)], [], M) := by
  have hF := fr_rf [114] M
  refine Wn.run (tab := tb_m_throwsIf) rfl 3 (c' := (if (nI 1) = 0 then 9 else 5, [(0, .ref 114), (1, .int (nI 1))], [.ref 114], M)) (o := []) rfl trivial ?_
  rw [if_neg (show ¬ ((nI 1) = 0) by decide)]
  show Wn _ 41 _ (5, [(0, .ref 114), (1, .int (nI 1))], [.ref 114], M)
  refine Wn.run (tab := tb_m_throwsIf) rfl 3 (c' := (13, [(0, .ref 114), (1, .int (nI 1))], [], (mI M 114 (upd (M.1 114) 0 (nI 1))))) (o := [shp 114 = (0, 10)]) rfl rfl ?_
  generalize hM2 : (mI M 114 (upd (M.1 114) 0 (nI 1))) = M1
  have hk3 := fI_up hM2 hg
  have hF4 := fr_sI hF hM2 (by decide)
  show Wn _ 41 _ (13, [(0, .ref 114), (1, .int (nI 1))], [], M1)
  refine Wn.run (tab := tb_m_throwsIf) rfl 1 (c' := (14, [(0, .ref 114), (1, .int (nI 1))], [.int (nI 1)], M1)) (o := []) rfl trivial ?_
  exact Wn.zret rfl (Or.inr rfl) ⟨rfl, hk3, hF4⟩
/-- behind what is asked of the reference: its answer, whether it throws -/
def PO (M0 : Mm) (g : Nat → Int32) (t : Int32) (r : Option Value) : Po := fun r0 M' => r0 = r ∧ M'.1 114 0 = t ∧ Gx [0] g (M'.1 114) ∧ Fr [114] M0 M'
set_option maxRecDepth 20000 in
theorem c_m_person (d : Nat) (M : Mm) (f0 g : Nat → Int32) (σ : Nat → Nat) (hR : Rs f0 (M.1 116) σ) (hV : Inv σ) (hg : M.1 114 = g) (q w : Nat) (hq : q < σ 2) (hw : w < 8) : Wn (d + 7) 87 (PO M g (nI 0) (some (.int (nI (perA σ q w))))) (0, lv_args 0 [.ref 114, .int (nI q), .int (nI w)], [], M) := by
  have hF := fr_rf [114] M
  have hB := hV.1
  have c9_2 := Bd_2 hB
  have k90 := Bd_90 hB
  have f9 := Bd_q hB q (by omega)
  refine Wn.run (tab := tb_m_person) rfl 3 (c' := (3, [(0, .ref 114), (1, .int (nI q)), (2, .int (nI w))], [.int (nI q), .ref 114, .ref 114], M)) (o := []) rfl trivial ?_
  refine Wn.callV (p := 114) (n := 2) (ix := 290) (ci := (10)) (fun r0 M0 => r0 = some (.int (nI 1)) ∧ M = M0) [.int (nI q)] [.ref 114] rfl rfl rfl rfl (Nat.le_of_ble_eq_true rfl) (Nat.le_of_ble_eq_true rfl) (w_m_isPersonT _ q (by omega) M σ ⟨hR.1, hB⟩ _ ⟨rfl, rfl⟩) ?_
  rintro _ _ ⟨rfl, rfl⟩
  show Wn _ 87 _ (6, [(0, .ref 114), (1, .int (nI q)), (2, .int (nI w))], [.int (nI 1), .ref 114], M)
  refine Wn.run (tab := tb_m_person) rfl 1 (c' := (if (nI 1) = 0 then 19 else 9, [(0, .ref 114), (1, .int (nI q)), (2, .int (nI w))], [.ref 114], M)) (o := []) rfl trivial ?_
  rw [if_neg (show ¬ ((nI 1) = 0) by decide)]
  show Wn _ 87 _ (9, [(0, .ref 114), (1, .int (nI q)), (2, .int (nI w))], [.ref 114], M)
  refine Wn.run (tab := tb_m_person) rfl 3 (c' := (13, [(0, .ref 114), (1, .int (nI q)), (2, .int (nI w))], [.int (nI 7), .int (nI 0), .int (nI w), .ref 114], M)) (o := []) rfl trivial ?_
  refine Wn.callS (n := 3) (ix := 194) (fun r0 M0 => r0 = some (.int (b2 (0 ≤ w ∧ w ≤ 7))) ∧ M = M0) [.int (nI w), .int (nI 0), .int (nI 7)] [.ref 114] rfl rfl rfl (Nat.le_of_ble_eq_true rfl) (Nat.le_of_ble_eq_true rfl) (w_m_isInN _ w 0 7 (by omega) (by omega) (by omega) M _ ⟨rfl, rfl⟩) ?_
  rintro _ _ ⟨rfl, rfl⟩
  show Wn _ 87 _ (16, [(0, .ref 114), (1, .int (nI q)), (2, .int (nI w))], [.int (b2 (0 ≤ w ∧ w ≤ 7)), .ref 114], M)
  refine Wn.run (tab := tb_m_person) rfl 1 (c' := (if ¬ (b2 (0 ≤ w ∧ w ≤ 7)) = 0 then 23 else 19, [(0, .ref 114), (1, .int (nI q)), (2, .int (nI w))], [.ref 114], M)) (o := []) rfl trivial ?_
  rw [if_pos (b2_n0.mpr (by omega))]
  show Wn _ 87 _ (23, [(0, .ref 114), (1, .int (nI q)), (2, .int (nI w))], [.ref 114], M)
  refine Wn.run (tab := tb_m_person) rfl 1 (c' := (24, [(0, .ref 114), (1, .int (nI q)), (2, .int (nI w))], [.int (nI 0), .ref 114], M)) (o := []) rfl trivial ?_
  refine Wn.callV (p := 114) (n := 2) (ix := 293) (ci := (10)) (PTh M g (nI 0)) [.int (nI 0)] [] rfl rfl rfl rfl (Nat.le_of_ble_eq_true rfl) (Nat.le_of_ble_eq_true rfl) (c_m_throwsIf0 _ M g hg) ?_
  rintro _ M2 ⟨rfl, hg3, hF4⟩
  show Wn _ 87 _ (27, [(0, .ref 114), (1, .int (nI q)), (2, .int (nI w))], [.int (nI 0)], M2)
  have hk5 := fr_rs hF4 (by decide) hR
  have hF6 := fr_tr hF hF4 (by decide)
  refine Wn.run (tab := tb_m_person) rfl 1 (c' := (if (nI 0) = 0 then 32 else 30, [(0, .ref 114), (1, .int (nI q)), (2, .int (nI w))], [], M2)) (o := []) rfl trivial ?_
  rw [if_pos (show (nI 0) = 0 by decide)]
  show Wn _ 87 _ (32, [(0, .ref 114), (1, .int (nI q)), (2, .int (nI w))], [], M2)
  refine Wn.run (tab := tb_m_person) rfl 2 (c' := (tsw [0, 6, 154, 76, 90, 104, 114, 125, 137, 148] (nI w), [(0, .ref 114), (1, .int (nI q)), (2, .int (nI w))], [], M2)) (o := []) rfl trivial ?_
  by_cases h1 : w = 0
  · rw [show tsw [0, 6, 154, 76, 90, 104, 114, 125, 137, 148] (nI w) = 76 from by rw [h1]; rfl]
    show Wn _ 87 _ (76, [(0, .ref 114), (1, .int (nI q)), (2, .int (nI w))], [], M2)
    refine Wn.run (tab := tb_m_person) rfl 8 (c' := (89, [(0, .ref 114), (1, .int (nI q)), (2, .int (nI w))], [.int ((M2.1 116 (((nI 160) + (nI q))).toNatClampNeg) - (M2.1 116 (((nI 160) + (nI q))).toNatClampNeg) / (nI 8) * (nI 8))], M2)) (o := [shp 114 = (0, 10), aok shp 116 0 ((nI 160) + (nI q)), ¬ (nI 8) = 0]) rfl ⟨rfl, (ak1 (n := 359) rfl rfl (n_add rfl rfl) (by omega)), (show ¬ (nI 8) = 0 by decide)⟩ ?_
    have f9 := Bd_q hB q (by omega)
    rw [show (M2.1 116 (((nI 160) + (nI q))).toNatClampNeg) = (nI (σ (160 + q))) from (rd1 hk5.1 (n_add rfl rfl) (by omega) (by omega))]
    have f9 := Bd_q hB q (by omega)
    rw [show ((nI (σ (160 + q))) - (nI (σ (160 + q))) / (nI 8) * (nI 8)) = (nI ((σ (160 + q)) % 8)) from (n_rem rfl rfl (by omega) (by omega) (by omega))]
    have e9 : perA σ q w = ((σ (160 + q)) % 8) := by unfold perA; (repeat (first | rw [if_pos (by omega)] | rw [if_neg (by omega)]))
    exact Wn.iret rfl ⟨by rw [e9], by rw [hg3]; exact pk_us, by rw [hg3]; exact (Gx_up (Gx_rf _ _) (by decide)), hF6⟩
  by_cases h2 : w = 1
  · rw [show tsw [0, 6, 154, 76, 90, 104, 114, 125, 137, 148] (nI w) = 90 from by rw [h2]; rfl]
    show Wn _ 87 _ (90, [(0, .ref 114), (1, .int (nI q)), (2, .int (nI w))], [], M2)
    refine Wn.run (tab := tb_m_person) rfl 8 (c' := (103, [(0, .ref 114), (1, .int (nI q)), (2, .int (nI w))], [.int ((M2.1 116 (((nI 160) + (nI q))).toNatClampNeg) / (nI 8))], M2)) (o := [shp 114 = (0, 10), aok shp 116 0 ((nI 160) + (nI q)), ¬ (nI 8) = 0]) rfl ⟨rfl, (ak1 (n := 359) rfl rfl (n_add rfl rfl) (by omega)), (show ¬ (nI 8) = 0 by decide)⟩ ?_
    have f9 := Bd_q hB q (by omega)
    rw [show (M2.1 116 (((nI 160) + (nI q))).toNatClampNeg) = (nI (σ (160 + q))) from (rd1 hk5.1 (n_add rfl rfl) (by omega) (by omega))]
    have f9 := Bd_q hB q (by omega)
    rw [show ((nI (σ (160 + q))) / (nI 8)) = (nI ((σ (160 + q)) / 8)) from (n_div rfl rfl (by omega) (by omega) (by omega))]
    have e9 : perA σ q w = ((σ (160 + q)) / 8) := by unfold perA; (repeat (first | rw [if_pos (by omega)] | rw [if_neg (by omega)]))
    exact Wn.iret rfl ⟨by rw [e9], by rw [hg3]; exact pk_us, by rw [hg3]; exact (Gx_up (Gx_rf _ _) (by decide)), hF6⟩
  by_cases h3 : w = 2
  · rw [show tsw [0, 6, 154, 76, 90, 104, 114, 125, 137, 148] (nI w) = 104 from by rw [h3]; rfl]
    show Wn _ 87 _ (104, [(0, .ref 114), (1, .int (nI q)), (2, .int (nI w))], [], M2)
    refine Wn.run (tab := tb_m_person) rfl 6 (c' := (113, [(0, .ref 114), (1, .int (nI q)), (2, .int (nI w))], [.int (M2.1 116 (((nI 78) + (nI q))).toNatClampNeg)], M2)) (o := [shp 114 = (0, 10), aok shp 116 0 ((nI 78) + (nI q))]) rfl ⟨rfl, (ak1 (n := 359) rfl rfl (n_add rfl rfl) (by omega))⟩ ?_
    have f9 := Bd_q hB q (by omega)
    rw [show (M2.1 116 (((nI 78) + (nI q))).toNatClampNeg) = (nI (σ (78 + q))) from (rd1 hk5.1 (n_add rfl rfl) (by omega) (by omega))]
    have e9 : perA σ q w = (σ (78 + q)) := by unfold perA; (repeat (first | rw [if_pos (by omega)] | rw [if_neg (by omega)]))
    exact Wn.iret rfl ⟨by rw [e9], by rw [hg3]; exact pk_us, by rw [hg3]; exact (Gx_up (Gx_rf _ _) (by decide)), hF6⟩
  by_cases h4 : w = 3
  · rw [show tsw [0, 6, 154, 76, 90, 104, 114, 125, 137, 148] (nI w) = 114 from by rw [h4]; rfl]
    show Wn _ 87 _ (114, [(0, .ref 114), (1, .int (nI q)), (2, .int (nI w))], [], M2)
    refine Wn.run (tab := tb_m_person) rfl 6 (c' := (124, [(0, .ref 114), (1, .int (nI q)), (2, .int (nI w))], [.int (M2.1 116 (((nI 166) + (nI q))).toNatClampNeg)], M2)) (o := [shp 114 = (0, 10), aok shp 116 0 ((nI 166) + (nI q))]) rfl ⟨rfl, (ak1 (n := 359) rfl rfl (n_add rfl rfl) (by omega))⟩ ?_
    have f9 := Bd_q hB q (by omega)
    rw [show (M2.1 116 (((nI 166) + (nI q))).toNatClampNeg) = (nI (σ (166 + q))) from (rd1 hk5.1 (n_add rfl rfl) (by omega) (by omega))]
    have e9 : perA σ q w = (σ (166 + q)) := by unfold perA; (repeat (first | rw [if_pos (by omega)] | rw [if_neg (by omega)]))
    exact Wn.iret rfl ⟨by rw [e9], by rw [hg3]; exact pk_us, by rw [hg3]; exact (Gx_up (Gx_rf _ _) (by decide)), hF6⟩
  by_cases h5 : w = 4
  · rw [show tsw [0, 6, 154, 76, 90, 104, 114, 125, 137, 148] (nI w) = 125 from by rw [h5]; rfl]
    show Wn _ 87 _ (125, [(0, .ref 114), (1, .int (nI q)), (2, .int (nI w))], [], M2)
    refine Wn.run (tab := tb_m_person) rfl 8 (c' := (136, [(0, .ref 114), (1, .int (nI q)), (2, .int (nI w))], [.int (((M2.1 116 91) >>> ((nI q) &&& 31)) &&& (nI 1))], M2)) (o := [shp 114 = (0, 10), aok shp 116 0 (nI 91)]) rfl ⟨rfl, ⟨rfl, vp_in_nI (by decide) (by decide)⟩⟩ ?_
    have c9_91 := Bd_91 hB
    rw [show (M2.1 116 91) = (nI (σ 91)) from (rd0 hk5.1 (by omega))]
    have e9 : nI (perA σ q w) = (((nI (σ 91)) >>> ((nI q) &&& 31)) &&& (nI 1)) := by unfold perA; (repeat (first | rw [if_pos (by omega)] | rw [if_neg (by omega)])); exact (bit_val (σ 91) (Bd_91 hB) q (by omega)).symm
    exact Wn.iret rfl ⟨by rw [e9], by rw [hg3]; exact pk_us, by rw [hg3]; exact (Gx_up (Gx_rf _ _) (by decide)), hF6⟩
  by_cases h6 : w = 5
  · rw [show tsw [0, 6, 154, 76, 90, 104, 114, 125, 137, 148] (nI w) = 137 from by rw [h6]; rfl]
    show Wn _ 87 _ (137, [(0, .ref 114), (1, .int (nI q)), (2, .int (nI w))], [], M2)
    refine Wn.run (tab := tb_m_person) rfl 6 (c' := (147, [(0, .ref 114), (1, .int (nI q)), (2, .int (nI w))], [.int (M2.1 116 (((nI 172) + (nI q))).toNatClampNeg)], M2)) (o := [shp 114 = (0, 10), aok shp 116 0 ((nI 172) + (nI q))]) rfl ⟨rfl, (ak1 (n := 359) rfl rfl (n_add rfl rfl) (by omega))⟩ ?_
    have f9 := Bd_q hB q (by omega)
    rw [show (M2.1 116 (((nI 172) + (nI q))).toNatClampNeg) = (nI (σ (172 + q))) from (rd1 hk5.1 (n_add rfl rfl) (by omega) (by omega))]
    have e9 : perA σ q w = (σ (172 + q)) := by unfold perA; (repeat (first | rw [if_pos (by omega)] | rw [if_neg (by omega)]))
    exact Wn.iret rfl ⟨by rw [e9], by rw [hg3]; exact pk_us, by rw [hg3]; exact (Gx_up (Gx_rf _ _) (by decide)), hF6⟩
  by_cases h7 : w = 6
  · rw [show tsw [0, 6, 154, 76, 90, 104, 114, 125, 137, 148] (nI w) = 148 from by rw [h7]; rfl]
    show Wn _ 87 _ (148, [(0, .ref 114), (1, .int (nI q)), (2, .int (nI w))], [], M2)
    refine Wn.run (tab := tb_m_person) rfl 2 (c' := (150, [(0, .ref 114), (1, .int (nI q)), (2, .int (nI w))], [.int (nI q), .ref 114], M2)) (o := []) rfl trivial ?_
    refine Wn.callV (p := 114) (n := 2) (ix := 297) (ci := (10)) (fun r0 M0 => r0 = some (.int (nI (sdN σ q 4))) ∧ M2 = M0) [.int (nI q)] [] rfl rfl rfl rfl (Nat.le_of_ble_eq_true rfl) (Nat.le_of_ble_eq_true rfl) (w_m_sidesOf _ q (by omega) M2 σ ⟨hk5.1, hB⟩ _ ⟨rfl, rfl⟩) ?_
    rintro _ _ ⟨rfl, rfl⟩
    show Wn _ 87 _ (153, [(0, .ref 114), (1, .int (nI q)), (2, .int (nI w))], [.int (nI (sdN σ q 4))], M2)
    have e9 : perA σ q w = (sdN σ q 4) := by unfold perA; (repeat (first | rw [if_pos (by omega)] | rw [if_neg (by omega)]))
    exact Wn.iret rfl ⟨by rw [e9], by rw [hg3]; exact pk_us, by rw [hg3]; exact (Gx_up (Gx_rf _ _) (by decide)), hF6⟩
  rw [show tsw [0, 6, 154, 76, 90, 104, 114, 125, 137, 148] (nI w) = 154 from tsw_miss (by rw [nI_toInt (by omega)]; omega)]
  show Wn _ 87 _ (154, [(0, .ref 114), (1, .int (nI q)), (2, .int (nI w))], [], M2)
  refine Wn.run (tab := tb_m_person) rfl 2 (c' := (156, [(0, .ref 114), (1, .int (nI q)), (2, .int (nI w))], [.int (nI q), .ref 114], M2)) (o := []) rfl trivial ?_
  refine Wn.callV (p := 114) (n := 2) (ix := 300) (ci := (10)) (fun r0 M0 => r0 = some (.int (nI (dng σ q))) ∧ M2 = M0) [.int (nI q)] [] rfl rfl rfl rfl (Nat.le_of_ble_eq_true rfl) (Nat.le_of_ble_eq_true rfl) (w_m_dangerOf _ q (by omega) M2 σ ⟨hk5.1, hB⟩ _ ⟨rfl, rfl⟩) ?_
  rintro _ _ ⟨rfl, rfl⟩
  show Wn _ 87 _ (159, [(0, .ref 114), (1, .int (nI q)), (2, .int (nI w))], [.int (nI (dng σ q))], M2)
  have e9 : perA σ q w = (dng σ q) := by unfold perA; (repeat (first | rw [if_pos (by omega)] | rw [if_neg (by omega)]))
  exact Wn.iret rfl ⟨by rw [e9], by rw [hg3]; exact pk_us, by rw [hg3]; exact (Gx_up (Gx_rf _ _) (by decide)), hF6⟩
set_option maxRecDepth 20000 in
theorem c_m_personP (d : Nat) (M : Mm) (f0 g : Nat → Int32) (σ : Nat → Nat) (hR : Rs f0 (M.1 116) σ) (hV : Inv σ) (hg : M.1 114 = g) (q w : Int32) (hnp : ¬ pI σ q) : Wn (d + 2) 87 (PO M g (nI 1) (some (.int (nI 0)))) (0, lv_args 0 [.ref 114, .int q, .int w], [], M) := by
  have hF := fr_rf [114] M
  have hB := hV.1
  have c9_2 := Bd_2 hB
  have k90 := Bd_90 hB
  refine Wn.run (tab := tb_m_person) rfl 3 (c' := (3, [(0, .ref 114), (1, .int q), (2, .int w)], [.int q, .ref 114, .ref 114], M)) (o := []) rfl trivial ?_
  refine Wn.callV (p := 114) (n := 2) (ix := 290) (ci := (10)) (fun r0 M0 => r0 = some (.int (nI 0)) ∧ M = M0) [.int q] [.ref 114] rfl rfl rfl rfl (Nat.le_of_ble_eq_true rfl) (Nat.le_of_ble_eq_true rfl) (w_m_isPersonF _ q hnp M σ ⟨hR.1, hB⟩ _ ⟨rfl, rfl⟩) ?_
  rintro _ _ ⟨rfl, rfl⟩
  show Wn _ 87 _ (6, [(0, .ref 114), (1, .int q), (2, .int w)], [.int (nI 0), .ref 114], M)
  refine Wn.run (tab := tb_m_person) rfl 1 (c' := (if (nI 0) = 0 then 19 else 9, [(0, .ref 114), (1, .int q), (2, .int w)], [.ref 114], M)) (o := []) rfl trivial ?_
  rw [if_pos (show (nI 0) = 0 by decide)]
  show Wn _ 87 _ (19, [(0, .ref 114), (1, .int q), (2, .int w)], [.ref 114], M)
  refine Wn.run (tab := tb_m_person) rfl 2 (c' := (24, [(0, .ref 114), (1, .int q), (2, .int w)], [.int (nI 1), .ref 114], M)) (o := []) rfl trivial ?_
  refine Wn.callV (p := 114) (n := 2) (ix := 293) (ci := (10)) (PTh M g (nI 1)) [.int (nI 1)] [] rfl rfl rfl rfl (Nat.le_of_ble_eq_true rfl) (Nat.le_of_ble_eq_true rfl) (c_m_throwsIf1 _ M g hg) ?_
  rintro _ M1 ⟨rfl, hg2, hF3⟩
  show Wn _ 87 _ (27, [(0, .ref 114), (1, .int q), (2, .int w)], [.int (nI 1)], M1)
  have hk4 := fr_rs hF3 (by decide) hR
  have hF5 := fr_tr hF hF3 (by decide)
  refine Wn.run (tab := tb_m_person) rfl 1 (c' := (if (nI 1) = 0 then 32 else 30, [(0, .ref 114), (1, .int q), (2, .int w)], [], M1)) (o := []) rfl trivial ?_
  rw [if_neg (show ¬ ((nI 1) = 0) by decide)]
  show Wn _ 87 _ (30, [(0, .ref 114), (1, .int q), (2, .int w)], [], M1)
  refine Wn.run (tab := tb_m_person) rfl 1 (c' := (31, [(0, .ref 114), (1, .int q), (2, .int w)], [.int (nI 0)], M1)) (o := []) rfl trivial ?_
  exact Wn.iret rfl ⟨rfl, by rw [hg2]; exact pk_us, by rw [hg2]; exact (Gx_up (Gx_rf _ _) (by decide)), hF5⟩
set_option maxRecDepth 20000 in
theorem c_m_personW (d : Nat) (M : Mm) (f0 g : Nat → Int32) (σ : Nat → Nat) (hR : Rs f0 (M.1 116) σ) (hV : Inv σ) (hg : M.1 114 = g) (q : Nat) (w : Int32) (hq : q < σ 2) (hns : ¬ ((nI 0).toInt ≤ w.toInt ∧ w.toInt ≤ (nI 7).toInt)) : Wn (d + 2) 87 (PO M g (nI 1) (some (.int (nI 0)))) (0, lv_args 0 [.ref 114, .int (nI q), .int w], [], M) := by
  have hF := fr_rf [114] M
  have hB := hV.1
  have c9_2 := Bd_2 hB
  have k90 := Bd_90 hB
  refine Wn.run (tab := tb_m_person) rfl 3 (c' := (3, [(0, .ref 114), (1, .int (nI q)), (2, .int w)], [.int (nI q), .ref 114, .ref 114], M)) (o := []) rfl trivial ?_
  refine Wn.callV (p := 114) (n := 2) (ix := 290) (ci := (10)) (fun r0 M0 => r0 = some (.int (nI 1)) ∧ M = M0) [.int (nI q)] [.ref 114] rfl rfl rfl rfl (Nat.le_of_ble_eq_true rfl) (Nat.le_of_ble_eq_true rfl) (w_m_isPersonT _ q (by omega) M σ ⟨hR.1, hB⟩ _ ⟨rfl, rfl⟩) ?_
  rintro _ _ ⟨rfl, rfl⟩
  show Wn _ 87 _ (6, [(0, .ref 114), (1, .int (nI q)), (2, .int w)], [.int (nI 1), .ref 114], M)
  refine Wn.run (tab := tb_m_person) rfl 1 (c' := (if (nI 1) = 0 then 19 else 9, [(0, .ref 114), (1, .int (nI q)), (2, .int w)], [.ref 114], M)) (o := []) rfl trivial ?_
  rw [if_neg (show ¬ ((nI 1) = 0) by decide)]
  show Wn _ 87 _ (9, [(0, .ref 114), (1, .int (nI q)), (2, .int w)], [.ref 114], M)
  refine Wn.run (tab := tb_m_person) rfl 3 (c' := (13, [(0, .ref 114), (1, .int (nI q)), (2, .int w)], [.int (nI 7), .int (nI 0), .int w, .ref 114], M)) (o := []) rfl trivial ?_
  refine Wn.callS (n := 3) (ix := 194) (fun r0 M0 => r0 = some (.int (b2 ((nI 0).toInt ≤ w.toInt ∧ w.toInt ≤ (nI 7).toInt))) ∧ M = M0) [.int w, .int (nI 0), .int (nI 7)] [.ref 114] rfl rfl rfl (Nat.le_of_ble_eq_true rfl) (Nat.le_of_ble_eq_true rfl) (w_m_isInT _ w (nI 0) (nI 7) M _ ⟨rfl, rfl⟩) ?_
  rintro _ _ ⟨rfl, rfl⟩
  show Wn _ 87 _ (16, [(0, .ref 114), (1, .int (nI q)), (2, .int w)], [.int (b2 ((nI 0).toInt ≤ w.toInt ∧ w.toInt ≤ (nI 7).toInt)), .ref 114], M)
  refine Wn.run (tab := tb_m_person) rfl 1 (c' := (if ¬ (b2 ((nI 0).toInt ≤ w.toInt ∧ w.toInt ≤ (nI 7).toInt)) = 0 then 23 else 19, [(0, .ref 114), (1, .int (nI q)), (2, .int w)], [.ref 114], M)) (o := []) rfl trivial ?_
  rw [if_neg (by rw [b2_f hns]; decide)]
  show Wn _ 87 _ (19, [(0, .ref 114), (1, .int (nI q)), (2, .int w)], [.ref 114], M)
  refine Wn.run (tab := tb_m_person) rfl 2 (c' := (24, [(0, .ref 114), (1, .int (nI q)), (2, .int w)], [.int (nI 1), .ref 114], M)) (o := []) rfl trivial ?_
  refine Wn.callV (p := 114) (n := 2) (ix := 293) (ci := (10)) (PTh M g (nI 1)) [.int (nI 1)] [] rfl rfl rfl rfl (Nat.le_of_ble_eq_true rfl) (Nat.le_of_ble_eq_true rfl) (c_m_throwsIf1 _ M g hg) ?_
  rintro _ M1 ⟨rfl, hg2, hF3⟩
  show Wn _ 87 _ (27, [(0, .ref 114), (1, .int (nI q)), (2, .int w)], [.int (nI 1)], M1)
  have hk4 := fr_rs hF3 (by decide) hR
  have hF5 := fr_tr hF hF3 (by decide)
  refine Wn.run (tab := tb_m_person) rfl 1 (c' := (if (nI 1) = 0 then 32 else 30, [(0, .ref 114), (1, .int (nI q)), (2, .int w)], [], M1)) (o := []) rfl trivial ?_
  rw [if_neg (show ¬ ((nI 1) = 0) by decide)]
  show Wn _ 87 _ (30, [(0, .ref 114), (1, .int (nI q)), (2, .int w)], [], M1)
  refine Wn.run (tab := tb_m_person) rfl 1 (c' := (31, [(0, .ref 114), (1, .int (nI q)), (2, .int w)], [.int (nI 0)], M1)) (o := []) rfl trivial ?_
  exact Wn.iret rfl ⟨rfl, by rw [hg2]; exact pk_us, by rw [hg2]; exact (Gx_up (Gx_rf _ _) (by decide)), hF5⟩
set_option maxRecDepth 20000 in
theorem c_m_cell (d : Nat) (M : Mm) (f0 g : Nat → Int32) (σ : Nat → Nat) (hR : Rs f0 (M.1 116) σ) (hV : Inv σ) (hg : M.1 114 = g) (x y : Nat) (what : Int32) (hx : x < σ 0) (hy : y < σ 1) : Wn (d + 4) 88 (PO M g (nI 0) (some (.int (celN σ (8 * y + x) what)))) (0, lv_args 0 [.ref 114, .int (nI x), .int (nI y), .int what], [], M) := by
  have hF := fr_rf [114] M
  have hB := hV.1
  have c9_2 := Bd_2 hB
  have k90 := Bd_90 hB
  have k0 := Bd_0 hB
  have k1 := Bd_1 hB
  refine Wn.run (tab := tb_m_cell) rfl 3 (c' := (5, [(0, .ref 114), (1, .int (nI x)), (2, .int (nI y)), (3, .int what)], [], (mI M 114 (upd (M.1 114) 0 (nI 0))))) (o := [shp 114 = (0, 10)]) rfl rfl ?_
  generalize hM2 : (mI M 114 (upd (M.1 114) 0 (nI 0))) = M1
  have hk3 := rs_ne hM2 (by decide) hR
  have hk4 := fI_up hM2 hg
  have hF5 := fr_sI hF hM2 (by decide)
  show Wn _ 88 _ (5, [(0, .ref 114), (1, .int (nI x)), (2, .int (nI y)), (3, .int what)], [], M1)
  refine Wn.run (tab := tb_m_cell) rfl 3 (c' := (8, [(0, .ref 114), (1, .int (nI x)), (2, .int (nI y)), (3, .int what)], [.int (nI y), .int (nI x), .ref 114], M1)) (o := []) rfl trivial ?_
  refine Wn.callV (p := 114) (n := 3) (ix := 266) (ci := (10)) (fun r0 M0 => r0 = some (.int (nI 1)) ∧ M1 = M0) [.int (nI x), .int (nI y)] [] rfl rfl rfl rfl (Nat.le_of_ble_eq_true rfl) (Nat.le_of_ble_eq_true rfl) (w_m_isCellT _ x y (by omega) (by omega) M1 σ ⟨hk3.1, hB⟩ _ ⟨rfl, rfl⟩) ?_
  rintro _ _ ⟨rfl, rfl⟩
  show Wn _ 88 _ (11, [(0, .ref 114), (1, .int (nI x)), (2, .int (nI y)), (3, .int what)], [.int (nI 1)], M1)
  refine Wn.run (tab := tb_m_cell) rfl 1 (c' := (if ¬ (nI 1) = 0 then 16 else 14, [(0, .ref 114), (1, .int (nI x)), (2, .int (nI y)), (3, .int what)], [], M1)) (o := []) rfl trivial ?_
  rw [if_pos (show ¬ (nI 1) = 0 by decide)]
  show Wn _ 88 _ (16, [(0, .ref 114), (1, .int (nI x)), (2, .int (nI y)), (3, .int what)], [], M1)
  refine Wn.run (tab := tb_m_cell) rfl 8 (c' := (if ¬ what = 0 then 41 else 28, [(4, .int (((nI 8) * (nI y)) + (nI x))), (0, .ref 114), (1, .int (nI x)), (2, .int (nI y)), (3, .int what)], [], M1)) (o := []) rfl trivial ?_
  refine Wn.br (fun h1 => ?_) (fun h1 => ?_)
  · show Wn _ 88 _ (41, [(4, .int (((nI 8) * (nI y)) + (nI x))), (0, .ref 114), (1, .int (nI x)), (2, .int (nI y)), (3, .int what)], [], M1)
    rw [show (((nI 8) * (nI y)) + (nI x)) = (nI ((8 * y) + x)) from (n_add (n_mul rfl rfl) rfl)]
    refine Wn.run (tab := tb_m_cell) rfl 3 (c' := (if ¬ what = (nI 1) then 55 else 46, [(4, .int (nI ((8 * y) + x))), (0, .ref 114), (1, .int (nI x)), (2, .int (nI y)), (3, .int what)], [], M1)) (o := []) rfl trivial ?_
    refine Wn.br (fun h2 => ?_) (fun h2 => ?_)
    · show Wn _ 88 _ (55, [(4, .int (nI ((8 * y) + x))), (0, .ref 114), (1, .int (nI x)), (2, .int (nI y)), (3, .int what)], [], M1)
      refine Wn.run (tab := tb_m_cell) rfl 3 (c' := (if ¬ what = (nI 2) then 69 else 60, [(4, .int (nI ((8 * y) + x))), (0, .ref 114), (1, .int (nI x)), (2, .int (nI y)), (3, .int what)], [], M1)) (o := []) rfl trivial ?_
      refine Wn.br (fun h3 => ?_) (fun h3 => ?_)
      · show Wn _ 88 _ (69, [(4, .int (nI ((8 * y) + x))), (0, .ref 114), (1, .int (nI x)), (2, .int (nI y)), (3, .int what)], [], M1)
        refine Wn.run (tab := tb_m_cell) rfl 1 (c' := (70, [(4, .int (nI ((8 * y) + x))), (0, .ref 114), (1, .int (nI x)), (2, .int (nI y)), (3, .int what)], [.int (-1 : Int32)], M1)) (o := []) rfl trivial ?_
        rw [← nI_0] at h1
        exact Wn.iret rfl ⟨by unfold celN; rw [if_neg h1, if_neg h2, if_neg h3], by rw [hk4]; exact pk_us, by rw [hk4]; exact (Gx_up (Gx_rf _ _) (by decide)), hF5⟩
      · show Wn _ 88 _ (60, [(4, .int (nI ((8 * y) + x))), (0, .ref 114), (1, .int (nI x)), (2, .int (nI y)), (3, .int what)], [], M1)
        refine Wn.run (tab := tb_m_cell) rfl 2 (c' := (63, [(4, .int (nI ((8 * y) + x))), (0, .ref 114), (1, .int (nI x)), (2, .int (nI y)), (3, .int what)], [.int (nI ((8 * y) + x)), .ref 114], M1)) (o := []) rfl trivial ?_
        refine Wn.callV (p := 114) (n := 2) (ix := 263) (ci := (10)) (fun r0 M0 => r0 = some (.int (nI (pon σ ((8 * y) + x)))) ∧ M1 = M0) [.int (nI ((8 * y) + x))] [] rfl rfl rfl rfl (Nat.le_of_ble_eq_true rfl) (Nat.le_of_ble_eq_true rfl) (w_m_personsOn _ ((8 * y) + x) (by omega) M1 σ ⟨hk3.1, hB⟩ _ ⟨rfl, rfl⟩) ?_
        rintro _ _ ⟨rfl, rfl⟩
        show Wn _ 88 _ (66, [(4, .int (nI ((8 * y) + x))), (0, .ref 114), (1, .int (nI x)), (2, .int (nI y)), (3, .int what)], [.int (nI (pon σ ((8 * y) + x)))], M1)
        refine Wn.run (tab := tb_m_cell) rfl 1 (c' := (70, [(4, .int (nI ((8 * y) + x))), (0, .ref 114), (1, .int (nI x)), (2, .int (nI y)), (3, .int what)], [.int (nI (pon σ ((8 * y) + x)))], M1)) (o := []) rfl trivial ?_
        rw [← nI_0] at h1
        exact Wn.iret rfl ⟨by unfold celN; rw [if_neg h1, if_neg h2, if_pos (Classical.not_not.mp h3)], by rw [hk4]; exact pk_us, by rw [hk4]; exact (Gx_up (Gx_rf _ _) (by decide)), hF5⟩
    · show Wn _ 88 _ (46, [(4, .int (nI ((8 * y) + x))), (0, .ref 114), (1, .int (nI x)), (2, .int (nI y)), (3, .int what)], [], M1)
      refine Wn.run (tab := tb_m_cell) rfl 2 (c' := (49, [(4, .int (nI ((8 * y) + x))), (0, .ref 114), (1, .int (nI x)), (2, .int (nI y)), (3, .int what)], [.int (nI ((8 * y) + x)), .ref 114], M1)) (o := []) rfl trivial ?_
      refine Wn.callV (p := 114) (n := 2) (ix := 269) (ci := (10)) (fun r0 M0 => r0 = some (.int (nI (ld σ ((8 * y) + x)))) ∧ M1 = M0) [.int (nI ((8 * y) + x))] [] rfl rfl rfl rfl (Nat.le_of_ble_eq_true rfl) (Nat.le_of_ble_eq_true rfl) (w_m_loadsOn _ ((8 * y) + x) (by omega) M1 σ ⟨hk3.1, hB⟩ _ ⟨rfl, rfl⟩) ?_
      rintro _ _ ⟨rfl, rfl⟩
      show Wn _ 88 _ (52, [(4, .int (nI ((8 * y) + x))), (0, .ref 114), (1, .int (nI x)), (2, .int (nI y)), (3, .int what)], [.int (nI (ld σ ((8 * y) + x)))], M1)
      have r9 := ld_le hB ((8 * y) + x)
      refine Wn.run (tab := tb_m_cell) rfl 1 (c' := (70, [(4, .int (nI ((8 * y) + x))), (0, .ref 114), (1, .int (nI x)), (2, .int (nI y)), (3, .int what)], [.int (nI (ld σ ((8 * y) + x)))], M1)) (o := []) rfl trivial ?_
      rw [← nI_0] at h1
      exact Wn.iret rfl ⟨by unfold celN; rw [if_neg h1, if_pos (Classical.not_not.mp h2)], by rw [hk4]; exact pk_us, by rw [hk4]; exact (Gx_up (Gx_rf _ _) (by decide)), hF5⟩
  · show Wn _ 88 _ (28, [(4, .int (((nI 8) * (nI y)) + (nI x))), (0, .ref 114), (1, .int (nI x)), (2, .int (nI y)), (3, .int what)], [], M1)
    rw [show (((nI 8) * (nI y)) + (nI x)) = (nI ((8 * y) + x)) from (n_add (n_mul rfl rfl) rfl)]
    refine Wn.run (tab := tb_m_cell) rfl 7 (c' := (70, [(4, .int (nI ((8 * y) + x))), (0, .ref 114), (1, .int (nI x)), (2, .int (nI y)), (3, .int what)], [.int (M1.1 116 (((nI 96) + (nI ((8 * y) + x)))).toNatClampNeg)], M1)) (o := [shp 114 = (0, 10), aok shp 116 0 ((nI 96) + (nI ((8 * y) + x)))]) rfl ⟨rfl, (ak1 (n := 359) rfl rfl (n_add rfl rfl) (by omega))⟩ ?_
    have g9 := Bd_c hB ((8 * y) + x) (by omega)
    rw [show (M1.1 116 (((nI 96) + (nI ((8 * y) + x)))).toNatClampNeg) = (nI (σ (96 + ((8 * y) + x)))) from (rd1 hk3.1 (n_add rfl rfl) (by omega) (by omega))]
    rw [← nI_0] at h1
    exact Wn.iret rfl ⟨by unfold celN; rw [if_pos (Classical.not_not.mp h1)], by rw [hk4]; exact pk_us, by rw [hk4]; exact (Gx_up (Gx_rf _ _) (by decide)), hF5⟩
set_option maxRecDepth 20000 in
theorem c_m_cellC (d : Nat) (M : Mm) (f0 g : Nat → Int32) (σ : Nat → Nat) (hR : Rs f0 (M.1 116) σ) (hV : Inv σ) (hg : M.1 114 = g) (x y what : Int32) (hnc : ¬ cI σ x y) : Wn (d + 2) 88 (PO M g (nI 0) (some (.int (-1)))) (0, lv_args 0 [.ref 114, .int x, .int y, .int what], [], M) := by
  have hF := fr_rf [114] M
  have hB := hV.1
  have c9_2 := Bd_2 hB
  have k90 := Bd_90 hB
  refine Wn.run (tab := tb_m_cell) rfl 3 (c' := (5, [(0, .ref 114), (1, .int x), (2, .int y), (3, .int what)], [], (mI M 114 (upd (M.1 114) 0 (nI 0))))) (o := [shp 114 = (0, 10)]) rfl rfl ?_
  generalize hM2 : (mI M 114 (upd (M.1 114) 0 (nI 0))) = M1
  have hk3 := rs_ne hM2 (by decide) hR
  have hk4 := fI_up hM2 hg
  have hF5 := fr_sI hF hM2 (by decide)
  show Wn _ 88 _ (5, [(0, .ref 114), (1, .int x), (2, .int y), (3, .int what)], [], M1)
  refine Wn.run (tab := tb_m_cell) rfl 3 (c' := (8, [(0, .ref 114), (1, .int x), (2, .int y), (3, .int what)], [.int y, .int x, .ref 114], M1)) (o := []) rfl trivial ?_
  refine Wn.callV (p := 114) (n := 3) (ix := 266) (ci := (10)) (fun r0 M0 => r0 = some (.int (nI 0)) ∧ M1 = M0) [.int x, .int y] [] rfl rfl rfl rfl (Nat.le_of_ble_eq_true rfl) (Nat.le_of_ble_eq_true rfl) (w_m_isCellF _ x y hnc M1 σ ⟨hk3.1, hB⟩ _ ⟨rfl, rfl⟩) ?_
  rintro _ _ ⟨rfl, rfl⟩
  show Wn _ 88 _ (11, [(0, .ref 114), (1, .int x), (2, .int y), (3, .int what)], [.int (nI 0)], M1)
  refine Wn.run (tab := tb_m_cell) rfl 1 (c' := (if ¬ (nI 0) = 0 then 16 else 14, [(0, .ref 114), (1, .int x), (2, .int y), (3, .int what)], [], M1)) (o := []) rfl trivial ?_
  rw [if_neg (show ¬ (¬ (nI 0) = 0) by decide)]
  show Wn _ 88 _ (14, [(0, .ref 114), (1, .int x), (2, .int y), (3, .int what)], [], M1)
  refine Wn.run (tab := tb_m_cell) rfl 1 (c' := (15, [(0, .ref 114), (1, .int x), (2, .int y), (3, .int what)], [.int (-1 : Int32)], M1)) (o := []) rfl trivial ?_
  exact Wn.iret rfl ⟨rfl, by rw [hk4]; exact pk_us, by rw [hk4]; exact (Gx_up (Gx_rf _ _) (by decide)), hF5⟩
set_option maxRecDepth 20000 in
theorem c_m_now (d : Nat) (M : Mm) (f0 g : Nat → Int32) (σ : Nat → Nat) (hR : Rs f0 (M.1 116) σ) (hV : Inv σ) (hg : M.1 114 = g) (what : Int32) : Wn (d + 2) 89 (PO M g (nI 0) (some (.int (nowA σ what)))) (0, lv_args 0 [.ref 114, .int what], [], M) := by
  have hF := fr_rf [114] M
  have hB := hV.1
  have c9_2 := Bd_2 hB
  have k90 := Bd_90 hB
  have k0 := Bd_0 hB
  have k1 := Bd_1 hB
  have k91 := Bd_91 hB
  refine Wn.run (tab := tb_m_now) rfl 3 (c' := (5, [(0, .ref 114), (1, .int what)], [], (mI M 114 (upd (M.1 114) 0 (nI 0))))) (o := [shp 114 = (0, 10)]) rfl rfl ?_
  generalize hM2 : (mI M 114 (upd (M.1 114) 0 (nI 0))) = M1
  have hk3 := rs_ne hM2 (by decide) hR
  have hk4 := fI_up hM2 hg
  have hF5 := fr_sI hF hM2 (by decide)
  show Wn _ 89 _ (5, [(0, .ref 114), (1, .int what)], [], M1)
  refine Wn.run (tab := tb_m_now) rfl 4 (c' := (9, [(3, .int (nI 0)), (2, .int (nI 0)), (0, .ref 114), (1, .int what)], [], M1)) (o := []) rfl trivial ?_
  have loop : ∀ (m c : Nat), 64 - c = m → c ≤ 64 → Wn (d + 2) 89 (PO M g (nI 0) (some (.int (nowA σ what)))) (9, [(3, .int (nI c)), (2, .int (nI (brN σ c))), (0, .ref 114), (1, .int what)], [], M1) := by
    intro m
    induction m using Nat.strongRecOn with
    | _ m ih =>
      intro c hm hq
      refine Wn.run (tab := tb_m_now) rfl 3 (c' := (if (nI 64) ≤ (nI c) then 56 else 15, [(3, .int (nI c)), (2, .int (nI (brN σ c))), (0, .ref 114), (1, .int what)], [], M1)) (o := []) rfl trivial ?_
      refine Wn.br (fun h1 => ?_) (fun h1 => ?_)
      · show Wn _ 89 _ (56, [(3, .int (nI c)), (2, .int (nI (brN σ c))), (0, .ref 114), (1, .int what)], [], M1)
        have h1 := (n_le rfl rfl (by omega) (by omega)).mp h1
        have e9 : c = 64 := by omega
        rw [e9]
        refine Wn.run (tab := tb_m_now) rfl 2 (c' := (tsw [0, 7, 159, 104, 112, 120, 128, 133, 135, 143, 151] what, [(3, .int (nI 64)), (2, .int (nI (brN σ 64))), (0, .ref 114), (1, .int what)], [], M1)) (o := []) rfl trivial ?_
        by_cases h2 : what = (nI 0)
        · rw [show tsw [0, 7, 159, 104, 112, 120, 128, 133, 135, 143, 151] what = 104 from by rw [h2]; rfl]
          show Wn _ 89 _ (104, [(3, .int (nI 64)), (2, .int (nI (brN σ 64))), (0, .ref 114), (1, .int what)], [], M1)
          refine Wn.run (tab := tb_m_now) rfl 4 (c' := (111, [(3, .int (nI 64)), (2, .int (nI (brN σ 64))), (0, .ref 114), (1, .int what)], [.int (M1.1 116 90)], M1)) (o := [shp 114 = (0, 10), aok shp 116 0 (nI 90)]) rfl ⟨rfl, ⟨rfl, vp_in_nI (by decide) (by decide)⟩⟩ ?_
          have c9_90 := Bd_90 hB
          rw [show (M1.1 116 90) = (nI (σ 90)) from (rd0 hk3.1 (by omega))]
          exact Wn.iret rfl ⟨by unfold nowA; rw [if_pos h2], by rw [hk4]; exact pk_us, by rw [hk4]; exact (Gx_up (Gx_rf _ _) (by decide)), hF5⟩
        by_cases h3 : what = (nI 1)
        · rw [show tsw [0, 7, 159, 104, 112, 120, 128, 133, 135, 143, 151] what = 112 from by rw [h3]; rfl]
          show Wn _ 89 _ (112, [(3, .int (nI 64)), (2, .int (nI (brN σ 64))), (0, .ref 114), (1, .int what)], [], M1)
          refine Wn.run (tab := tb_m_now) rfl 4 (c' := (119, [(3, .int (nI 64)), (2, .int (nI (brN σ 64))), (0, .ref 114), (1, .int what)], [.int (M1.1 116 91)], M1)) (o := [shp 114 = (0, 10), aok shp 116 0 (nI 91)]) rfl ⟨rfl, ⟨rfl, vp_in_nI (by decide) (by decide)⟩⟩ ?_
          have c9_91 := Bd_91 hB
          rw [show (M1.1 116 91) = (nI (σ 91)) from (rd0 hk3.1 (by omega))]
          exact Wn.iret rfl ⟨by unfold nowA; rw [if_neg h2, if_pos h3], by rw [hk4]; exact pk_us, by rw [hk4]; exact (Gx_up (Gx_rf _ _) (by decide)), hF5⟩
        by_cases h4 : what = (nI 2)
        · rw [show tsw [0, 7, 159, 104, 112, 120, 128, 133, 135, 143, 151] what = 120 from by rw [h4]; rfl]
          show Wn _ 89 _ (120, [(3, .int (nI 64)), (2, .int (nI (brN σ 64))), (0, .ref 114), (1, .int what)], [], M1)
          refine Wn.run (tab := tb_m_now) rfl 4 (c' := (127, [(3, .int (nI 64)), (2, .int (nI (brN σ 64))), (0, .ref 114), (1, .int what)], [.int (M1.1 116 92)], M1)) (o := [shp 114 = (0, 10), aok shp 116 0 (nI 92)]) rfl ⟨rfl, ⟨rfl, vp_in_nI (by decide) (by decide)⟩⟩ ?_
          have c9_92 := Bd_92 hB
          rw [show (M1.1 116 92) = (nI (σ 92)) from (rd0 hk3.1 (by omega))]
          exact Wn.iret rfl ⟨by unfold nowA; rw [if_neg h2, if_neg h3, if_pos h4], by rw [hk4]; exact pk_us, by rw [hk4]; exact (Gx_up (Gx_rf _ _) (by decide)), hF5⟩
        by_cases h5 : what = (nI 3)
        · rw [show tsw [0, 7, 159, 104, 112, 120, 128, 133, 135, 143, 151] what = 128 from by rw [h5]; rfl]
          show Wn _ 89 _ (128, [(3, .int (nI 64)), (2, .int (nI (brN σ 64))), (0, .ref 114), (1, .int what)], [], M1)
          refine Wn.run (tab := tb_m_now) rfl 1 (c' := (129, [(3, .int (nI 64)), (2, .int (nI (brN σ 64))), (0, .ref 114), (1, .int what)], [.ref 114], M1)) (o := []) rfl trivial ?_
          refine Wn.callV (p := 114) (n := 1) (ix := 303) (ci := (10)) (fun r0 M0 => r0 = some (.int (nI (aiN σ 64))) ∧ M1 = M0) [] [] rfl rfl rfl rfl (Nat.le_of_ble_eq_true rfl) (Nat.le_of_ble_eq_true rfl) (w_m_allIce _  M1 σ ⟨hk3.1, hB⟩ _ ⟨rfl, rfl⟩) ?_
          rintro _ _ ⟨rfl, rfl⟩
          show Wn _ 89 _ (132, [(3, .int (nI 64)), (2, .int (nI (brN σ 64))), (0, .ref 114), (1, .int what)], [.int (nI (aiN σ 64))], M1)
          exact Wn.iret rfl ⟨by unfold nowA; rw [alI_ai hV.2.2.1 64 (Nat.le_refl _)]; rw [if_neg h2, if_neg h3, if_neg h4, if_pos h5], by rw [hk4]; exact pk_us, by rw [hk4]; exact (Gx_up (Gx_rf _ _) (by decide)), hF5⟩
        by_cases h6 : what = (nI 4)
        · rw [show tsw [0, 7, 159, 104, 112, 120, 128, 133, 135, 143, 151] what = 133 from by rw [h6]; rfl]
          show Wn _ 89 _ (133, [(3, .int (nI 64)), (2, .int (nI (brN σ 64))), (0, .ref 114), (1, .int what)], [], M1)
          refine Wn.run (tab := tb_m_now) rfl 1 (c' := (134, [(3, .int (nI 64)), (2, .int (nI (brN σ 64))), (0, .ref 114), (1, .int what)], [.int (nI (brN σ 64))], M1)) (o := []) rfl trivial ?_
          exact Wn.iret rfl ⟨by unfold nowA; rw [if_neg h2, if_neg h3, if_neg h4, if_neg h5, if_pos h6], by rw [hk4]; exact pk_us, by rw [hk4]; exact (Gx_up (Gx_rf _ _) (by decide)), hF5⟩
        by_cases h7 : what = (nI 5)
        · rw [show tsw [0, 7, 159, 104, 112, 120, 128, 133, 135, 143, 151] what = 135 from by rw [h7]; rfl]
          show Wn _ 89 _ (135, [(3, .int (nI 64)), (2, .int (nI (brN σ 64))), (0, .ref 114), (1, .int what)], [], M1)
          refine Wn.run (tab := tb_m_now) rfl 4 (c' := (142, [(3, .int (nI 64)), (2, .int (nI (brN σ 64))), (0, .ref 114), (1, .int what)], [.int (M1.1 116 93)], M1)) (o := [shp 114 = (0, 10), aok shp 116 0 (nI 93)]) rfl ⟨rfl, ⟨rfl, vp_in_nI (by decide) (by decide)⟩⟩ ?_
          rw [show (M1.1 116 93) = (nI (σ 93)) from (rd0 hk3.1 (by omega))]
          exact Wn.iret rfl ⟨by unfold nowA; rw [if_neg h2, if_neg h3, if_neg h4, if_neg h5, if_neg h6, if_pos h7], by rw [hk4]; exact pk_us, by rw [hk4]; exact (Gx_up (Gx_rf _ _) (by decide)), hF5⟩
        by_cases h8 : what = (nI 6)
        · rw [show tsw [0, 7, 159, 104, 112, 120, 128, 133, 135, 143, 151] what = 143 from by rw [h8]; rfl]
          show Wn _ 89 _ (143, [(3, .int (nI 64)), (2, .int (nI (brN σ 64))), (0, .ref 114), (1, .int what)], [], M1)
          refine Wn.run (tab := tb_m_now) rfl 4 (c' := (150, [(3, .int (nI 64)), (2, .int (nI (brN σ 64))), (0, .ref 114), (1, .int what)], [.int (M1.1 116 94)], M1)) (o := [shp 114 = (0, 10), aok shp 116 0 (nI 94)]) rfl ⟨rfl, ⟨rfl, vp_in_nI (by decide) (by decide)⟩⟩ ?_
          rw [show (M1.1 116 94) = (nI (σ 94)) from (rd0 hk3.1 (by omega))]
          exact Wn.iret rfl ⟨by unfold nowA; rw [if_neg h2, if_neg h3, if_neg h4, if_neg h5, if_neg h6, if_neg h7, if_pos h8], by rw [hk4]; exact pk_us, by rw [hk4]; exact (Gx_up (Gx_rf _ _) (by decide)), hF5⟩
        by_cases h9 : what = (nI 7)
        · rw [show tsw [0, 7, 159, 104, 112, 120, 128, 133, 135, 143, 151] what = 151 from by rw [h9]; rfl]
          show Wn _ 89 _ (151, [(3, .int (nI 64)), (2, .int (nI (brN σ 64))), (0, .ref 114), (1, .int what)], [], M1)
          refine Wn.run (tab := tb_m_now) rfl 4 (c' := (158, [(3, .int (nI 64)), (2, .int (nI (brN σ 64))), (0, .ref 114), (1, .int what)], [.int (M1.1 116 95)], M1)) (o := [shp 114 = (0, 10), aok shp 116 0 (nI 95)]) rfl ⟨rfl, ⟨rfl, vp_in_nI (by decide) (by decide)⟩⟩ ?_
          rw [show (M1.1 116 95) = (nI (σ 95)) from (rd0 hk3.1 (by omega))]
          exact Wn.iret rfl ⟨by unfold nowA; rw [if_neg h2, if_neg h3, if_neg h4, if_neg h5, if_neg h6, if_neg h7, if_neg h8, if_pos h9], by rw [hk4]; exact pk_us, by rw [hk4]; exact (Gx_up (Gx_rf _ _) (by decide)), hF5⟩
        rw [show tsw [0, 7, 159, 104, 112, 120, 128, 133, 135, 143, 151] what = 159 from tsw_miss (by have zh2 := ne_toInt h2 (by decide); have zh3 := ne_toInt h3 (by decide); have zh4 := ne_toInt h4 (by decide); have zh5 := ne_toInt h5 (by decide); have zh6 := ne_toInt h6 (by decide); have zh7 := ne_toInt h7 (by decide); have zh8 := ne_toInt h8 (by decide); have zh9 := ne_toInt h9 (by decide); omega)]
        show Wn _ 89 _ (159, [(3, .int (nI 64)), (2, .int (nI (brN σ 64))), (0, .ref 114), (1, .int what)], [], M1)
        refine Wn.run (tab := tb_m_now) rfl 1 (c' := (160, [(3, .int (nI 64)), (2, .int (nI (brN σ 64))), (0, .ref 114), (1, .int what)], [.int (-1 : Int32)], M1)) (o := []) rfl trivial ?_
        exact Wn.iret rfl ⟨by unfold nowA; rw [if_neg h2, if_neg h3, if_neg h4, if_neg h5, if_neg h6, if_neg h7, if_neg h8, if_neg h9], by rw [hk4]; exact pk_us, by rw [hk4]; exact (Gx_up (Gx_rf _ _) (by decide)), hF5⟩
      · show Wn _ 89 _ (15, [(3, .int (nI c)), (2, .int (nI (brN σ c))), (0, .ref 114), (1, .int what)], [], M1)
        have h1 := mt (n_le rfl rfl (by omega) (by omega)).mpr h1
        refine Wn.run (tab := tb_m_now) rfl 8 (c' := (25, [(3, .int (nI c)), (2, .int (nI (brN σ c))), (0, .ref 114), (1, .int what)], [.int ((nI c) / (nI 8)), .int ((nI c) - (nI c) / (nI 8) * (nI 8)), .ref 114, .int (nI (brN σ c))], M1)) (o := [¬ (nI 8) = 0, ¬ (nI 8) = 0]) rfl ⟨(show ¬ (nI 8) = 0 by decide), (show ¬ (nI 8) = 0 by decide)⟩ ?_
        rw [show ((nI c) - (nI c) / (nI 8) * (nI 8)) = (nI (c % 8)) from (n_rem rfl rfl (by omega) (by omega) (by omega))]
        rw [show ((nI c) / (nI 8)) = (nI (c / 8)) from (n_div rfl rfl (by omega) (by omega) (by omega))]
        refine Wn.callV (p := 114) (n := 3) (ix := 266) (ci := (10)) (fun r0 M0 => r0 = some (.int (b2 ((c % 8) < σ 0 ∧ (c / 8) < σ 1))) ∧ M1 = M0) [.int (nI (c % 8)), .int (nI (c / 8))] [.int (nI (brN σ c))] rfl rfl rfl rfl (Nat.le_of_ble_eq_true rfl) (Nat.le_of_ble_eq_true rfl) (w_m_isCellN _ (c % 8) (c / 8) (by omega) (by omega) M1 σ ⟨hk3.1, hB⟩ _ ⟨rfl, rfl⟩) ?_
        rintro _ _ ⟨rfl, rfl⟩
        show Wn _ 89 _ (28, [(3, .int (nI c)), (2, .int (nI (brN σ c))), (0, .ref 114), (1, .int what)], [.int (b2 ((c % 8) < σ 0 ∧ (c / 8) < σ 1)), .int (nI (brN σ c))], M1)
        refine Wn.run (tab := tb_m_now) rfl 1 (c' := (if (b2 ((c % 8) < σ 0 ∧ (c / 8) < σ 1)) = 0 then 47 else 31, [(3, .int (nI c)), (2, .int (nI (brN σ c))), (0, .ref 114), (1, .int what)], [.int (nI (brN σ c))], M1)) (o := []) rfl trivial ?_
        refine Wn.br (fun h10 => ?_) (fun h10 => ?_)
        · show Wn _ 89 _ (47, [(3, .int (nI c)), (2, .int (nI (brN σ c))), (0, .ref 114), (1, .int what)], [.int (nI (brN σ c))], M1)
          have h10 := b2_neg h10
          refine Wn.run (tab := tb_m_now) rfl 5 (c' := (9, [(3, .int ((nI c) + (nI 1))), (2, .int ((nI (brN σ c)) + (nI 0))), (0, .ref 114), (1, .int what)], [], M1)) (o := []) rfl trivial ?_
          rw [show ((nI (brN σ c)) + (nI 0)) = (nI ((brN σ c) + 0)) from (n_add rfl rfl)]
          rw [show ((nI c) + (nI 1)) = (nI (c + 1)) from (n_add rfl rfl)]
          have on9 : ¬ (inL σ c ∧ σ (96 + c) = 0) := by unfold inL; omega
          rw [show (nI ((brN σ c) + 0)) = (nI (brN σ (c + 1))) from (by show _ = nI (brN σ c + (if inL σ c ∧ σ (96 + c) = 0 then 1 else 0)); rw [if_neg on9])]
          exact ih (64 - (c + 1)) (by omega) (c + 1) rfl (by omega)
        · show Wn _ 89 _ (31, [(3, .int (nI c)), (2, .int (nI (brN σ c))), (0, .ref 114), (1, .int what)], [.int (nI (brN σ c))], M1)
          have h10 := b2_pos h10
          refine Wn.run (tab := tb_m_now) rfl 7 (c' := (if ¬ (M1.1 116 (((nI 96) + (nI c))).toNatClampNeg) = 0 then 47 else 43, [(3, .int (nI c)), (2, .int (nI (brN σ c))), (0, .ref 114), (1, .int what)], [.int (nI (brN σ c))], M1)) (o := [shp 114 = (0, 10), aok shp 116 0 ((nI 96) + (nI c))]) rfl ⟨rfl, (ak1 (n := 359) rfl rfl (n_add rfl rfl) (by omega))⟩ ?_
          refine Wn.br (fun h11 => ?_) (fun h11 => ?_)
          · show Wn _ 89 _ (47, [(3, .int (nI c)), (2, .int (nI (brN σ c))), (0, .ref 114), (1, .int what)], [.int (nI (brN σ c))], M1)
            have g9 := Bd_c hB c (by omega)
            have h11 := mt (n_eq (rd1 hk3.1 (n_add rfl rfl) (by omega) (by omega)) nI_0.symm (by omega) (by omega)).mpr h11
            refine Wn.run (tab := tb_m_now) rfl 5 (c' := (9, [(3, .int ((nI c) + (nI 1))), (2, .int ((nI (brN σ c)) + (nI 0))), (0, .ref 114), (1, .int what)], [], M1)) (o := []) rfl trivial ?_
            rw [show ((nI (brN σ c)) + (nI 0)) = (nI ((brN σ c) + 0)) from (n_add rfl rfl)]
            rw [show ((nI c) + (nI 1)) = (nI (c + 1)) from (n_add rfl rfl)]
            have on9 : ¬ (inL σ c ∧ σ (96 + c) = 0) := by unfold inL; omega
            rw [show (nI ((brN σ c) + 0)) = (nI (brN σ (c + 1))) from (by show _ = nI (brN σ c + (if inL σ c ∧ σ (96 + c) = 0 then 1 else 0)); rw [if_neg on9])]
            exact ih (64 - (c + 1)) (by omega) (c + 1) rfl (by omega)
          · show Wn _ 89 _ (43, [(3, .int (nI c)), (2, .int (nI (brN σ c))), (0, .ref 114), (1, .int what)], [.int (nI (brN σ c))], M1)
            have g9 := Bd_c hB c (by omega)
            have h11 := (n_eq (rd1 hk3.1 (n_add rfl rfl) (by omega) (by omega)) nI_0.symm (by omega) (by omega)).mp (Classical.not_not.mp h11)
            refine Wn.run (tab := tb_m_now) rfl 6 (c' := (9, [(3, .int ((nI c) + (nI 1))), (2, .int ((nI (brN σ c)) + (nI 1))), (0, .ref 114), (1, .int what)], [], M1)) (o := []) rfl trivial ?_
            rw [show ((nI (brN σ c)) + (nI 1)) = (nI ((brN σ c) + 1)) from (n_add rfl rfl)]
            rw [show ((nI c) + (nI 1)) = (nI (c + 1)) from (n_add rfl rfl)]
            have on9 : (inL σ c ∧ σ (96 + c) = 0) := by unfold inL; omega
            rw [show (nI ((brN σ c) + 1)) = (nI (brN σ (c + 1))) from (by show _ = nI (brN σ c + (if inL σ c ∧ σ (96 + c) = 0 then 1 else 0)); rw [if_pos on9])]
            exact ih (64 - (c + 1)) (by omega) (c + 1) rfl (by omega)
  exact loop (64 - 0) 0 rfl (by omega)
set_option maxRecDepth 20000 in
theorem c_m_count (d : Nat) (M : Mm) (f0 g : Nat → Int32) (σ : Nat → Nat) (hR : Rs f0 (M.1 116) σ) (hV : Inv σ) (hg : M.1 114 = g) (what : Int32) : Wn (d + 1) 150 (PO M g (nI 0) (some (.int (cntA σ (g 2) what)))) (0, lv_args 0 [.ref 114, .int what], [], M) := by
  have hF := fr_rf [114] M
  have hB := hV.1
  have c9_2 := Bd_2 hB
  have k90 := Bd_90 hB
  refine Wn.run (tab := tb_m_count) rfl 3 (c' := (5, [(0, .ref 114), (1, .int what)], [], (mI M 114 (upd (M.1 114) 0 (nI 0))))) (o := [shp 114 = (0, 10)]) rfl rfl ?_
  generalize hM2 : (mI M 114 (upd (M.1 114) 0 (nI 0))) = M1
  have hk3 := rs_ne hM2 (by decide) hR
  have hk4 := fI_up hM2 hg
  have hF5 := fr_sI hF hM2 (by decide)
  show Wn _ 150 _ (5, [(0, .ref 114), (1, .int what)], [], M1)
  refine Wn.run (tab := tb_m_count) rfl 3 (c' := (if ¬ what = (nI 8) then 18 else 11, [(0, .ref 114), (1, .int what)], [], M1)) (o := []) rfl trivial ?_
  refine Wn.br (fun h1 => ?_) (fun h1 => ?_)
  · show Wn _ 150 _ (18, [(0, .ref 114), (1, .int what)], [], M1)
    refine Wn.run (tab := tb_m_count) rfl 3 (c' := (22, [(0, .ref 114), (1, .int what)], [.int (nI 7), .int (nI 0), .int what], M1)) (o := []) rfl trivial ?_
    refine Wn.callS (n := 3) (ix := 194) (fun r0 M0 => r0 = some (.int (b2 ((nI 0).toInt ≤ what.toInt ∧ what.toInt ≤ (nI 7).toInt))) ∧ M1 = M0) [.int what, .int (nI 0), .int (nI 7)] [] rfl rfl rfl (Nat.le_of_ble_eq_true rfl) (Nat.le_of_ble_eq_true rfl) (w_m_isInT _ what (nI 0) (nI 7) M1 _ ⟨rfl, rfl⟩) ?_
    rintro _ _ ⟨rfl, rfl⟩
    show Wn _ 150 _ (25, [(0, .ref 114), (1, .int what)], [.int (b2 ((nI 0).toInt ≤ what.toInt ∧ what.toInt ≤ (nI 7).toInt))], M1)
    refine Wn.run (tab := tb_m_count) rfl 1 (c' := (if (b2 ((nI 0).toInt ≤ what.toInt ∧ what.toInt ≤ (nI 7).toInt)) = 0 then 37 else 28, [(0, .ref 114), (1, .int what)], [], M1)) (o := []) rfl trivial ?_
    refine Wn.br (fun h5 => ?_) (fun h5 => ?_)
    · show Wn _ 150 _ (37, [(0, .ref 114), (1, .int what)], [], M1)
      have h5 := b2_neg h5
      refine Wn.run (tab := tb_m_count) rfl 1 (c' := (38, [(0, .ref 114), (1, .int what)], [.int (-1 : Int32)], M1)) (o := []) rfl trivial ?_
      exact Wn.iret rfl ⟨by rw [cnt_out h1 h5], by rw [hk4]; exact pk_us, by rw [hk4]; exact (Gx_up (Gx_rf _ _) (by decide)), hF5⟩
    · show Wn _ 150 _ (28, [(0, .ref 114), (1, .int what)], [], M1)
      have h5 := b2_pos h5
      obtain ⟨k, hk, rfl, hc⟩ := cnt_in (σ := σ) (L := g 2) h1 h5
      refine Wn.run (tab := tb_m_count) rfl 5 (c' := (38, [(0, .ref 114), (1, .int (nI k))], [.int (M1.1 116 ((nI k)).toNatClampNeg)], M1)) (o := [shp 114 = (0, 10), aok shp 116 0 (nI k)]) rfl ⟨rfl, (ak1 (n := 359) rfl rfl rfl (by omega))⟩ ?_
      rw [show (M1.1 116 ((nI k)).toNatClampNeg) = (nI (σ k)) from (rd1 hk3.1 rfl (by omega) (by omega))]
      exact Wn.iret rfl ⟨by rw [hc], by rw [hk4]; exact pk_us, by rw [hk4]; exact (Gx_up (Gx_rf _ _) (by decide)), hF5⟩
  · show Wn _ 150 _ (11, [(0, .ref 114), (1, .int what)], [], M1)
    refine Wn.run (tab := tb_m_count) rfl 3 (c' := (38, [(0, .ref 114), (1, .int what)], [.int (M1.1 114 2)], M1)) (o := [shp 114 = (0, 10)]) rfl rfl ?_
    rw [show (M1.1 114 2) = (g 2) from (fr_eq hk4 (show (upd g 0 (nI 0)) 2 = (g 2) from ((pk_un (by decide)).trans rfl)))]
    exact Wn.iret rfl ⟨by unfold cntA; rw [if_pos (Classical.not_not.mp h1)], by rw [hk4]; exact pk_us, by rw [hk4]; exact (Gx_up (Gx_rf _ _) (by decide)), hF5⟩
set_option maxRecDepth 20000 in
theorem c_m_stands (d : Nat) (M : Mm) (f0 g : Nat → Int32) (σ : Nat → Nat) (hR : Rs f0 (M.1 116) σ) (hV : Inv σ) (hg : M.1 114 = g) (q : Nat) (hq : q < σ 2) : Wn (d + 4) 121 (PO M g (nI 0) (some (.int (if fal σ q = true then -1 else nI (stdA σ q))))) (0, lv_args 0 [.ref 114, .int (nI q)], [], M) := by
  have hF := fr_rf [114] M
  have hB := hV.1
  have c9_2 := Bd_2 hB
  have k90 := Bd_90 hB
  have f9 := Bd_q hB q (by omega)
  have g9 := Bd_c hB (σ (160 + q)) (by omega)
  have k6 := Bd_6 hB
  have hbr : ¬ fal σ q = true → ld σ (σ (160 + q)) ≤ σ (96 + σ (160 + q)) := hV.2.2.2 q hq
  refine Wn.run (tab := tb_m_stands) rfl 3 (c' := (5, [(0, .ref 114), (1, .int (nI q))], [], (mI M 114 (upd (M.1 114) 0 (nI 0))))) (o := [shp 114 = (0, 10)]) rfl rfl ?_
  generalize hM2 : (mI M 114 (upd (M.1 114) 0 (nI 0))) = M1
  have hk3 := rs_ne hM2 (by decide) hR
  have hk4 := fI_up hM2 hg
  have hF5 := fr_sI hF hM2 (by decide)
  show Wn _ 121 _ (5, [(0, .ref 114), (1, .int (nI q))], [], M1)
  refine Wn.run (tab := tb_m_stands) rfl 2 (c' := (7, [(0, .ref 114), (1, .int (nI q))], [.int (nI q), .ref 114], M1)) (o := []) rfl trivial ?_
  refine Wn.callV (p := 114) (n := 2) (ix := 290) (ci := (10)) (fun r0 M0 => r0 = some (.int (nI 1)) ∧ M1 = M0) [.int (nI q)] [] rfl rfl rfl rfl (Nat.le_of_ble_eq_true rfl) (Nat.le_of_ble_eq_true rfl) (w_m_isPersonT _ q (by omega) M1 σ ⟨hk3.1, hB⟩ _ ⟨rfl, rfl⟩) ?_
  rintro _ _ ⟨rfl, rfl⟩
  show Wn _ 121 _ (10, [(0, .ref 114), (1, .int (nI q))], [.int (nI 1)], M1)
  refine Wn.run (tab := tb_m_stands) rfl 1 (c' := (if (nI 1) = 0 then 21 else 13, [(0, .ref 114), (1, .int (nI q))], [], M1)) (o := []) rfl trivial ?_
  rw [if_neg (show ¬ ((nI 1) = 0) by decide)]
  show Wn _ 121 _ (13, [(0, .ref 114), (1, .int (nI q))], [], M1)
  refine Wn.run (tab := tb_m_stands) rfl 2 (c' := (15, [(0, .ref 114), (1, .int (nI q))], [.int (nI q), .ref 114], M1)) (o := []) rfl trivial ?_
  refine Wn.callV (p := 114) (n := 2) (ix := 260) (ci := (10)) (fun r0 M0 => r0 = some (.int (b2 (fal σ q = true))) ∧ M1 = M0) [.int (nI q)] [] rfl rfl rfl rfl (Nat.le_of_ble_eq_true rfl) (Nat.le_of_ble_eq_true rfl) (w_m_hasFallen _ q (by omega) M1 σ ⟨hk3.1, hB⟩ _ ⟨rfl, rfl⟩) ?_
  rintro _ _ ⟨rfl, rfl⟩
  show Wn _ 121 _ (18, [(0, .ref 114), (1, .int (nI q))], [.int (b2 (fal σ q = true))], M1)
  refine Wn.run (tab := tb_m_stands) rfl 1 (c' := (if (b2 (fal σ q = true)) = 0 then 23 else 21, [(0, .ref 114), (1, .int (nI q))], [], M1)) (o := []) rfl trivial ?_
  refine Wn.br (fun h1 => ?_) (fun h1 => ?_)
  · show Wn _ 121 _ (23, [(0, .ref 114), (1, .int (nI q))], [], M1)
    have h1 := b2_neg h1
    have hb9 := hbr h1
    refine Wn.run (tab := tb_m_stands) rfl 12 (c' := (42, [(0, .ref 114), (1, .int (nI q))], [.int ((M1.1 116 6) - (M1.1 116 (((nI 172) + (nI q))).toNatClampNeg)), .int (nI 0)], M1)) (o := [shp 114 = (0, 10), aok shp 116 0 (nI 6), shp 114 = (0, 10), aok shp 116 0 ((nI 172) + (nI q))]) rfl ⟨rfl, ⟨rfl, vp_in_nI (by decide) (by decide)⟩, rfl, (ak1 (n := 359) rfl rfl (n_add rfl rfl) (by omega))⟩ ?_
    have c9_6 := Bd_6 hB
    rw [show (M1.1 116 6) = (nI (σ 6)) from (rd0 hk3.1 (by omega))]
    have f9 := Bd_q hB q (by omega)
    rw [show (M1.1 116 (((nI 172) + (nI q))).toNatClampNeg) = (nI (σ (172 + q))) from (rd1 hk3.1 (n_add rfl rfl) (by omega) (by omega))]
    refine Wn.callS (n := 2) (ix := 272) (fun r0 M0 => r0 = some (.int (nI ((σ 6) - (σ (172 + q))))) ∧ M1 = M0) [.int (nI 0), .int ((nI (σ 6)) - (nI (σ (172 + q))))] [] rfl rfl rfl (Nat.le_of_ble_eq_true rfl) (Nat.le_of_ble_eq_true rfl) (w_m_max0 _ (σ 6) (σ (172 + q)) (by omega) (by omega) M1 _ ⟨rfl, rfl⟩) ?_
    rintro _ _ ⟨rfl, rfl⟩
    show Wn _ 121 _ (45, [(0, .ref 114), (1, .int (nI q))], [.int (nI ((σ 6) - (σ (172 + q))))], M1)
    have f9 := Bd_q hB q (by omega)
    refine Wn.run (tab := tb_m_stands) rfl 19 (c' := (75, [(0, .ref 114), (1, .int (nI q))], [.int (M1.1 116 (((nI 160) + (nI q))).toNatClampNeg), .ref 114, .int ((nI ((σ 6) - (σ (172 + q)))) + (M1.1 116 (((nI 96) + (M1.1 116 (((nI 160) + (nI q))).toNatClampNeg))).toNatClampNeg))], M1)) (o := [shp 114 = (0, 10), shp 114 = (0, 10), aok shp 116 0 ((nI 160) + (nI q)), aok shp 116 0 ((nI 96) + (M1.1 116 (((nI 160) + (nI q))).toNatClampNeg)), shp 114 = (0, 10), aok shp 116 0 ((nI 160) + (nI q))]) rfl ⟨rfl, rfl, (ak1 (n := 359) rfl rfl (n_add rfl rfl) (by omega)), (ak1 (n := 359) rfl rfl (n_add rfl (rd1 hk3.1 (n_add rfl rfl) (by omega) (by omega))) (by omega)), rfl, (ak1 (n := 359) rfl rfl (n_add rfl rfl) (by omega))⟩ ?_
    have f9 := Bd_q hB q (by omega)
    rw [show (M1.1 116 (((nI 160) + (nI q))).toNatClampNeg) = (nI (σ (160 + q))) from (rd1 hk3.1 (n_add rfl rfl) (by omega) (by omega))]
    have f9 := Bd_q hB q (by omega)
    have g9 := Bd_c hB (σ (160 + q)) (by omega)
    rw [show (M1.1 116 (((nI 96) + (nI (σ (160 + q))))).toNatClampNeg) = (nI (σ (96 + (σ (160 + q))))) from (rd1 hk3.1 (n_add rfl rfl) (by omega) (by omega))]
    have c9_6 := Bd_6 hB
    have f9 := Bd_q hB q (by omega)
    have f9 := Bd_q hB q (by omega)
    have g9 := Bd_c hB (σ (160 + q)) (by omega)
    rw [show ((nI ((σ 6) - (σ (172 + q)))) + (nI (σ (96 + (σ (160 + q)))))) = (nI (((σ 6) - (σ (172 + q))) + (σ (96 + (σ (160 + q)))))) from (n_add rfl rfl)]
    refine Wn.callV (p := 114) (n := 2) (ix := 269) (ci := (10)) (fun r0 M0 => r0 = some (.int (nI (ld σ (σ (160 + q))))) ∧ M1 = M0) [.int (nI (σ (160 + q)))] [.int (nI (((σ 6) - (σ (172 + q))) + (σ (96 + (σ (160 + q))))))] rfl rfl rfl rfl (Nat.le_of_ble_eq_true rfl) (Nat.le_of_ble_eq_true rfl) (w_m_loadsOn _ (σ (160 + q)) (by omega) M1 σ ⟨hk3.1, hB⟩ _ ⟨rfl, rfl⟩) ?_
    rintro _ _ ⟨rfl, rfl⟩
    show Wn _ 121 _ (78, [(0, .ref 114), (1, .int (nI q))], [.int (nI (ld σ (σ (160 + q)))), .int (nI (((σ 6) - (σ (172 + q))) + (σ (96 + (σ (160 + q))))))], M1)
    have r9 := ld_le hB (σ (160 + q))
    refine Wn.run (tab := tb_m_stands) rfl 1 (c' := (79, [(0, .ref 114), (1, .int (nI q))], [.int ((nI (((σ 6) - (σ (172 + q))) + (σ (96 + (σ (160 + q)))))) - (nI (ld σ (σ (160 + q)))))], M1)) (o := []) rfl trivial ?_
    have c9_6 := Bd_6 hB
    have f9 := Bd_q hB q (by omega)
    have f9 := Bd_q hB q (by omega)
    have g9 := Bd_c hB (σ (160 + q)) (by omega)
    have r9 := ld_le hB (σ (160 + q))
    rw [show ((nI (((σ 6) - (σ (172 + q))) + (σ (96 + (σ (160 + q)))))) - (nI (ld σ (σ (160 + q))))) = (nI ((((σ 6) - (σ (172 + q))) + (σ (96 + (σ (160 + q))))) - (ld σ (σ (160 + q))))) from (n_sub rfl rfl (by omega))]
    exact Wn.iret rfl ⟨by rw [if_neg h1]; rfl, by rw [hk4]; exact pk_us, by rw [hk4]; exact (Gx_up (Gx_rf _ _) (by decide)), hF5⟩
  · show Wn _ 121 _ (21, [(0, .ref 114), (1, .int (nI q))], [], M1)
    have h1 := b2_pos h1
    refine Wn.run (tab := tb_m_stands) rfl 1 (c' := (22, [(0, .ref 114), (1, .int (nI q))], [.int (-1 : Int32)], M1)) (o := []) rfl trivial ?_
    exact Wn.iret rfl ⟨by rw [if_pos h1], by rw [hk4]; exact pk_us, by rw [hk4]; exact (Gx_up (Gx_rf _ _) (by decide)), hF5⟩
set_option maxRecDepth 20000 in
theorem c_m_standsP (d : Nat) (M : Mm) (f0 g : Nat → Int32) (σ : Nat → Nat) (hR : Rs f0 (M.1 116) σ) (hV : Inv σ) (hg : M.1 114 = g) (q : Int32) (hnp : ¬ pI σ q) : Wn (d + 2) 121 (PO M g (nI 0) (some (.int (-1)))) (0, lv_args 0 [.ref 114, .int q], [], M) := by
  have hF := fr_rf [114] M
  have hB := hV.1
  have c9_2 := Bd_2 hB
  have k90 := Bd_90 hB
  refine Wn.run (tab := tb_m_stands) rfl 3 (c' := (5, [(0, .ref 114), (1, .int q)], [], (mI M 114 (upd (M.1 114) 0 (nI 0))))) (o := [shp 114 = (0, 10)]) rfl rfl ?_
  generalize hM2 : (mI M 114 (upd (M.1 114) 0 (nI 0))) = M1
  have hk3 := rs_ne hM2 (by decide) hR
  have hk4 := fI_up hM2 hg
  have hF5 := fr_sI hF hM2 (by decide)
  show Wn _ 121 _ (5, [(0, .ref 114), (1, .int q)], [], M1)
  refine Wn.run (tab := tb_m_stands) rfl 2 (c' := (7, [(0, .ref 114), (1, .int q)], [.int q, .ref 114], M1)) (o := []) rfl trivial ?_
  refine Wn.callV (p := 114) (n := 2) (ix := 290) (ci := (10)) (fun r0 M0 => r0 = some (.int (nI 0)) ∧ M1 = M0) [.int q] [] rfl rfl rfl rfl (Nat.le_of_ble_eq_true rfl) (Nat.le_of_ble_eq_true rfl) (w_m_isPersonF _ q hnp M1 σ ⟨hk3.1, hB⟩ _ ⟨rfl, rfl⟩) ?_
  rintro _ _ ⟨rfl, rfl⟩
  show Wn _ 121 _ (10, [(0, .ref 114), (1, .int q)], [.int (nI 0)], M1)
  refine Wn.run (tab := tb_m_stands) rfl 1 (c' := (if (nI 0) = 0 then 21 else 13, [(0, .ref 114), (1, .int q)], [], M1)) (o := []) rfl trivial ?_
  rw [if_pos (show (nI 0) = 0 by decide)]
  show Wn _ 121 _ (21, [(0, .ref 114), (1, .int q)], [], M1)
  refine Wn.run (tab := tb_m_stands) rfl 1 (c' := (22, [(0, .ref 114), (1, .int q)], [.int (-1 : Int32)], M1)) (o := []) rfl trivial ?_
  exact Wn.iret rfl ⟨rfl, by rw [hk4]; exact pk_us, by rw [hk4]; exact (Gx_up (Gx_rf _ _) (by decide)), hF5⟩
