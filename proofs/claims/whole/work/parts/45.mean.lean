/-! The mean: Euclid. -/
theorem gcd_st {X Y G : Nat} (h : Nat.gcd X Y = G) : Nat.gcd Y (X % Y) = G := by
  rw [← h, Nat.gcd_comm X Y, Nat.gcd_rec Y X, Nat.gcd_comm]
theorem gcd_en {X Y G : Nat} (h : Nat.gcd X Y = G) (h0 : Y = 0) : X = G := by
  rw [h0, Nat.gcd_zero_right] at h
  exact h
def meaA (σ : Nat → Nat) (w : Nat) : Nat := (if w = 0 then aiN σ 64 else σ 0 * σ 1) / Nat.gcd (σ 0 * σ 1) (aiN σ 64)
theorem aiN_le {σ : Nat → Nat} (hB : Bd σ) : ∀ n, n ≤ 64 → aiN σ n ≤ 9 * n
  | 0, _ => Nat.le_refl 0
  | n + 1, hn => by
    have ih := aiN_le hB n (by omega)
    have g9 := Bd_c hB n (by omega)
    unfold aiN
    omega
theorem wh_le {a b : Nat} (h1 : 2 ≤ a ∧ a ≤ 8) (h2 : 2 ≤ b ∧ b ≤ 8) : 4 ≤ a * b ∧ a * b ≤ 64 := ⟨Nat.mul_le_mul h1.1 h2.1, Nat.mul_le_mul h1.2 h2.2⟩
/-- how far Euclid's numbers fall -/
theorem euc {X Y z : Nat} (hy : 0 < Y) (h : Y < X ∧ X * Y * 2 ^ z < 65536) : X % Y < Y ∧ Y * (X % Y) * 2 ^ (z + 1) < 65536 := by
  have h1 := Nat.mod_lt X hy
  refine ⟨h1, Nat.lt_of_le_of_lt ?_ h.2⟩
  have h2 : 2 * (X % Y) ≤ X := by
    have h3 := Nat.div_add_mod X Y
    have h4 : 1 ≤ X / Y := (Nat.one_le_div_iff hy).mpr (by omega)
    have h5 : Y * 1 ≤ Y * (X / Y) := Nat.mul_le_mul_left Y h4
    omega
  rw [Nat.pow_succ, ← Nat.mul_assoc, Nat.mul_right_comm]
  refine Nat.mul_le_mul_right _ ?_
  rw [Nat.mul_assoc, Nat.mul_comm (X % Y) 2, Nat.mul_comm X Y]
  exact Nat.mul_le_mul_left Y h2
theorem euc_big {X Y z : Nat} (hy : 0 < Y) (hx : Y < X) (hz : 16 ≤ z) (h : X * Y * 2 ^ z < 65536) : False := by
  have h1 : 2 ^ 16 ≤ 2 ^ z := Nat.pow_le_pow_right (by decide) hz
  have h2 : 1 ≤ X * Y := Nat.mul_pos (by omega) hy
  have h3 : 1 * 2 ^ 16 ≤ X * Y * 2 ^ z := Nat.mul_le_mul h2 h1
  omega
set_option maxRecDepth 20000 in
theorem c_m_mean (d : Nat) (M : Mm) (f0 g : Nat → Int32) (σ : Nat → Nat) (hR : Rs f0 (M.1 116) σ) (hV : Inv σ) (hg : M.1 114 = g) (w : Nat) (hw : w < 2) : Wn (d + 1) 122 (PO M g (nI 0) (some (.int (nI (meaA σ w))))) (0, lv_args 0 [.ref 114, .int (nI w)], [], M) := by
  have hF := fr_rf [114] M
  have hB := hV.1
  have c9_2 := Bd_2 hB
  have k90 := Bd_90 hB
  have k0 := Bd_0 hB
  have k1 := Bd_1 hB
  have wh := wh_le k0 k1
  have ai9 := aiN_le hB 64 (Nat.le_refl _)
  refine Wn.run (tab := tb_m_mean) rfl 4 (c' := (4, [(0, .ref 114), (1, .int (nI w))], [.int (nI 1), .int (nI 0), .int (nI w), .ref 114], M)) (o := []) rfl trivial ?_
  refine Wn.callS (n := 3) (ix := 194) (fun r0 M0 => r0 = some (.int (b2 (0 ≤ w ∧ w ≤ 1))) ∧ M = M0) [.int (nI w), .int (nI 0), .int (nI 1)] [.ref 114] rfl rfl rfl (Nat.le_of_ble_eq_true rfl) (Nat.le_of_ble_eq_true rfl) (w_m_isInN _ w 0 1 (by omega) (by omega) (by omega) M _ ⟨rfl, rfl⟩) ?_
  rintro _ _ ⟨rfl, rfl⟩
  show Wn _ 122 _ (7, [(0, .ref 114), (1, .int (nI w))], [.int (b2 (0 ≤ w ∧ w ≤ 1)), .ref 114], M)
  refine Wn.run (tab := tb_m_mean) rfl 1 (c' := (if ¬ (b2 (0 ≤ w ∧ w ≤ 1)) = 0 then 14 else 10, [(0, .ref 114), (1, .int (nI w))], [.ref 114], M)) (o := []) rfl trivial ?_
  rw [if_pos (b2_n0.mpr (by omega))]
  show Wn _ 122 _ (14, [(0, .ref 114), (1, .int (nI w))], [.ref 114], M)
  refine Wn.run (tab := tb_m_mean) rfl 1 (c' := (15, [(0, .ref 114), (1, .int (nI w))], [.int (nI 0), .ref 114], M)) (o := []) rfl trivial ?_
  refine Wn.callV (p := 114) (n := 2) (ix := 293) (ci := (10)) (PTh M g (nI 0)) [.int (nI 0)] [] rfl rfl rfl rfl (Nat.le_of_ble_eq_true rfl) (Nat.le_of_ble_eq_true rfl) (c_m_throwsIf0 _ M g hg) ?_
  rintro _ M2 ⟨rfl, hg3, hF4⟩
  show Wn _ 122 _ (18, [(0, .ref 114), (1, .int (nI w))], [.int (nI 0)], M2)
  have hk5 := fr_rs hF4 (by decide) hR
  have hF6 := fr_tr hF hF4 (by decide)
  refine Wn.run (tab := tb_m_mean) rfl 1 (c' := (if (nI 0) = 0 then 23 else 21, [(0, .ref 114), (1, .int (nI w))], [], M2)) (o := []) rfl trivial ?_
  rw [if_pos (show (nI 0) = 0 by decide)]
  show Wn _ 122 _ (23, [(0, .ref 114), (1, .int (nI w))], [], M2)
  refine Wn.run (tab := tb_m_mean) rfl 11 (c' := (38, [(2, .int ((M2.1 116 0) * (M2.1 116 1))), (0, .ref 114), (1, .int (nI w))], [.ref 114], M2)) (o := [shp 114 = (0, 10), aok shp 116 0 (nI 0), shp 114 = (0, 10), aok shp 116 0 (nI 1)]) rfl ⟨rfl, ⟨rfl, vp_in_nI (by decide) (by decide)⟩, rfl, ⟨rfl, vp_in_nI (by decide) (by decide)⟩⟩ ?_
  have c9_0 := Bd_0 hB
  rw [show (M2.1 116 0) = (nI (σ 0)) from (rd0 hk5.1 (by omega))]
  have c9_1 := Bd_1 hB
  rw [show (M2.1 116 1) = (nI (σ 1)) from (rd0 hk5.1 (by omega))]
  have c9_0 := Bd_0 hB
  have c9_1 := Bd_1 hB
  rw [show ((nI (σ 0)) * (nI (σ 1))) = (nI ((σ 0) * (σ 1))) from (n_mul rfl rfl)]
  refine Wn.callV (p := 114) (n := 1) (ix := 303) (ci := (10)) (fun r0 M0 => r0 = some (.int (nI (aiN σ 64))) ∧ M2 = M0) [] [] rfl rfl rfl rfl (Nat.le_of_ble_eq_true rfl) (Nat.le_of_ble_eq_true rfl) (w_m_allIce _  M2 σ ⟨hk5.1, hB⟩ _ ⟨rfl, rfl⟩) ?_
  rintro _ _ ⟨rfl, rfl⟩
  show Wn _ 122 _ (41, [(2, .int (nI ((σ 0) * (σ 1)))), (0, .ref 114), (1, .int (nI w))], [.int (nI (aiN σ 64))], M2)
  refine Wn.run (tab := tb_m_mean) rfl 1 (c' := (42, [(3, .int (nI (aiN σ 64))), (2, .int (nI ((σ 0) * (σ 1)))), (0, .ref 114), (1, .int (nI w))], [], M2)) (o := []) rfl trivial ?_
  have loop : ∀ (m : Nat) (X Y : Nat), Y = m → (X < 65536) → (Y < 65536) → (0 < X) → (Nat.gcd X Y = (Nat.gcd (σ 0 * σ 1) (aiN σ 64))) → Wn (d + 1) 122 (PO M g (nI 0) (some (.int (nI (meaA σ w))))) (42, [(3, .int (nI Y)), (2, .int (nI X)), (0, .ref 114), (1, .int (nI w))], [], M2) := by
    intro m
    induction m using Nat.strongRecOn with
    | _ m ih =>
      intro X Y hm loop_0 loop_1 loop_2 loop_3
      refine Wn.run (tab := tb_m_mean) rfl 2 (c' := (if (nI Y) = 0 then 59 else 46, [(3, .int (nI Y)), (2, .int (nI X)), (0, .ref 114), (1, .int (nI w))], [], M2)) (o := []) rfl trivial ?_
      refine Wn.br (fun h1 => ?_) (fun h1 => ?_)
      · show Wn _ 122 _ (59, [(3, .int (nI Y)), (2, .int (nI X)), (0, .ref 114), (1, .int (nI w))], [], M2)
        have h1 := (n_eq rfl nI_0.symm (by omega) (by omega)).mp h1
        have h1 : Y = 0 := by omega
        refine Wn.run (tab := tb_m_mean) rfl 2 (c' := (if ¬ (nI w) = 0 then 70 else 63, [(3, .int (nI Y)), (2, .int (nI X)), (0, .ref 114), (1, .int (nI w))], [], M2)) (o := []) rfl trivial ?_
        refine Wn.br (fun h2 => ?_) (fun h2 => ?_)
        · show Wn _ 122 _ (70, [(3, .int (nI Y)), (2, .int (nI X)), (0, .ref 114), (1, .int (nI w))], [], M2)
          have h2 := mt (n_eq rfl nI_0.symm (by omega) (by omega)).mpr h2
          refine Wn.run (tab := tb_m_mean) rfl 11 (c' := (85, [(3, .int (nI Y)), (2, .int (nI X)), (0, .ref 114), (1, .int (nI w))], [.int (((M2.1 116 0) * (M2.1 116 1)) / (nI X))], M2)) (o := [shp 114 = (0, 10), aok shp 116 0 (nI 0), shp 114 = (0, 10), aok shp 116 0 (nI 1), ¬ (nI X) = 0]) rfl ⟨rfl, ⟨rfl, vp_in_nI (by decide) (by decide)⟩, rfl, ⟨rfl, vp_in_nI (by decide) (by decide)⟩, (n_ne0 rfl (by omega) (by omega))⟩ ?_
          have c9_0 := Bd_0 hB
          rw [show (M2.1 116 0) = (nI (σ 0)) from (rd0 hk5.1 (by omega))]
          have c9_1 := Bd_1 hB
          rw [show (M2.1 116 1) = (nI (σ 1)) from (rd0 hk5.1 (by omega))]
          have c9_0 := Bd_0 hB
          have c9_1 := Bd_1 hB
          rw [show (((nI (σ 0)) * (nI (σ 1))) / (nI X)) = (nI (((σ 0) * (σ 1)) / X)) from (n_div (n_mul rfl rfl) rfl (by omega) (by omega) (by omega))]
          have e9 := gcd_en loop_3 h1
          have e8 : meaA σ w = (((σ 0) * (σ 1)) / X) := by unfold meaA; rw [if_neg (by omega), e9]
          exact Wn.iret rfl ⟨by rw [e8], by rw [hg3]; exact pk_us, by rw [hg3]; exact (Gx_up (Gx_rf _ _) (by decide)), hF6⟩
        · show Wn _ 122 _ (63, [(3, .int (nI Y)), (2, .int (nI X)), (0, .ref 114), (1, .int (nI w))], [], M2)
          have h2 := (n_eq rfl nI_0.symm (by omega) (by omega)).mp (Classical.not_not.mp h2)
          refine Wn.run (tab := tb_m_mean) rfl 1 (c' := (64, [(3, .int (nI Y)), (2, .int (nI X)), (0, .ref 114), (1, .int (nI w))], [.ref 114], M2)) (o := []) rfl trivial ?_
          refine Wn.callV (p := 114) (n := 1) (ix := 303) (ci := (10)) (fun r0 M0 => r0 = some (.int (nI (aiN σ 64))) ∧ M2 = M0) [] [] rfl rfl rfl rfl (Nat.le_of_ble_eq_true rfl) (Nat.le_of_ble_eq_true rfl) (w_m_allIce _  M2 σ ⟨hk5.1, hB⟩ _ ⟨rfl, rfl⟩) ?_
          rintro _ _ ⟨rfl, rfl⟩
          show Wn _ 122 _ (67, [(3, .int (nI Y)), (2, .int (nI X)), (0, .ref 114), (1, .int (nI w))], [.int (nI (aiN σ 64))], M2)
          refine Wn.run (tab := tb_m_mean) rfl 3 (c' := (85, [(3, .int (nI Y)), (2, .int (nI X)), (0, .ref 114), (1, .int (nI w))], [.int ((nI (aiN σ 64)) / (nI X))], M2)) (o := [¬ (nI X) = 0]) rfl (n_ne0 rfl (by omega) (by omega)) ?_
          rw [show ((nI (aiN σ 64)) / (nI X)) = (nI ((aiN σ 64) / X)) from (n_div rfl rfl (by omega) (by omega) (by omega))]
          have e9 := gcd_en loop_3 h1
          have e8 : meaA σ w = ((aiN σ 64) / X) := by unfold meaA; rw [if_pos (by omega), e9]
          exact Wn.iret rfl ⟨by rw [e8], by rw [hg3]; exact pk_us, by rw [hg3]; exact (Gx_up (Gx_rf _ _) (by decide)), hF6⟩
      · show Wn _ 122 _ (46, [(3, .int (nI Y)), (2, .int (nI X)), (0, .ref 114), (1, .int (nI w))], [], M2)
        have h1 := mt (n_eq rfl nI_0.symm (by omega) (by omega)).mpr h1
        refine Wn.run (tab := tb_m_mean) rfl 9 (c' := (42, [(3, .int ((nI X) - (nI X) / (nI Y) * (nI Y))), (2, .int (nI Y)), (4, .int ((nI X) - (nI X) / (nI Y) * (nI Y))), (0, .ref 114), (1, .int (nI w))], [], M2)) (o := [¬ (nI Y) = 0]) rfl (n_ne0 rfl (by omega) (by omega)) ?_
        rw [show ((nI X) - (nI X) / (nI Y) * (nI Y)) = (nI (X % Y)) from (n_rem rfl rfl (by omega) (by omega) (by omega))]
        refine Wn.lvp [0, 1, 3, 4] (lv' := [(3, .int (nI (X % Y))), (2, .int (nI Y)), (0, .ref 114), (1, .int (nI w))]) rfl ?_
        exact ih _ (by have := Nat.mod_lt X (show 0 < Y by omega); omega) Y (X % Y) rfl (by omega) (by have := Nat.mod_lt X (show 0 < Y by omega); omega) (by omega) (gcd_st loop_3)
  exact loop _ (σ 0 * σ 1) (aiN σ 64) rfl (by omega) (by omega) (by omega) rfl
set_option maxRecDepth 20000 in
theorem c_m_meanW (d : Nat) (M : Mm) (f0 g : Nat → Int32) (σ : Nat → Nat) (hR : Rs f0 (M.1 116) σ) (hV : Inv σ) (hg : M.1 114 = g) (w : Int32) (hns : ¬ ((nI 0).toInt ≤ w.toInt ∧ w.toInt ≤ (nI 1).toInt)) : Wn (d + 1) 122 (PO M g (nI 1) (some (.int (nI 0)))) (0, lv_args 0 [.ref 114, .int w], [], M) := by
  have hF := fr_rf [114] M
  have hB := hV.1
  have c9_2 := Bd_2 hB
  have k90 := Bd_90 hB
  refine Wn.run (tab := tb_m_mean) rfl 4 (c' := (4, [(0, .ref 114), (1, .int w)], [.int (nI 1), .int (nI 0), .int w, .ref 114], M)) (o := []) rfl trivial ?_
  refine Wn.callS (n := 3) (ix := 194) (fun r0 M0 => r0 = some (.int (b2 ((nI 0).toInt ≤ w.toInt ∧ w.toInt ≤ (nI 1).toInt))) ∧ M = M0) [.int w, .int (nI 0), .int (nI 1)] [.ref 114] rfl rfl rfl (Nat.le_of_ble_eq_true rfl) (Nat.le_of_ble_eq_true rfl) (w_m_isInT _ w (nI 0) (nI 1) M _ ⟨rfl, rfl⟩) ?_
  rintro _ _ ⟨rfl, rfl⟩
  show Wn _ 122 _ (7, [(0, .ref 114), (1, .int w)], [.int (b2 ((nI 0).toInt ≤ w.toInt ∧ w.toInt ≤ (nI 1).toInt)), .ref 114], M)
  refine Wn.run (tab := tb_m_mean) rfl 1 (c' := (if ¬ (b2 ((nI 0).toInt ≤ w.toInt ∧ w.toInt ≤ (nI 1).toInt)) = 0 then 14 else 10, [(0, .ref 114), (1, .int w)], [.ref 114], M)) (o := []) rfl trivial ?_
  rw [if_neg (by rw [b2_f hns]; decide)]
  show Wn _ 122 _ (10, [(0, .ref 114), (1, .int w)], [.ref 114], M)
  refine Wn.run (tab := tb_m_mean) rfl 2 (c' := (15, [(0, .ref 114), (1, .int w)], [.int (nI 1), .ref 114], M)) (o := []) rfl trivial ?_
  refine Wn.callV (p := 114) (n := 2) (ix := 293) (ci := (10)) (PTh M g (nI 1)) [.int (nI 1)] [] rfl rfl rfl rfl (Nat.le_of_ble_eq_true rfl) (Nat.le_of_ble_eq_true rfl) (c_m_throwsIf1 _ M g hg) ?_
  rintro _ M1 ⟨rfl, hg2, hF3⟩
  show Wn _ 122 _ (18, [(0, .ref 114), (1, .int w)], [.int (nI 1)], M1)
  have hk4 := fr_rs hF3 (by decide) hR
  have hF5 := fr_tr hF hF3 (by decide)
  refine Wn.run (tab := tb_m_mean) rfl 1 (c' := (if (nI 1) = 0 then 23 else 21, [(0, .ref 114), (1, .int w)], [], M1)) (o := []) rfl trivial ?_
  rw [if_neg (show ¬ ((nI 1) = 0) by decide)]
  show Wn _ 122 _ (21, [(0, .ref 114), (1, .int w)], [], M1)
  refine Wn.run (tab := tb_m_mean) rfl 1 (c' := (22, [(0, .ref 114), (1, .int w)], [.int (nI 0)], M1)) (o := []) rfl trivial ?_
  exact Wn.iret rfl ⟨rfl, by rw [hg2]; exact pk_us, by rw [hg2]; exact (Gx_up (Gx_rf _ _) (by decide)), hF5⟩
set_option maxRecDepth 20000 in
theorem c_i_greatestDivisor (d : Nat) (M : Mm) (a b : Nat) (ha : 0 < a) (ha2 : a ≤ 64) (hb : b ≤ 600) : Wn (d + 0) 9 (PN M (some (.int (nI (Nat.gcd a b))))) (0, lv_args 0 [.int (nI a), .int (nI b)], [], M) := by
  refine Wn.run (tab := tb_i_greatestDivisor) rfl 6 (c' := (7, [(4, .int (nI 0)), (3, .int (nI b)), (2, .int (nI a)), (0, .int (nI a)), (1, .int (nI b))], [], M)) (o := []) rfl trivial ?_
  have loop : ∀ (m : Nat) (X Y z : Nat), 64 - z = m → (X < 65536) → (Y < 65536) → (0 < X) → (Nat.gcd X Y = Nat.gcd a b) → (z ≤ 64) → ((z = 0 ∧ X = a ∧ Y = b) ∨ (1 ≤ z ∧ Y < X ∧ X * Y * 2 ^ (z - 1) < 65536)) → Wn (d + 0) 9 (PN M (some (.int (nI (Nat.gcd a b))))) (7, [(4, .int (nI z)), (3, .int (nI Y)), (2, .int (nI X)), (0, .int (nI a)), (1, .int (nI b))], [], M) := by
    intro m
    induction m using Nat.strongRecOn with
    | _ m ih =>
      intro X Y z hm loop_0 loop_1 loop_2 loop_3 loop_4 loop_5
      refine Wn.run (tab := tb_i_greatestDivisor) rfl 3 (c' := (if (nI 64) ≤ (nI z) then 34 else 14, [(4, .int (nI z)), (3, .int (nI Y)), (2, .int (nI X)), (0, .int (nI a)), (1, .int (nI b))], [], M)) (o := []) rfl trivial ?_
      refine Wn.br (fun h1 => ?_) (fun h1 => ?_)
      · show Wn _ 9 _ (34, [(4, .int (nI z)), (3, .int (nI Y)), (2, .int (nI X)), (0, .int (nI a)), (1, .int (nI b))], [], M)
        have h1 := (n_le rfl rfl (by omega) (by omega)).mp h1
        have h0 : Y = 0 := by
          rcases Nat.eq_zero_or_pos Y with q9 | q9
          · exact q9
          · rcases loop_5 with ⟨q1, q2, q3⟩ | ⟨q1, q2, q3⟩
            · omega
            · exact absurd (euc_big q9 q2 (by omega) q3) id
        have e9 := gcd_en loop_3 h0
        refine Wn.run (tab := tb_i_greatestDivisor) rfl 2 (c' := (if (nI X) ≤ 0 then 42 else 38, [(4, .int (nI z)), (3, .int (nI Y)), (2, .int (nI X)), (0, .int (nI a)), (1, .int (nI b))], [], M)) (o := []) rfl trivial ?_
        refine Wn.br (fun h2 => ?_) (fun h2 => ?_)
        · show Wn _ 9 _ (42, [(4, .int (nI z)), (3, .int (nI Y)), (2, .int (nI X)), (0, .int (nI a)), (1, .int (nI b))], [], M)
          have h2 := (n_le rfl nI_0.symm (by omega) (by omega)).mp h2
          refine Wn.run (tab := tb_i_greatestDivisor) rfl 1 (c' := (43, [(4, .int (nI z)), (3, .int (nI Y)), (2, .int (nI X)), (0, .int (nI a)), (1, .int (nI b))], [.int (nI 1)], M)) (o := []) rfl trivial ?_
          exact absurd loop_2 (by omega)
        · show Wn _ 9 _ (38, [(4, .int (nI z)), (3, .int (nI Y)), (2, .int (nI X)), (0, .int (nI a)), (1, .int (nI b))], [], M)
          have h2 := mt (n_le rfl nI_0.symm (by omega) (by omega)).mpr h2
          refine Wn.run (tab := tb_i_greatestDivisor) rfl 2 (c' := (43, [(4, .int (nI z)), (3, .int (nI Y)), (2, .int (nI X)), (0, .int (nI a)), (1, .int (nI b))], [.int (nI X)], M)) (o := []) rfl trivial ?_
          exact Wn.iret rfl ⟨by rw [← e9], rfl⟩
      · show Wn _ 9 _ (14, [(4, .int (nI z)), (3, .int (nI Y)), (2, .int (nI X)), (0, .int (nI a)), (1, .int (nI b))], [], M)
        have h1 := mt (n_le rfl rfl (by omega) (by omega)).mpr h1
        refine Wn.run (tab := tb_i_greatestDivisor) rfl 2 (c' := (if (nI Y) ≤ 0 then 34 else 18, [(4, .int (nI z)), (3, .int (nI Y)), (2, .int (nI X)), (0, .int (nI a)), (1, .int (nI b))], [], M)) (o := []) rfl trivial ?_
        refine Wn.br (fun h3 => ?_) (fun h3 => ?_)
        · show Wn _ 9 _ (34, [(4, .int (nI z)), (3, .int (nI Y)), (2, .int (nI X)), (0, .int (nI a)), (1, .int (nI b))], [], M)
          have h3 := (n_le rfl nI_0.symm (by omega) (by omega)).mp h3
          have h0 : Y = 0 := by
            rcases Nat.eq_zero_or_pos Y with q9 | q9
            · exact q9
            · rcases loop_5 with ⟨q1, q2, q3⟩ | ⟨q1, q2, q3⟩
              · omega
              · exact absurd (euc_big q9 q2 (by omega) q3) id
          have e9 := gcd_en loop_3 h0
          refine Wn.run (tab := tb_i_greatestDivisor) rfl 2 (c' := (if (nI X) ≤ 0 then 42 else 38, [(4, .int (nI z)), (3, .int (nI Y)), (2, .int (nI X)), (0, .int (nI a)), (1, .int (nI b))], [], M)) (o := []) rfl trivial ?_
          refine Wn.br (fun h4 => ?_) (fun h4 => ?_)
          · show Wn _ 9 _ (42, [(4, .int (nI z)), (3, .int (nI Y)), (2, .int (nI X)), (0, .int (nI a)), (1, .int (nI b))], [], M)
            have h4 := (n_le rfl nI_0.symm (by omega) (by omega)).mp h4
            refine Wn.run (tab := tb_i_greatestDivisor) rfl 1 (c' := (43, [(4, .int (nI z)), (3, .int (nI Y)), (2, .int (nI X)), (0, .int (nI a)), (1, .int (nI b))], [.int (nI 1)], M)) (o := []) rfl trivial ?_
            exact absurd loop_2 (by omega)
          · show Wn _ 9 _ (38, [(4, .int (nI z)), (3, .int (nI Y)), (2, .int (nI X)), (0, .int (nI a)), (1, .int (nI b))], [], M)
            have h4 := mt (n_le rfl nI_0.symm (by omega) (by omega)).mpr h4
            refine Wn.run (tab := tb_i_greatestDivisor) rfl 2 (c' := (43, [(4, .int (nI z)), (3, .int (nI Y)), (2, .int (nI X)), (0, .int (nI a)), (1, .int (nI b))], [.int (nI X)], M)) (o := []) rfl trivial ?_
            exact Wn.iret rfl ⟨by rw [← e9], rfl⟩
        · show Wn _ 9 _ (18, [(4, .int (nI z)), (3, .int (nI Y)), (2, .int (nI X)), (0, .int (nI a)), (1, .int (nI b))], [], M)
          have h3 := mt (n_le rfl nI_0.symm (by omega) (by omega)).mpr h3
          refine Wn.run (tab := tb_i_greatestDivisor) rfl 10 (c' := (7, [(4, .int ((nI z) + (nI 1))), (3, .int ((nI X) - (nI X) / (nI Y) * (nI Y))), (2, .int (nI Y)), (5, .int ((nI X) - (nI X) / (nI Y) * (nI Y))), (0, .int (nI a)), (1, .int (nI b))], [], M)) (o := [¬ (nI Y) = 0]) rfl (n_ne0 rfl (by omega) (by omega)) ?_
          rw [show ((nI X) - (nI X) / (nI Y) * (nI Y)) = (nI (X % Y)) from (n_rem rfl rfl (by omega) (by omega) (by omega))]
          rw [show ((nI z) + (nI 1)) = (nI (z + 1)) from (n_add rfl rfl)]
          have iv9 : (z + 1 = 0 ∧ Y = a ∧ X % Y = b) ∨ (1 ≤ z + 1 ∧ X % Y < Y ∧ Y * (X % Y) * 2 ^ (z + 1 - 1) < 65536) := by
            refine Or.inr ⟨by omega, ?_⟩
            rcases loop_5 with ⟨q1, q2, q3⟩ | ⟨q1, q2, q3⟩
            · refine ⟨Nat.mod_lt _ (by omega), ?_⟩
              have q4 : Y * (X % Y) ≤ 600 * 64 := Nat.mul_le_mul (by omega) (Nat.le_trans (Nat.mod_le X Y) (by omega))
              rw [show z + 1 - 1 = 0 by omega, Nat.pow_zero]; omega
            · have q4 := euc (show 0 < Y by omega) ⟨q2, q3⟩
              rw [show z - 1 + 1 = z + 1 - 1 by omega] at q4
              exact q4
          refine Wn.lvp [0, 1, 2, 4, 5] (lv' := [(4, .int (nI (z + 1))), (3, .int (nI (X % Y))), (2, .int (nI Y)), (0, .int (nI a)), (1, .int (nI b))]) rfl ?_
          exact ih _ (by omega) Y (X % Y) (z + 1) rfl (by omega) (by have := Nat.mod_lt X (show 0 < Y by omega); omega) (by omega) (gcd_st loop_3) (by omega) iv9
  exact loop _ a b 0 rfl (by omega) (by omega) (by omega) rfl (by omega) (Or.inl ⟨rfl, rfl, rfl⟩)
