set_option maxRecDepth 20000 in
theorem w_m_whyBow (d : Nat) (q : Nat) (hq : q < 6) (M : Mm) (σ : Nat → Nat) (hM : Ms M σ) (Q : Po) (hQ : Q (some (.int (nI (wbw σ q)))) M) : Wn (d + 2) 91 Q (0, lv_args 0 [.ref 114, .int (nI q)], [], M) := by
  obtain ⟨hS, hB⟩ := hM
  have hM9 : Ms M σ := ⟨hS, hB⟩
  have c9_2 := Bd_2 hB
  have k92 := Bd_92 hB
  refine Wn.run (tab := tb_m_whyBow) rfl 2 (c' := (2, [(0, .ref 114), (1, .int (nI q))], [.int (nI q), .ref 114], M)) (o := []) rfl trivial ?_
  refine Wn.callV (p := 114) (n := 2) (ix := 260) (ci := (10)) (fun r0 M0 => r0 = some (.int (b2 (fal σ q = true))) ∧ M = M0) [.int (nI q)] [] rfl rfl rfl rfl (Nat.le_of_ble_eq_true rfl) (Nat.le_of_ble_eq_true rfl) (w_m_hasFallen _ q (by omega) M σ hM9 _ ⟨rfl, rfl⟩) ?_
  rintro _ _ ⟨rfl, rfl⟩
  show Wn _ 91 _ (5, [(0, .ref 114), (1, .int (nI q))], [.int (b2 (fal σ q = true))], M)
  refine Wn.run (tab := tb_m_whyBow) rfl 1 (c' := (if (b2 (fal σ q = true)) = 0 then 12 else 8, [(0, .ref 114), (1, .int (nI q))], [], M)) (o := []) rfl trivial ?_
  refine Wn.br (fun h1 => ?_) (fun h1 => ?_)
  · have h1 := b2_neg h1
    refine Wn.run (tab := tb_m_whyBow) rfl 5 (c' := (20, [(0, .ref 114), (1, .int (nI q))], [.int (nI q), .int (M.1 116 92)], M)) (o := [shp 114 = (0, 10), aok shp 116 0 (nI 92)]) rfl ⟨rfl, ⟨rfl, vp_in_nI (by decide) (by decide)⟩⟩ ?_
    have c9_92 := Bd_92 hB
    rw [show (M.1 116 92) = (nI (σ 92)) from (rd0 hS (by omega))]
    refine Wn.callS (n := 2) (ix := 216) (fun r0 M0 => r0 = some (.int (b2 (((σ 92)).testBit q = true))) ∧ M = M0) [.int (nI (σ 92)), .int (nI q)] [] rfl rfl rfl (Nat.le_of_ble_eq_true rfl) (Nat.le_of_ble_eq_true rfl) (w_m_bitN _ (σ 92) q (by omega) (by omega) M _ ⟨rfl, rfl⟩) ?_
    rintro _ _ ⟨rfl, rfl⟩
    show Wn _ 91 _ (23, [(0, .ref 114), (1, .int (nI q))], [.int (b2 (((σ 92)).testBit q = true))], M)
    refine Wn.run (tab := tb_m_whyBow) rfl 1 (c' := (if (b2 (((σ 92)).testBit q = true)) = 0 then 30 else 26, [(0, .ref 114), (1, .int (nI q))], [], M)) (o := []) rfl trivial ?_
    refine Wn.br (fun h2 => ?_) (fun h2 => ?_)
    · have h2 := b2_neg h2
      refine Wn.run (tab := tb_m_whyBow) rfl 1 (c' := (31, [(0, .ref 114), (1, .int (nI q))], [.int (nI 0)], M)) (o := []) rfl trivial ?_
      exact Wn.iret rfl (by rw [show wbw σ q = 0 from by unfold wbw; rw [if_neg h1, if_neg h2]] at hQ; exact hQ)
    · have h2 := b2_pos h2
      refine Wn.run (tab := tb_m_whyBow) rfl 2 (c' := (31, [(0, .ref 114), (1, .int (nI q))], [.int (nI 2)], M)) (o := []) rfl trivial ?_
      exact Wn.iret rfl (by rw [show wbw σ q = 2 from by unfold wbw; rw [if_neg h1, if_pos h2]] at hQ; exact hQ)
  · have h1 := b2_pos h1
    refine Wn.run (tab := tb_m_whyBow) rfl 2 (c' := (31, [(0, .ref 114), (1, .int (nI q))], [.int (nI 1)], M)) (o := []) rfl trivial ?_
    exact Wn.iret rfl (by rw [show wbw σ q = 1 from by unfold wbw; rw [if_pos h1]] at hQ; exact hQ)
set_option maxRecDepth 20000 in
theorem w_m_whyPraise (d : Nat) (q r : Nat) (hq : q < 6) (hr : r < 6) (M : Mm) (σ : Nat → Nat) (hM : Ms M σ) (Q : Po) (hQ : Q (some (.int (nI (wpr σ q r)))) M) : Wn (d + 2) 93 Q (0, lv_args 0 [.ref 114, .int (nI q), .int (nI r)], [], M) := by
  obtain ⟨hS, hB⟩ := hM
  have hM9 : Ms M σ := ⟨hS, hB⟩
  have c9_2 := Bd_2 hB
  refine Wn.run (tab := tb_m_whyPraise) rfl 3 (c' := (if ¬ (nI q) = (nI r) then 9 else 5, [(0, .ref 114), (1, .int (nI q)), (2, .int (nI r))], [], M)) (o := []) rfl trivial ?_
  refine Wn.br (fun h1 => ?_) (fun h1 => ?_)
  · have h1 := mt (n_eq rfl rfl (by omega) (by omega)).mpr h1
    refine Wn.run (tab := tb_m_whyPraise) rfl 2 (c' := (11, [(0, .ref 114), (1, .int (nI q)), (2, .int (nI r))], [.int (nI q), .ref 114], M)) (o := []) rfl trivial ?_
    refine Wn.callV (p := 114) (n := 2) (ix := 260) (ci := (10)) (fun r0 M0 => r0 = some (.int (b2 (fal σ q = true))) ∧ M = M0) [.int (nI q)] [] rfl rfl rfl rfl (Nat.le_of_ble_eq_true rfl) (Nat.le_of_ble_eq_true rfl) (w_m_hasFallen _ q (by omega) M σ hM9 _ ⟨rfl, rfl⟩) ?_
    rintro _ _ ⟨rfl, rfl⟩
    show Wn _ 93 _ (14, [(0, .ref 114), (1, .int (nI q)), (2, .int (nI r))], [.int (b2 (fal σ q = true))], M)
    refine Wn.run (tab := tb_m_whyPraise) rfl 1 (c' := (if ¬ (b2 (fal σ q = true)) = 0 then 25 else 17, [(0, .ref 114), (1, .int (nI q)), (2, .int (nI r))], [], M)) (o := []) rfl trivial ?_
    refine Wn.br (fun h2 => ?_) (fun h2 => ?_)
    · have h2 := b2_pos h2
      refine Wn.run (tab := tb_m_whyPraise) rfl 2 (c' := (61, [(0, .ref 114), (1, .int (nI q)), (2, .int (nI r))], [.int (nI 2)], M)) (o := []) rfl trivial ?_
      exact Wn.iret rfl (by rw [show wpr σ q r = 2 from by unfold wpr; rw [if_neg h1, if_pos (Or.inl h2)]] at hQ; exact hQ)
    · have h2 := b2_nneg h2
      refine Wn.run (tab := tb_m_whyPraise) rfl 2 (c' := (19, [(0, .ref 114), (1, .int (nI q)), (2, .int (nI r))], [.int (nI r), .ref 114], M)) (o := []) rfl trivial ?_
      refine Wn.callV (p := 114) (n := 2) (ix := 260) (ci := (10)) (fun r0 M0 => r0 = some (.int (b2 (fal σ r = true))) ∧ M = M0) [.int (nI r)] [] rfl rfl rfl rfl (Nat.le_of_ble_eq_true rfl) (Nat.le_of_ble_eq_true rfl) (w_m_hasFallen _ r (by omega) M σ hM9 _ ⟨rfl, rfl⟩) ?_
      rintro _ _ ⟨rfl, rfl⟩
      show Wn _ 93 _ (22, [(0, .ref 114), (1, .int (nI q)), (2, .int (nI r))], [.int (b2 (fal σ r = true))], M)
      refine Wn.run (tab := tb_m_whyPraise) rfl 1 (c' := (if (b2 (fal σ r = true)) = 0 then 29 else 25, [(0, .ref 114), (1, .int (nI q)), (2, .int (nI r))], [], M)) (o := []) rfl trivial ?_
      refine Wn.br (fun h3 => ?_) (fun h3 => ?_)
      · have h3 := b2_neg h3
        refine Wn.run (tab := tb_m_whyPraise) rfl 12 (c' := (49, [(0, .ref 114), (1, .int (nI q)), (2, .int (nI r))], [.int (M.1 116 (((nI 160) + (nI r))).toNatClampNeg), .int (M.1 116 (((nI 160) + (nI q))).toNatClampNeg)], M)) (o := [shp 114 = (0, 10), aok shp 116 0 ((nI 160) + (nI q)), shp 114 = (0, 10), aok shp 116 0 ((nI 160) + (nI r))]) rfl ⟨rfl, (ak1 (n := 359) rfl rfl (n_add rfl rfl) (by omega)), rfl, (ak1 (n := 359) rfl rfl (n_add rfl rfl) (by omega))⟩ ?_
        have f9 := Bd_q hB r (by omega)
        rw [show (M.1 116 (((nI 160) + (nI r))).toNatClampNeg) = (nI (σ (160 + r))) from (rd1 hS (n_add rfl rfl) (by omega) (by omega))]
        have f9 := Bd_q hB q (by omega)
        rw [show (M.1 116 (((nI 160) + (nI q))).toNatClampNeg) = (nI (σ (160 + q))) from (rd1 hS (n_add rfl rfl) (by omega) (by omega))]
        refine Wn.callS (n := 2) (ix := 275) (fun r0 M0 => r0 = some (.int (nI (far (σ (160 + q)) (σ (160 + r))))) ∧ M = M0) [.int (nI (σ (160 + q))), .int (nI (σ (160 + r)))] [] rfl rfl rfl (Nat.le_of_ble_eq_true rfl) (Nat.le_of_ble_eq_true rfl) (w_m_apart _ (σ (160 + q)) (σ (160 + r)) (by omega) (by omega) M _ ⟨rfl, rfl⟩) ?_
        rintro _ _ ⟨rfl, rfl⟩
        show Wn _ 93 _ (52, [(0, .ref 114), (1, .int (nI q)), (2, .int (nI r))], [.int (nI (far (σ (160 + q)) (σ (160 + r))))], M)
        refine Wn.run (tab := tb_m_whyPraise) rfl 2 (c' := (if (nI (far (σ (160 + q)) (σ (160 + r)))) ≤ (nI 1) then 60 else 56, [(0, .ref 114), (1, .int (nI q)), (2, .int (nI r))], [], M)) (o := []) rfl trivial ?_
        refine Wn.br (fun h4 => ?_) (fun h4 => ?_)
        · have f9 := Bd_q hB r (by omega)
          have f9 := Bd_q hB q (by omega)
          have r9 := far_lt (σ (160 + q)) (σ (160 + r)) (by omega) (by omega)
          have h4 := (n_le rfl rfl (by omega) (by omega)).mp h4
          refine Wn.run (tab := tb_m_whyPraise) rfl 1 (c' := (61, [(0, .ref 114), (1, .int (nI q)), (2, .int (nI r))], [.int (nI 0)], M)) (o := []) rfl trivial ?_
          exact Wn.iret rfl (by rw [show wpr σ q r = 0 from by unfold wpr; rw [if_neg h1, if_neg (fun h9 => h9.elim h2 h3), if_neg (by omega)]] at hQ; exact hQ)
        · have f9 := Bd_q hB r (by omega)
          have f9 := Bd_q hB q (by omega)
          have r9 := far_lt (σ (160 + q)) (σ (160 + r)) (by omega) (by omega)
          have h4 := mt (n_le rfl rfl (by omega) (by omega)).mpr h4
          refine Wn.run (tab := tb_m_whyPraise) rfl 2 (c' := (61, [(0, .ref 114), (1, .int (nI q)), (2, .int (nI r))], [.int (nI 3)], M)) (o := []) rfl trivial ?_
          exact Wn.iret rfl (by rw [show wpr σ q r = 3 from by unfold wpr; rw [if_neg h1, if_neg (fun h9 => h9.elim h2 h3), if_pos (by omega)]] at hQ; exact hQ)
      · have h3 := b2_pos h3
        refine Wn.run (tab := tb_m_whyPraise) rfl 2 (c' := (61, [(0, .ref 114), (1, .int (nI q)), (2, .int (nI r))], [.int (nI 2)], M)) (o := []) rfl trivial ?_
        exact Wn.iret rfl (by rw [show wpr σ q r = 2 from by unfold wpr; rw [if_neg h1, if_pos (Or.inr h3)]] at hQ; exact hQ)
  · have h1 := (n_eq rfl rfl (by omega) (by omega)).mp (Classical.not_not.mp h1)
    refine Wn.run (tab := tb_m_whyPraise) rfl 2 (c' := (61, [(0, .ref 114), (1, .int (nI q)), (2, .int (nI r))], [.int (nI 1)], M)) (o := []) rfl trivial ?_
    exact Wn.iret rfl (by rw [show wpr σ q r = 1 from by unfold wpr; rw [if_pos h1]] at hQ; exact hQ)
set_option maxRecDepth 20000 in
theorem w_m_allIce (d : Nat)  (M : Mm) (σ : Nat → Nat) (hM : Ms M σ) (Q : Po) (hQ : Q (some (.int (nI (aiN σ 64)))) M) : Wn (d + 0) 86 Q (0, lv_args 0 [.ref 114], [], M) := by
  obtain ⟨hS, hB⟩ := hM
  refine Wn.run (tab := tb_m_allIce) rfl 4 (c' := (4, [(2, .int (nI 0)), (1, .int (nI 0)), (0, .ref 114)], [], M)) (o := []) rfl trivial ?_
  have loop : ∀ (m c : Nat), 64 - c = m → c ≤ 64 → Wn (d + 0) 86 Q (4, [(2, .int (nI c)), (1, .int (nI (aiN σ c))), (0, .ref 114)], [], M) := by
    intro m
    induction m using Nat.strongRecOn with
    | _ m ih =>
      intro c hm hq
      refine Wn.run (tab := tb_m_allIce) rfl 3 (c' := (if (nI 64) ≤ (nI c) then 28 else 10, [(2, .int (nI c)), (1, .int (nI (aiN σ c))), (0, .ref 114)], [], M)) (o := []) rfl trivial ?_
      refine Wn.br (fun h1 => ?_) (fun h1 => ?_)
      · have h1 := (n_le rfl rfl (by omega) (by omega)).mp h1
        refine Wn.run (tab := tb_m_allIce) rfl 1 (c' := (29, [(2, .int (nI c)), (1, .int (nI (aiN σ c))), (0, .ref 114)], [.int (nI (aiN σ c))], M)) (o := []) rfl trivial ?_
        have e9 : c = 64 := by omega
        rw [e9]
        exact Wn.iret rfl hQ
      · have h1 := mt (n_le rfl rfl (by omega) (by omega)).mpr h1
        refine Wn.run (tab := tb_m_allIce) rfl 11 (c' := (4, [(2, .int ((nI c) + (nI 1))), (1, .int ((nI (aiN σ c)) + (M.1 116 (((nI 96) + (nI c))).toNatClampNeg))), (0, .ref 114)], [], M)) (o := [shp 114 = (0, 10), aok shp 116 0 ((nI 96) + (nI c))]) rfl ⟨rfl, (ak1 (n := 359) rfl rfl (n_add rfl rfl) (by omega))⟩ ?_
        have g9 := Bd_c hB c (by omega)
        rw [show ((nI (aiN σ c)) + (M.1 116 (((nI 96) + (nI c))).toNatClampNeg)) = (nI ((aiN σ c) + (σ (96 + c)))) from (n_add rfl (rd1 hS (n_add rfl rfl) (by omega) (by omega)))]
        rw [show ((nI c) + (nI 1)) = (nI (c + 1)) from (n_add rfl rfl)]
        rw [show (nI ((aiN σ c) + (σ (96 + c)))) = (nI (aiN σ (c + 1))) from rfl]
        exact ih (64 - (c + 1)) (by omega) (c + 1) rfl (by omega)
  exact loop (64 - 0) 0 rfl (by omega)
set_option maxRecDepth 20000 in
theorem w_m_beside_0 (d : Nat) (c : Nat) (hc : c < 64) (M : Mm) (σ : Nat → Nat) (hM : Ms M σ) (Q : Po) (hQ : Q (some (.int (oI (bes σ c 0)))) M) : Wn (d + 2) 80 Q (0, lv_args 0 [.ref 114, .int (nI c), .int (nI 0)], [], M) := by
  obtain ⟨hS, hB⟩ := hM
  have hM9 : Ms M σ := ⟨hS, hB⟩
  have c9_2 := Bd_2 hB
  have k0 := Bd_0 hB
  have k1 := Bd_1 hB
  refine Wn.run (tab := tb_m_beside) rfl 5 (c' := (if ¬ (nI 0) = 0 then 12 else 8, [(0, .ref 114), (1, .int (nI c)), (2, .int (nI 0))], [.int ((nI c) - (nI c) / (nI 8) * (nI 8))], M)) (o := [¬ (nI 8) = 0]) rfl (show ¬ (nI 8) = 0 by decide) ?_
  rw [if_neg (show ¬ (¬ (nI 0) = 0) by decide)]
  show Wn _ 80 _ (8, [(0, .ref 114), (1, .int (nI c)), (2, .int (nI 0))], [.int ((nI c) - (nI c) / (nI 8) * (nI 8))], M)
  rw [show ((nI c) - (nI c) / (nI 8) * (nI 8)) = (nI (c % 8)) from (n_rem rfl rfl (by omega) (by omega) (by omega))]
  refine Wn.run (tab := tb_m_beside) rfl 10 (c' := (if ¬ (nI 0) = (nI 1) then 37 else 33, [(3, .int ((nI (c % 8)) + (nI 1))), (0, .ref 114), (1, .int (nI c)), (2, .int (nI 0))], [.int ((nI c) / (nI 8))], M)) (o := [¬ (nI 8) = 0]) rfl (show ¬ (nI 8) = 0 by decide) ?_
  rw [if_pos (show ¬ (nI 0) = (nI 1) by decide)]
  show Wn _ 80 _ (37, [(3, .int ((nI (c % 8)) + (nI 1))), (0, .ref 114), (1, .int (nI c)), (2, .int (nI 0))], [.int ((nI c) / (nI 8))], M)
  rw [show ((nI (c % 8)) + (nI 1)) = (nI ((c % 8) + 1)) from (n_add rfl rfl)]
  rw [show ((nI c) / (nI 8)) = (nI (c / 8)) from (n_div rfl rfl (by omega) (by omega) (by omega))]
  refine Wn.run (tab := tb_m_beside) rfl 3 (c' := (if ¬ (nI 0) = (nI 3) then 46 else 42, [(3, .int (nI ((c % 8) + 1))), (0, .ref 114), (1, .int (nI c)), (2, .int (nI 0))], [.int (nI (c / 8))], M)) (o := []) rfl trivial ?_
  rw [if_pos (show ¬ (nI 0) = (nI 3) by decide)]
  show Wn _ 80 _ (46, [(3, .int (nI ((c % 8) + 1))), (0, .ref 114), (1, .int (nI c)), (2, .int (nI 0))], [.int (nI (c / 8))], M)
  refine Wn.run (tab := tb_m_beside) rfl 6 (c' := (54, [(4, .int ((nI (c / 8)) + (nI 0))), (3, .int (nI ((c % 8) + 1))), (0, .ref 114), (1, .int (nI c)), (2, .int (nI 0))], [.int ((nI (c / 8)) + (nI 0)), .int (nI ((c % 8) + 1)), .ref 114], M)) (o := []) rfl trivial ?_
  rw [show ((nI (c / 8)) + (nI 0)) = (nI ((c / 8) + 0)) from (n_add rfl rfl)]
  refine Wn.callV (p := 114) (n := 3) (ix := 266) (ci := (10)) (fun r0 M0 => r0 = some (.int (b2 (0 ≤ (nI ((c % 8) + 1)).toInt ∧ (nI ((c % 8) + 1)).toInt < (σ 0 : Int) ∧ 0 ≤ (nI ((c / 8) + 0)).toInt ∧ (nI ((c / 8) + 0)).toInt < (σ 1 : Int)))) ∧ M = M0) [.int (nI ((c % 8) + 1)), .int (nI ((c / 8) + 0))] [] rfl rfl rfl rfl (Nat.le_of_ble_eq_true rfl) (Nat.le_of_ble_eq_true rfl) (w_m_isCell _ (nI ((c % 8) + 1)) (nI ((c / 8) + 0)) M σ hM9 _ ⟨rfl, rfl⟩) ?_
  rintro _ _ ⟨rfl, rfl⟩
  show Wn _ 80 _ (57, [(4, .int (nI ((c / 8) + 0))), (3, .int (nI ((c % 8) + 1))), (0, .ref 114), (1, .int (nI c)), (2, .int (nI 0))], [.int (b2 (0 ≤ (nI ((c % 8) + 1)).toInt ∧ (nI ((c % 8) + 1)).toInt < (σ 0 : Int) ∧ 0 ≤ (nI ((c / 8) + 0)).toInt ∧ (nI ((c / 8) + 0)).toInt < (σ 1 : Int)))], M)
  refine Wn.run (tab := tb_m_beside) rfl 1 (c' := (if (b2 (0 ≤ (nI ((c % 8) + 1)).toInt ∧ (nI ((c % 8) + 1)).toInt < (σ 0 : Int) ∧ 0 ≤ (nI ((c / 8) + 0)).toInt ∧ (nI ((c / 8) + 0)).toInt < (σ 1 : Int))) = 0 then 70 else 60, [(4, .int (nI ((c / 8) + 0))), (3, .int (nI ((c % 8) + 1))), (0, .ref 114), (1, .int (nI c)), (2, .int (nI 0))], [], M)) (o := []) rfl trivial ?_
  refine Wn.br (fun h1 => ?_) (fun h1 => ?_)
  · have h1 := b2_neg h1
    refine Wn.run (tab := tb_m_beside) rfl 1 (c' := (71, [(4, .int (nI ((c / 8) + 0))), (3, .int (nI ((c % 8) + 1))), (0, .ref 114), (1, .int (nI c)), (2, .int (nI 0))], [.int (-1 : Int32)], M)) (o := []) rfl trivial ?_
    rw [nI_toInt (by omega), nI_toInt (by omega)] at h1
    have e9 : bes σ c 0 = none := by show (if c % 8 + 1 < σ 0 ∧ c / 8 < σ 1 then some (c + 1) else none) = _; rw [if_neg (by omega)]
    exact Wn.iret rfl (by rw [e9] at hQ; exact hQ)
  · have h1 := b2_pos h1
    refine Wn.run (tab := tb_m_beside) rfl 6 (c' := (71, [(4, .int (nI ((c / 8) + 0))), (3, .int (nI ((c % 8) + 1))), (0, .ref 114), (1, .int (nI c)), (2, .int (nI 0))], [.int (((nI 8) * (nI ((c / 8) + 0))) + (nI ((c % 8) + 1)))], M)) (o := []) rfl trivial ?_
    rw [show (((nI 8) * (nI ((c / 8) + 0))) + (nI ((c % 8) + 1))) = (nI ((8 * ((c / 8) + 0)) + ((c % 8) + 1))) from (n_add (n_mul rfl rfl) rfl)]
    rw [nI_toInt (by omega), nI_toInt (by omega)] at h1
    have e9 : bes σ c 0 = some (c + 1) := by show (if c % 8 + 1 < σ 0 ∧ c / 8 < σ 1 then some (c + 1) else none) = _; rw [if_pos (by omega)]
    exact Wn.iret rfl (by rw [e9] at hQ; rw [show (nI ((8 * ((c / 8) + 0)) + ((c % 8) + 1))) = nI (c + 1) from congrArg nI (by omega)]; exact hQ)
set_option maxRecDepth 20000 in
theorem w_m_beside_1 (d : Nat) (c : Nat) (hc : c < 64) (M : Mm) (σ : Nat → Nat) (hM : Ms M σ) (Q : Po) (hQ : Q (some (.int (oI (bes σ c 1)))) M) : Wn (d + 2) 80 Q (0, lv_args 0 [.ref 114, .int (nI c), .int (nI 1)], [], M) := by
  obtain ⟨hS, hB⟩ := hM
  have hM9 : Ms M σ := ⟨hS, hB⟩
  have c9_2 := Bd_2 hB
  have k0 := Bd_0 hB
  have k1 := Bd_1 hB
  refine Wn.run (tab := tb_m_beside) rfl 5 (c' := (if ¬ (nI 1) = 0 then 12 else 8, [(0, .ref 114), (1, .int (nI c)), (2, .int (nI 1))], [.int ((nI c) - (nI c) / (nI 8) * (nI 8))], M)) (o := [¬ (nI 8) = 0]) rfl (show ¬ (nI 8) = 0 by decide) ?_
  rw [if_pos (show ¬ (nI 1) = 0 by decide)]
  show Wn _ 80 _ (12, [(0, .ref 114), (1, .int (nI c)), (2, .int (nI 1))], [.int ((nI c) - (nI c) / (nI 8) * (nI 8))], M)
  rw [show ((nI c) - (nI c) / (nI 8) * (nI 8)) = (nI (c % 8)) from (n_rem rfl rfl (by omega) (by omega) (by omega))]
  refine Wn.run (tab := tb_m_beside) rfl 3 (c' := (if ¬ (nI 1) = (nI 2) then 21 else 17, [(0, .ref 114), (1, .int (nI c)), (2, .int (nI 1))], [.int (nI (c % 8))], M)) (o := []) rfl trivial ?_
  rw [if_pos (show ¬ (nI 1) = (nI 2) by decide)]
  show Wn _ 80 _ (21, [(0, .ref 114), (1, .int (nI c)), (2, .int (nI 1))], [.int (nI (c % 8))], M)
  refine Wn.run (tab := tb_m_beside) rfl 9 (c' := (if ¬ (nI 1) = (nI 1) then 37 else 33, [(3, .int ((nI (c % 8)) + (nI 0))), (0, .ref 114), (1, .int (nI c)), (2, .int (nI 1))], [.int ((nI c) / (nI 8))], M)) (o := [¬ (nI 8) = 0]) rfl (show ¬ (nI 8) = 0 by decide) ?_
  rw [if_neg (show ¬ (¬ (nI 1) = (nI 1)) by decide)]
  show Wn _ 80 _ (33, [(3, .int ((nI (c % 8)) + (nI 0))), (0, .ref 114), (1, .int (nI c)), (2, .int (nI 1))], [.int ((nI c) / (nI 8))], M)
  rw [show ((nI (c % 8)) + (nI 0)) = (nI ((c % 8) + 0)) from (n_add rfl rfl)]
  rw [show ((nI c) / (nI 8)) = (nI (c / 8)) from (n_div rfl rfl (by omega) (by omega) (by omega))]
  refine Wn.run (tab := tb_m_beside) rfl 7 (c' := (54, [(4, .int ((nI (c / 8)) + (nI 1))), (3, .int (nI ((c % 8) + 0))), (0, .ref 114), (1, .int (nI c)), (2, .int (nI 1))], [.int ((nI (c / 8)) + (nI 1)), .int (nI ((c % 8) + 0)), .ref 114], M)) (o := []) rfl trivial ?_
  rw [show ((nI (c / 8)) + (nI 1)) = (nI ((c / 8) + 1)) from (n_add rfl rfl)]
  refine Wn.callV (p := 114) (n := 3) (ix := 266) (ci := (10)) (fun r0 M0 => r0 = some (.int (b2 (0 ≤ (nI ((c % 8) + 0)).toInt ∧ (nI ((c % 8) + 0)).toInt < (σ 0 : Int) ∧ 0 ≤ (nI ((c / 8) + 1)).toInt ∧ (nI ((c / 8) + 1)).toInt < (σ 1 : Int)))) ∧ M = M0) [.int (nI ((c % 8) + 0)), .int (nI ((c / 8) + 1))] [] rfl rfl rfl rfl (Nat.le_of_ble_eq_true rfl) (Nat.le_of_ble_eq_true rfl) (w_m_isCell _ (nI ((c % 8) + 0)) (nI ((c / 8) + 1)) M σ hM9 _ ⟨rfl, rfl⟩) ?_
  rintro _ _ ⟨rfl, rfl⟩
  show Wn _ 80 _ (57, [(4, .int (nI ((c / 8) + 1))), (3, .int (nI ((c % 8) + 0))), (0, .ref 114), (1, .int (nI c)), (2, .int (nI 1))], [.int (b2 (0 ≤ (nI ((c % 8) + 0)).toInt ∧ (nI ((c % 8) + 0)).toInt < (σ 0 : Int) ∧ 0 ≤ (nI ((c / 8) + 1)).toInt ∧ (nI ((c / 8) + 1)).toInt < (σ 1 : Int)))], M)
  refine Wn.run (tab := tb_m_beside) rfl 1 (c' := (if (b2 (0 ≤ (nI ((c % 8) + 0)).toInt ∧ (nI ((c % 8) + 0)).toInt < (σ 0 : Int) ∧ 0 ≤ (nI ((c / 8) + 1)).toInt ∧ (nI ((c / 8) + 1)).toInt < (σ 1 : Int))) = 0 then 70 else 60, [(4, .int (nI ((c / 8) + 1))), (3, .int (nI ((c % 8) + 0))), (0, .ref 114), (1, .int (nI c)), (2, .int (nI 1))], [], M)) (o := []) rfl trivial ?_
  refine Wn.br (fun h1 => ?_) (fun h1 => ?_)
  · have h1 := b2_neg h1
    refine Wn.run (tab := tb_m_beside) rfl 1 (c' := (71, [(4, .int (nI ((c / 8) + 1))), (3, .int (nI ((c % 8) + 0))), (0, .ref 114), (1, .int (nI c)), (2, .int (nI 1))], [.int (-1 : Int32)], M)) (o := []) rfl trivial ?_
    rw [nI_toInt (by omega), nI_toInt (by omega)] at h1
    have e9 : bes σ c 1 = none := by show (if c % 8 < σ 0 ∧ c / 8 + 1 < σ 1 then some (c + 8) else none) = _; rw [if_neg (by omega)]
    exact Wn.iret rfl (by rw [e9] at hQ; exact hQ)
  · have h1 := b2_pos h1
    refine Wn.run (tab := tb_m_beside) rfl 6 (c' := (71, [(4, .int (nI ((c / 8) + 1))), (3, .int (nI ((c % 8) + 0))), (0, .ref 114), (1, .int (nI c)), (2, .int (nI 1))], [.int (((nI 8) * (nI ((c / 8) + 1))) + (nI ((c % 8) + 0)))], M)) (o := []) rfl trivial ?_
    rw [show (((nI 8) * (nI ((c / 8) + 1))) + (nI ((c % 8) + 0))) = (nI ((8 * ((c / 8) + 1)) + ((c % 8) + 0))) from (n_add (n_mul rfl rfl) rfl)]
    rw [nI_toInt (by omega), nI_toInt (by omega)] at h1
    have e9 : bes σ c 1 = some (c + 8) := by show (if c % 8 < σ 0 ∧ c / 8 + 1 < σ 1 then some (c + 8) else none) = _; rw [if_pos (by omega)]
    exact Wn.iret rfl (by rw [e9] at hQ; rw [show (nI ((8 * ((c / 8) + 1)) + ((c % 8) + 0))) = nI (c + 8) from congrArg nI (by omega)]; exact hQ)
set_option maxRecDepth 20000 in
theorem w_m_beside_2 (d : Nat) (c : Nat) (hc : c < 64) (M : Mm) (σ : Nat → Nat) (hM : Ms M σ) (Q : Po) (hQ : Q (some (.int (oI (bes σ c 2)))) M) : Wn (d + 2) 80 Q (0, lv_args 0 [.ref 114, .int (nI c), .int (nI 2)], [], M) := by
  obtain ⟨hS, hB⟩ := hM
  have hM9 : Ms M σ := ⟨hS, hB⟩
  have c9_2 := Bd_2 hB
  have k0 := Bd_0 hB
  have k1 := Bd_1 hB
  refine Wn.run (tab := tb_m_beside) rfl 5 (c' := (if ¬ (nI 2) = 0 then 12 else 8, [(0, .ref 114), (1, .int (nI c)), (2, .int (nI 2))], [.int ((nI c) - (nI c) / (nI 8) * (nI 8))], M)) (o := [¬ (nI 8) = 0]) rfl (show ¬ (nI 8) = 0 by decide) ?_
  rw [if_pos (show ¬ (nI 2) = 0 by decide)]
  show Wn _ 80 _ (12, [(0, .ref 114), (1, .int (nI c)), (2, .int (nI 2))], [.int ((nI c) - (nI c) / (nI 8) * (nI 8))], M)
  rw [show ((nI c) - (nI c) / (nI 8) * (nI 8)) = (nI (c % 8)) from (n_rem rfl rfl (by omega) (by omega) (by omega))]
  refine Wn.run (tab := tb_m_beside) rfl 3 (c' := (if ¬ (nI 2) = (nI 2) then 21 else 17, [(0, .ref 114), (1, .int (nI c)), (2, .int (nI 2))], [.int (nI (c % 8))], M)) (o := []) rfl trivial ?_
  rw [if_neg (show ¬ (¬ (nI 2) = (nI 2)) by decide)]
  show Wn _ 80 _ (17, [(0, .ref 114), (1, .int (nI c)), (2, .int (nI 2))], [.int (nI (c % 8))], M)
  refine Wn.run (tab := tb_m_beside) rfl 10 (c' := (if ¬ (nI 2) = (nI 1) then 37 else 33, [(3, .int ((nI (c % 8)) + (-1 : Int32))), (0, .ref 114), (1, .int (nI c)), (2, .int (nI 2))], [.int ((nI c) / (nI 8))], M)) (o := [¬ (nI 8) = 0]) rfl (show ¬ (nI 8) = 0 by decide) ?_
  rw [if_pos (show ¬ (nI 2) = (nI 1) by decide)]
  show Wn _ 80 _ (37, [(3, .int ((nI (c % 8)) + (-1 : Int32))), (0, .ref 114), (1, .int (nI c)), (2, .int (nI 2))], [.int ((nI c) / (nI 8))], M)
  rw [show ((nI c) / (nI 8)) = (nI (c / 8)) from (n_div rfl rfl (by omega) (by omega) (by omega))]
  refine Wn.run (tab := tb_m_beside) rfl 3 (c' := (if ¬ (nI 2) = (nI 3) then 46 else 42, [(3, .int ((nI (c % 8)) + (-1 : Int32))), (0, .ref 114), (1, .int (nI c)), (2, .int (nI 2))], [.int (nI (c / 8))], M)) (o := []) rfl trivial ?_
  rw [if_pos (show ¬ (nI 2) = (nI 3) by decide)]
  show Wn _ 80 _ (46, [(3, .int ((nI (c % 8)) + (-1 : Int32))), (0, .ref 114), (1, .int (nI c)), (2, .int (nI 2))], [.int (nI (c / 8))], M)
  refine Wn.run (tab := tb_m_beside) rfl 6 (c' := (54, [(4, .int ((nI (c / 8)) + (nI 0))), (3, .int ((nI (c % 8)) + (-1 : Int32))), (0, .ref 114), (1, .int (nI c)), (2, .int (nI 2))], [.int ((nI (c / 8)) + (nI 0)), .int ((nI (c % 8)) + (-1 : Int32)), .ref 114], M)) (o := []) rfl trivial ?_
  rw [show ((nI (c / 8)) + (nI 0)) = (nI ((c / 8) + 0)) from (n_add rfl rfl)]
  refine Wn.callV (p := 114) (n := 3) (ix := 266) (ci := (10)) (fun r0 M0 => r0 = some (.int (b2 (0 ≤ ((nI (c % 8)) + (-1 : Int32)).toInt ∧ ((nI (c % 8)) + (-1 : Int32)).toInt < (σ 0 : Int) ∧ 0 ≤ (nI ((c / 8) + 0)).toInt ∧ (nI ((c / 8) + 0)).toInt < (σ 1 : Int)))) ∧ M = M0) [.int ((nI (c % 8)) + (-1 : Int32)), .int (nI ((c / 8) + 0))] [] rfl rfl rfl rfl (Nat.le_of_ble_eq_true rfl) (Nat.le_of_ble_eq_true rfl) (w_m_isCell _ ((nI (c % 8)) + (-1 : Int32)) (nI ((c / 8) + 0)) M σ hM9 _ ⟨rfl, rfl⟩) ?_
  rintro _ _ ⟨rfl, rfl⟩
  show Wn _ 80 _ (57, [(4, .int (nI ((c / 8) + 0))), (3, .int ((nI (c % 8)) + (-1 : Int32))), (0, .ref 114), (1, .int (nI c)), (2, .int (nI 2))], [.int (b2 (0 ≤ ((nI (c % 8)) + (-1 : Int32)).toInt ∧ ((nI (c % 8)) + (-1 : Int32)).toInt < (σ 0 : Int) ∧ 0 ≤ (nI ((c / 8) + 0)).toInt ∧ (nI ((c / 8) + 0)).toInt < (σ 1 : Int)))], M)
  refine Wn.run (tab := tb_m_beside) rfl 1 (c' := (if (b2 (0 ≤ ((nI (c % 8)) + (-1 : Int32)).toInt ∧ ((nI (c % 8)) + (-1 : Int32)).toInt < (σ 0 : Int) ∧ 0 ≤ (nI ((c / 8) + 0)).toInt ∧ (nI ((c / 8) + 0)).toInt < (σ 1 : Int))) = 0 then 70 else 60, [(4, .int (nI ((c / 8) + 0))), (3, .int ((nI (c % 8)) + (-1 : Int32))), (0, .ref 114), (1, .int (nI c)), (2, .int (nI 2))], [], M)) (o := []) rfl trivial ?_
  refine Wn.br (fun h1 => ?_) (fun h1 => ?_)
  · have h1 := b2_neg h1
    refine Wn.run (tab := tb_m_beside) rfl 1 (c' := (71, [(4, .int (nI ((c / 8) + 0))), (3, .int ((nI (c % 8)) + (-1 : Int32))), (0, .ref 114), (1, .int (nI c)), (2, .int (nI 2))], [.int (-1 : Int32)], M)) (o := []) rfl trivial ?_
    rw [m1_toInt (by omega), nI_toInt (by omega)] at h1
    have e9 : bes σ c 2 = none := by show (if 1 ≤ c % 8 ∧ c % 8 ≤ σ 0 ∧ c / 8 < σ 1 then some (c - 1) else none) = _; rw [if_neg (by omega)]
    exact Wn.iret rfl (by rw [e9] at hQ; exact hQ)
  · have h1 := b2_pos h1
    refine Wn.run (tab := tb_m_beside) rfl 6 (c' := (71, [(4, .int (nI ((c / 8) + 0))), (3, .int ((nI (c % 8)) + (-1 : Int32))), (0, .ref 114), (1, .int (nI c)), (2, .int (nI 2))], [.int (((nI 8) * (nI ((c / 8) + 0))) + ((nI (c % 8)) + (-1 : Int32)))], M)) (o := []) rfl trivial ?_
    rw [show ((nI 8) * (nI ((c / 8) + 0))) = (nI (8 * ((c / 8) + 0))) from (n_mul rfl rfl)]
    rw [m1_toInt (by omega), nI_toInt (by omega)] at h1
    have e9 : bes σ c 2 = some (c - 1) := by show (if 1 ≤ c % 8 ∧ c % 8 ≤ σ 0 ∧ c / 8 < σ 1 then some (c - 1) else none) = _; rw [if_pos (by omega)]
    exact Wn.iret rfl (by rw [e9] at hQ; rw [m1_nat (n := c % 8) (by omega), nI_add]; rw [show 8 * (c / 8 + 0) + (c % 8 - 1) = c - 1 from by omega]; exact hQ)
set_option maxRecDepth 20000 in
theorem w_m_beside_3 (d : Nat) (c : Nat) (hc : c < 64) (M : Mm) (σ : Nat → Nat) (hM : Ms M σ) (Q : Po) (hQ : Q (some (.int (oI (bes σ c 3)))) M) : Wn (d + 2) 80 Q (0, lv_args 0 [.ref 114, .int (nI c), .int (nI 3)], [], M) := by
  obtain ⟨hS, hB⟩ := hM
  have hM9 : Ms M σ := ⟨hS, hB⟩
  have c9_2 := Bd_2 hB
  have k0 := Bd_0 hB
  have k1 := Bd_1 hB
  refine Wn.run (tab := tb_m_beside) rfl 5 (c' := (if ¬ (nI 3) = 0 then 12 else 8, [(0, .ref 114), (1, .int (nI c)), (2, .int (nI 3))], [.int ((nI c) - (nI c) / (nI 8) * (nI 8))], M)) (o := [¬ (nI 8) = 0]) rfl (show ¬ (nI 8) = 0 by decide) ?_
  rw [if_pos (show ¬ (nI 3) = 0 by decide)]
  show Wn _ 80 _ (12, [(0, .ref 114), (1, .int (nI c)), (2, .int (nI 3))], [.int ((nI c) - (nI c) / (nI 8) * (nI 8))], M)
  rw [show ((nI c) - (nI c) / (nI 8) * (nI 8)) = (nI (c % 8)) from (n_rem rfl rfl (by omega) (by omega) (by omega))]
  refine Wn.run (tab := tb_m_beside) rfl 3 (c' := (if ¬ (nI 3) = (nI 2) then 21 else 17, [(0, .ref 114), (1, .int (nI c)), (2, .int (nI 3))], [.int (nI (c % 8))], M)) (o := []) rfl trivial ?_
  rw [if_pos (show ¬ (nI 3) = (nI 2) by decide)]
  show Wn _ 80 _ (21, [(0, .ref 114), (1, .int (nI c)), (2, .int (nI 3))], [.int (nI (c % 8))], M)
  refine Wn.run (tab := tb_m_beside) rfl 9 (c' := (if ¬ (nI 3) = (nI 1) then 37 else 33, [(3, .int ((nI (c % 8)) + (nI 0))), (0, .ref 114), (1, .int (nI c)), (2, .int (nI 3))], [.int ((nI c) / (nI 8))], M)) (o := [¬ (nI 8) = 0]) rfl (show ¬ (nI 8) = 0 by decide) ?_
  rw [if_pos (show ¬ (nI 3) = (nI 1) by decide)]
  show Wn _ 80 _ (37, [(3, .int ((nI (c % 8)) + (nI 0))), (0, .ref 114), (1, .int (nI c)), (2, .int (nI 3))], [.int ((nI c) / (nI 8))], M)
  rw [show ((nI (c % 8)) + (nI 0)) = (nI ((c % 8) + 0)) from (n_add rfl rfl)]
  rw [show ((nI c) / (nI 8)) = (nI (c / 8)) from (n_div rfl rfl (by omega) (by omega) (by omega))]
  refine Wn.run (tab := tb_m_beside) rfl 3 (c' := (if ¬ (nI 3) = (nI 3) then 46 else 42, [(3, .int (nI ((c % 8) + 0))), (0, .ref 114), (1, .int (nI c)), (2, .int (nI 3))], [.int (nI (c / 8))], M)) (o := []) rfl trivial ?_
  rw [if_neg (show ¬ (¬ (nI 3) = (nI 3)) by decide)]
  show Wn _ 80 _ (42, [(3, .int (nI ((c % 8) + 0))), (0, .ref 114), (1, .int (nI c)), (2, .int (nI 3))], [.int (nI (c / 8))], M)
  refine Wn.run (tab := tb_m_beside) rfl 7 (c' := (54, [(4, .int ((nI (c / 8)) + (-1 : Int32))), (3, .int (nI ((c % 8) + 0))), (0, .ref 114), (1, .int (nI c)), (2, .int (nI 3))], [.int ((nI (c / 8)) + (-1 : Int32)), .int (nI ((c % 8) + 0)), .ref 114], M)) (o := []) rfl trivial ?_
  refine Wn.callV (p := 114) (n := 3) (ix := 266) (ci := (10)) (fun r0 M0 => r0 = some (.int (b2 (0 ≤ (nI ((c % 8) + 0)).toInt ∧ (nI ((c % 8) + 0)).toInt < (σ 0 : Int) ∧ 0 ≤ ((nI (c / 8)) + (-1 : Int32)).toInt ∧ ((nI (c / 8)) + (-1 : Int32)).toInt < (σ 1 : Int)))) ∧ M = M0) [.int (nI ((c % 8) + 0)), .int ((nI (c / 8)) + (-1 : Int32))] [] rfl rfl rfl rfl (Nat.le_of_ble_eq_true rfl) (Nat.le_of_ble_eq_true rfl) (w_m_isCell _ (nI ((c % 8) + 0)) ((nI (c / 8)) + (-1 : Int32)) M σ hM9 _ ⟨rfl, rfl⟩) ?_
  rintro _ _ ⟨rfl, rfl⟩
  show Wn _ 80 _ (57, [(4, .int ((nI (c / 8)) + (-1 : Int32))), (3, .int (nI ((c % 8) + 0))), (0, .ref 114), (1, .int (nI c)), (2, .int (nI 3))], [.int (b2 (0 ≤ (nI ((c % 8) + 0)).toInt ∧ (nI ((c % 8) + 0)).toInt < (σ 0 : Int) ∧ 0 ≤ ((nI (c / 8)) + (-1 : Int32)).toInt ∧ ((nI (c / 8)) + (-1 : Int32)).toInt < (σ 1 : Int)))], M)
  refine Wn.run (tab := tb_m_beside) rfl 1 (c' := (if (b2 (0 ≤ (nI ((c % 8) + 0)).toInt ∧ (nI ((c % 8) + 0)).toInt < (σ 0 : Int) ∧ 0 ≤ ((nI (c / 8)) + (-1 : Int32)).toInt ∧ ((nI (c / 8)) + (-1 : Int32)).toInt < (σ 1 : Int))) = 0 then 70 else 60, [(4, .int ((nI (c / 8)) + (-1 : Int32))), (3, .int (nI ((c % 8) + 0))), (0, .ref 114), (1, .int (nI c)), (2, .int (nI 3))], [], M)) (o := []) rfl trivial ?_
  refine Wn.br (fun h1 => ?_) (fun h1 => ?_)
  · have h1 := b2_neg h1
    refine Wn.run (tab := tb_m_beside) rfl 1 (c' := (71, [(4, .int ((nI (c / 8)) + (-1 : Int32))), (3, .int (nI ((c % 8) + 0))), (0, .ref 114), (1, .int (nI c)), (2, .int (nI 3))], [.int (-1 : Int32)], M)) (o := []) rfl trivial ?_
    rw [nI_toInt (by omega), m1_toInt (by omega)] at h1
    have e9 : bes σ c 3 = none := by show (if c % 8 < σ 0 ∧ 1 ≤ c / 8 ∧ c / 8 ≤ σ 1 then some (c - 8) else none) = _; rw [if_neg (by omega)]
    exact Wn.iret rfl (by rw [e9] at hQ; exact hQ)
  · have h1 := b2_pos h1
    refine Wn.run (tab := tb_m_beside) rfl 6 (c' := (71, [(4, .int ((nI (c / 8)) + (-1 : Int32))), (3, .int (nI ((c % 8) + 0))), (0, .ref 114), (1, .int (nI c)), (2, .int (nI 3))], [.int (((nI 8) * ((nI (c / 8)) + (-1 : Int32))) + (nI ((c % 8) + 0)))], M)) (o := []) rfl trivial ?_
    rw [nI_toInt (by omega), m1_toInt (by omega)] at h1
    have e9 : bes σ c 3 = some (c - 8) := by show (if c % 8 < σ 0 ∧ 1 ≤ c / 8 ∧ c / 8 ≤ σ 1 then some (c - 8) else none) = _; rw [if_pos (by omega)]
    exact Wn.iret rfl (by rw [e9] at hQ; rw [m1_nat (n := c / 8) (by omega), pk_mul, nI_add]; rw [show 8 * (c / 8 - 1) + (c % 8 + 0) = c - 8 from by omega]; exact hQ)
theorem w_m_beside (d : Nat) (c s : Nat) (hc : c < 64) (hs : s < 4) (M : Mm) (σ : Nat → Nat) (hM : Ms M σ) (Q : Po) (hQ : Q (some (.int (oI (bes σ c s)))) M) : Wn (d + 2) 80 Q (0, lv_args 0 [.ref 114, .int (nI c), .int (nI s)], [], M) := by
  match s, hs, hQ with
  | 0, _, hQ => exact w_m_beside_0 d c hc M σ hM Q hQ
  | 1, _, hQ => exact w_m_beside_1 d c hc M σ hM Q hQ
  | 2, _, hQ => exact w_m_beside_2 d c hc M σ hM Q hQ
  | 3, _, hQ => exact w_m_beside_3 d c hc M σ hM Q hQ
  | k + 4, h, _ => exact absurd h (by omega)
set_option maxRecDepth 20000 in
theorem w_m_whyGo (d : Nat) (q s : Nat) (hq : q < 6) (hs : s < 4) (M : Mm) (σ : Nat → Nat) (hM : Ms M σ) (Q : Po) (hQ : Q (some (.int (nI (wgo σ q s)))) M) : Wn (d + 5) 84 Q (0, lv_args 0 [.ref 114, .int (nI q), .int (nI s)], [], M) := by
  obtain ⟨hS, hB⟩ := hM
  have hM9 : Ms M σ := ⟨hS, hB⟩
  have c9_2 := Bd_2 hB
  refine Wn.run (tab := tb_m_whyGo) rfl 2 (c' := (2, [(0, .ref 114), (1, .int (nI q)), (2, .int (nI s))], [.int (nI q), .ref 114], M)) (o := []) rfl trivial ?_
  refine Wn.callV (p := 114) (n := 2) (ix := 260) (ci := (10)) (fun r0 M0 => r0 = some (.int (b2 (fal σ q = true))) ∧ M = M0) [.int (nI q)] [] rfl rfl rfl rfl (Nat.le_of_ble_eq_true rfl) (Nat.le_of_ble_eq_true rfl) (w_m_hasFallen _ q (by omega) M σ hM9 _ ⟨rfl, rfl⟩) ?_
  rintro _ _ ⟨rfl, rfl⟩
  show Wn _ 84 _ (5, [(0, .ref 114), (1, .int (nI q)), (2, .int (nI s))], [.int (b2 (fal σ q = true))], M)
  refine Wn.run (tab := tb_m_whyGo) rfl 1 (c' := (if (b2 (fal σ q = true)) = 0 then 10 else 8, [(0, .ref 114), (1, .int (nI q)), (2, .int (nI s))], [], M)) (o := []) rfl trivial ?_
  refine Wn.br (fun h1 => ?_) (fun h1 => ?_)
  · have h1 := b2_neg h1
    refine Wn.run (tab := tb_m_whyGo) rfl 8 (c' := (22, [(0, .ref 114), (1, .int (nI q)), (2, .int (nI s))], [.int (nI s), .int (M.1 116 (((nI 160) + (nI q))).toNatClampNeg), .ref 114], M)) (o := [shp 114 = (0, 10), aok shp 116 0 ((nI 160) + (nI q))]) rfl ⟨rfl, (ak1 (n := 359) rfl rfl (n_add rfl rfl) (by omega))⟩ ?_
    have f9 := Bd_q hB q (by omega)
    rw [show (M.1 116 (((nI 160) + (nI q))).toNatClampNeg) = (nI (σ (160 + q))) from (rd1 hS (n_add rfl rfl) (by omega) (by omega))]
    refine Wn.callV (p := 114) (n := 3) (ix := 281) (ci := (10)) (fun r0 M0 => r0 = some (.int (oI (bes σ (σ (160 + q)) s))) ∧ M = M0) [.int (nI (σ (160 + q))), .int (nI s)] [] rfl rfl rfl rfl (Nat.le_of_ble_eq_true rfl) (Nat.le_of_ble_eq_true rfl) (w_m_beside _ (σ (160 + q)) s (by omega) (by omega) M σ hM9 _ ⟨rfl, rfl⟩) ?_
    rintro _ _ ⟨rfl, rfl⟩
    show Wn _ 84 _ (25, [(0, .ref 114), (1, .int (nI q)), (2, .int (nI s))], [.int (oI (bes σ (σ (160 + q)) s))], M)
    cases hb1 : bes σ (σ (160 + q)) s with
    | none =>
      show Wn _ 84 _ (25, [(0, .ref 114), (1, .int (nI q)), (2, .int (nI s))], [.int (-1 : Int32)], M)
      refine Wn.run (tab := tb_m_whyGo) rfl 3 (c' := (if 0 ≤ (-1 : Int32) then 34 else 30, [(3, .int (-1 : Int32)), (0, .ref 114), (1, .int (nI q)), (2, .int (nI s))], [], M)) (o := []) rfl trivial ?_
      rw [if_neg (show ¬ (0 ≤ (-1 : Int32)) by decide)]
      show Wn _ 84 _ (30, [(3, .int (-1 : Int32)), (0, .ref 114), (1, .int (nI q)), (2, .int (nI s))], [], M)
      refine Wn.run (tab := tb_m_whyGo) rfl 2 (c' := (48, [(3, .int (-1 : Int32)), (0, .ref 114), (1, .int (nI q)), (2, .int (nI s))], [.int (nI 2)], M)) (o := []) rfl trivial ?_
      have e9 : wgo σ q s = 2 := by unfold wgo; rw [if_neg h1, hb1]
      exact Wn.iret rfl (by rw [e9] at hQ; exact hQ)
    | some k1 =>
      have hk1 := bes_lt hB (by omega) hb1
      show Wn _ 84 _ (25, [(0, .ref 114), (1, .int (nI q)), (2, .int (nI s))], [.int (nI k1)], M)
      refine Wn.run (tab := tb_m_whyGo) rfl 3 (c' := (if 0 ≤ (nI k1) then 34 else 30, [(3, .int (nI k1)), (0, .ref 114), (1, .int (nI q)), (2, .int (nI s))], [], M)) (o := []) rfl trivial ?_
      refine Wn.br (fun h2 => ?_) (fun h2 => ?_)
      · have h2 := (n_le nI_0.symm rfl (by omega) (by omega)).mp h2
        refine Wn.run (tab := tb_m_whyGo) rfl 3 (c' := (37, [(3, .int (nI k1)), (0, .ref 114), (1, .int (nI q)), (2, .int (nI s))], [.int (nI k1), .int (nI q), .ref 114], M)) (o := []) rfl trivial ?_
        refine Wn.callV (p := 114) (n := 3) (ix := 284) (ci := (10)) (fun r0 M0 => r0 = some (.int (nI (ld σ k1 + σ (78 + q) - σ (96 + k1)))) ∧ M = M0) [.int (nI q), .int (nI k1)] [] rfl rfl rfl rfl (Nat.le_of_ble_eq_true rfl) (Nat.le_of_ble_eq_true rfl) (w_m_lacks _ q k1 (by omega) (by omega) M σ hM9 _ ⟨rfl, rfl⟩) ?_
        rintro _ _ ⟨rfl, rfl⟩
        show Wn _ 84 _ (40, [(3, .int (nI k1)), (0, .ref 114), (1, .int (nI q)), (2, .int (nI s))], [.int (nI (ld σ k1 + σ (78 + q) - σ (96 + k1)))], M)
        refine Wn.run (tab := tb_m_whyGo) rfl 1 (c' := (if (nI (ld σ k1 + σ (78 + q) - σ (96 + k1))) ≤ 0 then 47 else 43, [(3, .int (nI k1)), (0, .ref 114), (1, .int (nI q)), (2, .int (nI s))], [], M)) (o := []) rfl trivial ?_
        refine Wn.br (fun h3 => ?_) (fun h3 => ?_)
        · have f9 := Bd_q hB q (by omega)
          have g9 := Bd_c hB k1 (by omega)
          have r9 := ld_le hB k1
          have h3 := (n_le rfl nI_0.symm (by omega) (by omega)).mp h3
          refine Wn.run (tab := tb_m_whyGo) rfl 1 (c' := (48, [(3, .int (nI k1)), (0, .ref 114), (1, .int (nI q)), (2, .int (nI s))], [.int (nI 0)], M)) (o := []) rfl trivial ?_
          have e9 : wgo σ q s = 0 := by unfold wgo; rw [if_neg h1, hb1]; exact if_neg (by omega)
          exact Wn.iret rfl (by rw [e9] at hQ; exact hQ)
        · have f9 := Bd_q hB q (by omega)
          have g9 := Bd_c hB k1 (by omega)
          have r9 := ld_le hB k1
          have h3 := mt (n_le rfl nI_0.symm (by omega) (by omega)).mpr h3
          refine Wn.run (tab := tb_m_whyGo) rfl 2 (c' := (48, [(3, .int (nI k1)), (0, .ref 114), (1, .int (nI q)), (2, .int (nI s))], [.int (nI 3)], M)) (o := []) rfl trivial ?_
          have e9 : wgo σ q s = 3 := by unfold wgo; rw [if_neg h1, hb1]; exact if_pos (by omega)
          exact Wn.iret rfl (by rw [e9] at hQ; exact hQ)
      · have h2 := mt (n_le nI_0.symm rfl (by omega) (by omega)).mpr h2
        refine Wn.run (tab := tb_m_whyGo) rfl 2 (c' := (48, [(3, .int (nI k1)), (0, .ref 114), (1, .int (nI q)), (2, .int (nI s))], [.int (nI 2)], M)) (o := []) rfl trivial ?_
        exact absurd (Nat.zero_le _) h2
  · have h1 := b2_pos h1
    refine Wn.run (tab := tb_m_whyGo) rfl 1 (c' := (9, [(0, .ref 114), (1, .int (nI q)), (2, .int (nI s))], [.int (nI 1)], M)) (o := []) rfl trivial ?_
    have e9 : wgo σ q s = 1 := by unfold wgo; rw [if_pos h1]
    exact Wn.iret rfl (by rw [e9] at hQ; exact hQ)
def sdN (σ : Nat → Nat) (q : Nat) : Nat → Nat
  | 0 => 0
  | s + 1 => sdN σ q s + (if wgo σ q s = 0 then 2 ^ s else 0)
theorem sdN_lt (σ : Nat → Nat) (q : Nat) : ∀ n, sdN σ q n < 2 ^ n
  | 0 => Nat.zero_lt_one
  | n + 1 => by
    have ih := sdN_lt σ q n
    unfold sdN
    rw [Nat.pow_succ]
    split <;> omega
theorem wgo_le (σ : Nat → Nat) (q s : Nat) : wgo σ q s ≤ 3 := by
  unfold wgo
  split
  · omega
  · split
    · omega
    · split <;> omega
set_option maxRecDepth 20000 in
theorem w_m_sidesOf (d : Nat) (q : Nat) (hq6 : q < 6) (M : Mm) (σ : Nat → Nat) (hM : Ms M σ) (Q : Po) (hQ : Q (some (.int (nI (sdN σ q 4)))) M) : Wn (d + 6) 85 Q (0, lv_args 0 [.ref 114, .int (nI q)], [], M) := by
  obtain ⟨hS, hB⟩ := hM
  have hM9 : Ms M σ := ⟨hS, hB⟩
  have c9_2 := Bd_2 hB
  refine Wn.run (tab := tb_m_sidesOf) rfl 4 (c' := (4, [(3, .int (nI 0)), (2, .int (nI 0)), (0, .ref 114), (1, .int (nI q))], [], M)) (o := []) rfl trivial ?_
  have loop : ∀ (m s : Nat), 4 - s = m → s ≤ 4 → Wn (d + 6) 85 Q (4, [(3, .int (nI s)), (2, .int (nI (sdN σ q s))), (0, .ref 114), (1, .int (nI q))], [], M) := by
    intro m
    induction m using Nat.strongRecOn with
    | _ m ih =>
      intro s hm hq
      have hlt := sdN_lt σ q s
      have hwg := wgo_le σ q s
      refine Wn.run (tab := tb_m_sidesOf) rfl 3 (c' := (if (nI 4) ≤ (nI s) then 34 else 9, [(3, .int (nI s)), (2, .int (nI (sdN σ q s))), (0, .ref 114), (1, .int (nI q))], [], M)) (o := []) rfl trivial ?_
      refine Wn.br (fun h1 => ?_) (fun h1 => ?_)
      · have h1 := (n_le rfl rfl (by omega) (by omega)).mp h1
        refine Wn.run (tab := tb_m_sidesOf) rfl 1 (c' := (35, [(3, .int (nI s)), (2, .int (nI (sdN σ q s))), (0, .ref 114), (1, .int (nI q))], [.int (nI (sdN σ q s))], M)) (o := []) rfl trivial ?_
        have e9 : s = 4 := by omega
        rw [e9]
        exact Wn.iret rfl hQ
      · have h1 := mt (n_le rfl rfl (by omega) (by omega)).mpr h1
        refine Wn.run (tab := tb_m_sidesOf) rfl 4 (c' := (13, [(3, .int (nI s)), (2, .int (nI (sdN σ q s))), (0, .ref 114), (1, .int (nI q))], [.int (nI s), .int (nI q), .ref 114, .int (nI (sdN σ q s))], M)) (o := []) rfl trivial ?_
        refine Wn.callV (p := 114) (n := 3) (ix := 287) (ci := (10)) (fun r0 M0 => r0 = some (.int (nI (wgo σ q s))) ∧ M = M0) [.int (nI q), .int (nI s)] [.int (nI (sdN σ q s))] rfl rfl rfl rfl (Nat.le_of_ble_eq_true rfl) (Nat.le_of_ble_eq_true rfl) (w_m_whyGo _ q s (by omega) (by omega) M σ hM9 _ ⟨rfl, rfl⟩) ?_
        rintro _ _ ⟨rfl, rfl⟩
        show Wn _ 85 _ (16, [(3, .int (nI s)), (2, .int (nI (sdN σ q s))), (0, .ref 114), (1, .int (nI q))], [.int (nI (wgo σ q s)), .int (nI (sdN σ q s))], M)
        refine Wn.run (tab := tb_m_sidesOf) rfl 1 (c' := (if ¬ (nI (wgo σ q s)) = 0 then 25 else 19, [(3, .int (nI s)), (2, .int (nI (sdN σ q s))), (0, .ref 114), (1, .int (nI q))], [.int (nI (sdN σ q s))], M)) (o := []) rfl trivial ?_
        refine Wn.br (fun h2 => ?_) (fun h2 => ?_)
        · have h2 := mt (n_eq rfl nI_0.symm (by omega) (by omega)).mpr h2
          refine Wn.run (tab := tb_m_sidesOf) rfl 5 (c' := (4, [(3, .int ((nI s) + (nI 1))), (2, .int ((nI (sdN σ q s)) ||| (nI 0))), (0, .ref 114), (1, .int (nI q))], [], M)) (o := []) rfl trivial ?_
          rw [show ((nI s) + (nI 1)) = (nI (s + 1)) from (n_add rfl rfl)]
          have h64 : sdN σ q s < 64 := Nat.lt_of_lt_of_le hlt (Nat.pow_le_pow_right (by decide) (by omega : s ≤ 6))
          rw [show ((nI (sdN σ q s)) ||| (nI 0)) = (nI (sdN σ q (s + 1))) from (by rw [or_0 _ h64]; show _ = nI (sdN σ q s + (if _ then 2 ^ s else 0)); rw [if_neg h2]; rfl)]
          exact ih (4 - (s + 1)) (by omega) (s + 1) rfl (by omega)
        · have h2 := (n_eq rfl nI_0.symm (by omega) (by omega)).mp (Classical.not_not.mp h2)
          refine Wn.run (tab := tb_m_sidesOf) rfl 8 (c' := (4, [(3, .int ((nI s) + (nI 1))), (2, .int ((nI (sdN σ q s)) ||| ((nI 1) <<< ((nI s) &&& 31)))), (0, .ref 114), (1, .int (nI q))], [], M)) (o := []) rfl trivial ?_
          rw [show ((nI s) + (nI 1)) = (nI (s + 1)) from (n_add rfl rfl)]
          have h64 : sdN σ q s < 64 := Nat.lt_of_lt_of_le hlt (Nat.pow_le_pow_right (by decide) (by omega : s ≤ 6))
          rw [show ((nI (sdN σ q s)) ||| ((nI 1) <<< ((nI s) &&& 31))) = (nI (sdN σ q (s + 1))) from (by rw [or_ok s (by omega) _ hlt]; show _ = nI (sdN σ q s + (if _ then 2 ^ s else 0)); rw [if_pos h2])]
          exact ih (4 - (s + 1)) (by omega) (s + 1) rfl (by omega)
  exact loop (4 - 0) 0 rfl (by omega)
theorem i32_nat {x : Int32} {n : Nat} (h0 : 0 ≤ x.toInt) (h : x.toInt < (n : Int)) (hn : n < 2 ^ 31) : ∃ k : Nat, k < n ∧ x = nI k ∧ x.toInt = (k : Int) := by
  obtain ⟨k, hk, rfl⟩ := nI_of (x := x) (by rw [Int32.lt_iff_toInt_lt]; show ¬ x.toInt < (0 : Int32).toInt; rw [show (0 : Int32).toInt = 0 from rfl]; omega)
  rw [nI_toInt hk] at h ⊢
  exact ⟨k, by omega, rfl, rfl⟩
/-- what cell() answers -/
def cellA (σ : Nat → Nat) (x y what : Int32) : Int32 := if 0 ≤ x.toInt ∧ x.toInt < (σ 0 : Int) ∧ 0 ≤ y.toInt ∧ y.toInt < (σ 1 : Int) then (if what = 0 then nI (σ (96 + (8 * y.toInt.toNat + x.toInt.toNat))) else if what = 1 then nI (ld σ (8 * y.toInt.toNat + x.toInt.toNat)) else if what = 2 then nI (pon σ (8 * y.toInt.toNat + x.toInt.toNat)) else -1) else -1

