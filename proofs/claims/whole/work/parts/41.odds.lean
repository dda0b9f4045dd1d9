/-- the lake stays as it is -/
theorem dhN_lo {σ : Nat → Nat} (h : Inv σ) {x : Int32} (hp : ∀ r, r < 6 → σ (172 + r) + 6 < 1073741824) {k : Nat} (hk : k < 90) : ∀ n, n ≤ σ 2 → (dhN σ x n).1 k = σ k
  | 0, _ => rfl
  | n + 1, hn => by
    obtain ⟨j1, j2, j3, j4⟩ := dhN_ok h (x := x) hp n (by omega)
    show daS (dhN σ x n).1 (dhN σ x n).2 n k = _
    rw [daS_lo j1.1 (by rw [j2]; omega) (by omega)]
    exact dhN_lo h hp hk n (by omega)
theorem dK_lo {σ : Nat → Nat} (h : Inv σ) {x : Int32} (hp : ∀ r, r < 6 → σ (172 + r) + 6 < 1073741824) {k : Nat} (hk : k < 90) : ∀ n, σ 90 + n ≤ 400 → (dK σ x n).1 k = σ k
  | 0, _ => rfl
  | n + 1, hn => by
    obtain ⟨i1, i2, i3, i4⟩ := dK_ok h (x := x) hp n (by omega)
    obtain ⟨j1, j2, j3, j4⟩ := dhN_ok i1 (x := (dK σ x n).2) i4 _ (Nat.le_refl _)
    rw [dK_s]
    show hour _ k = _
    rw [hour_lo (by rw [j2]; exact Bd_2 i1.1) (by omega), dhN_lo i1 i4 hk _ (Nat.le_refl _)]
    exact dK_lo h hp hk n (by omega)
set_option maxRecDepth 20000 in
theorem c_i_oddsP (d : Nat) (M : Mm) (σ : Nat → Nat) (hS : StC M 6 σ) (hV : Inv σ) (q n y : Int32) (hnp : ¬ pI σ q) : Wn (d + 1) 24 (PV M SL (some (.int (-1)))) (0, lv_args 0 [.ref 0, .int q, .int n, .int y], [], M) := by
  have hF := fr_rf SL M
  have hB := hV.1
  have hI := hV.2.1
  have c9_2 := Bd_2 hB
  have k90 := Bd_90 hB
  have l6 : lkp 6 = 3 := rfl
  refine Wn.run (tab := tb_i_odds) rfl 4 (c' := (8, [(0, .ref 0), (1, .int q), (2, .int n), (3, .int y)], [.int q, .ref 3], M)) (o := [shp 0 = (0, 9), shp 2 = (0, 8)]) rfl ⟨rfl, rfl⟩ ?_
  refine Wn.callV (p := 3) (n := 2) (ix := 133) (ci := (2)) (fun r0 M0 => r0 = some (.int (nI 0)) ∧ M = M0) [.int q] [] rfl rfl rfl rfl (Nat.le_of_ble_eq_true rfl) (Nat.le_of_ble_eq_true rfl) (w_lk_isPersonF _ M 3 σ hS.2.1 hB q hnp _ ⟨rfl, rfl⟩) ?_
  rintro _ _ ⟨rfl, rfl⟩
  show Wn _ 24 _ (11, [(0, .ref 0), (1, .int q), (2, .int n), (3, .int y)], [.int (nI 0)], M)
  refine Wn.run (tab := tb_i_odds) rfl 1 (c' := (if (nI 0) = 0 then 25 else 14, [(0, .ref 0), (1, .int q), (2, .int n), (3, .int y)], [], M)) (o := []) rfl trivial ?_
  rw [if_pos (show (nI 0) = 0 by decide)]
  show Wn _ 24 _ (25, [(0, .ref 0), (1, .int q), (2, .int n), (3, .int y)], [], M)
  refine Wn.run (tab := tb_i_odds) rfl 1 (c' := (26, [(0, .ref 0), (1, .int q), (2, .int n), (3, .int y)], [.int (-1 : Int32)], M)) (o := []) rfl trivial ?_
  exact Wn.iret rfl ⟨rfl, hF⟩
set_option maxRecDepth 20000 in
theorem c_i_oddsN (d : Nat) (M : Mm) (σ : Nat → Nat) (hS : StC M 6 σ) (hV : Inv σ) (q : Nat) (n y : Int32) (hq : q < σ 2) (hns : ¬ ((nI 1).toInt ≤ n.toInt ∧ n.toInt ≤ (nI 30).toInt)) : Wn (d + 1) 24 (PV M SL (some (.int (-1)))) (0, lv_args 0 [.ref 0, .int (nI q), .int n, .int y], [], M) := by
  have hF := fr_rf SL M
  have hB := hV.1
  have hI := hV.2.1
  have c9_2 := Bd_2 hB
  have k90 := Bd_90 hB
  have l6 : lkp 6 = 3 := rfl
  refine Wn.run (tab := tb_i_odds) rfl 4 (c' := (8, [(0, .ref 0), (1, .int (nI q)), (2, .int n), (3, .int y)], [.int (nI q), .ref 3], M)) (o := [shp 0 = (0, 9), shp 2 = (0, 8)]) rfl ⟨rfl, rfl⟩ ?_
  refine Wn.callV (p := 3) (n := 2) (ix := 133) (ci := (2)) (fun r0 M0 => r0 = some (.int (nI 1)) ∧ M = M0) [.int (nI q)] [] rfl rfl rfl rfl (Nat.le_of_ble_eq_true rfl) (Nat.le_of_ble_eq_true rfl) (w_lk_isPersonT _ M 3 σ hS.2.1 hB q (by omega) _ ⟨rfl, rfl⟩) ?_
  rintro _ _ ⟨rfl, rfl⟩
  show Wn _ 24 _ (11, [(0, .ref 0), (1, .int (nI q)), (2, .int n), (3, .int y)], [.int (nI 1)], M)
  refine Wn.run (tab := tb_i_odds) rfl 1 (c' := (if (nI 1) = 0 then 25 else 14, [(0, .ref 0), (1, .int (nI q)), (2, .int n), (3, .int y)], [], M)) (o := []) rfl trivial ?_
  rw [if_neg (show ¬ ((nI 1) = 0) by decide)]
  show Wn _ 24 _ (14, [(0, .ref 0), (1, .int (nI q)), (2, .int n), (3, .int y)], [], M)
  refine Wn.run (tab := tb_i_odds) rfl 3 (c' := (if n < (nI 1) then 25 else 19, [(0, .ref 0), (1, .int (nI q)), (2, .int n), (3, .int y)], [], M)) (o := []) rfl trivial ?_
  refine Wn.br (fun h1 => ?_) (fun h1 => ?_)
  · show Wn _ 24 _ (25, [(0, .ref 0), (1, .int (nI q)), (2, .int n), (3, .int y)], [], M)
    refine Wn.run (tab := tb_i_odds) rfl 1 (c' := (26, [(0, .ref 0), (1, .int (nI q)), (2, .int n), (3, .int y)], [.int (-1 : Int32)], M)) (o := []) rfl trivial ?_
    exact Wn.iret rfl ⟨rfl, hF⟩
  · show Wn _ 24 _ (19, [(0, .ref 0), (1, .int (nI q)), (2, .int n), (3, .int y)], [], M)
    refine Wn.run (tab := tb_i_odds) rfl 3 (c' := (if n ≤ (nI 30) then 27 else 25, [(0, .ref 0), (1, .int (nI q)), (2, .int n), (3, .int y)], [], M)) (o := []) rfl trivial ?_
    refine Wn.br (fun h2 => ?_) (fun h2 => ?_)
    · show Wn _ 24 _ (27, [(0, .ref 0), (1, .int (nI q)), (2, .int n), (3, .int y)], [], M)
      exact absurd ⟨by have q9 := mt Int32.lt_iff_toInt_lt.mpr h1; rw [nI_toInt (by decide)] at q9 ⊢; omega, by have q9 := Int32.le_iff_toInt_le.mp h2; exact q9⟩ hns
    · show Wn _ 24 _ (25, [(0, .ref 0), (1, .int (nI q)), (2, .int n), (3, .int y)], [], M)
      refine Wn.run (tab := tb_i_odds) rfl 1 (c' := (26, [(0, .ref 0), (1, .int (nI q)), (2, .int n), (3, .int y)], [.int (-1 : Int32)], M)) (o := []) rfl trivial ?_
      exact Wn.iret rfl ⟨rfl, hF⟩
set_option maxRecDepth 20000 in
theorem c_m_oddsP (d : Nat) (M : Mm) (f0 g : Nat → Int32) (σ : Nat → Nat) (hR : Rs f0 (M.1 116) σ) (hV : Inv σ) (hg : M.1 114 = g) (q n y : Int32) (hnp : ¬ pI σ q) : Wn (d + 2) 133 (PGL M f0 g [0, 22, 35] [114, 116, 122] σ (some (.int (-1)))) (0, lv_args 0 [.ref 114, .int q, .int n, .int y], [], M) := by
  have hF := fr_rf [114, 116, 122] M
  have hB := hV.1
  have c9_2 := Bd_2 hB
  have k90 := Bd_90 hB
  refine Wn.run (tab := tb_m_odds) rfl 3 (c' := (5, [(0, .ref 114), (1, .int q), (2, .int n), (3, .int y)], [], (mI M 114 (upd (M.1 114) 0 (nI 0))))) (o := [shp 114 = (0, 10)]) rfl rfl ?_
  generalize hM2 : (mI M 114 (upd (M.1 114) 0 (nI 0))) = M1
  have hk3 := rs_ne hM2 (by decide) hR
  have hk4 := fI_up hM2 hg
  have hF5 := fr_sI hF hM2 (by decide)
  show Wn _ 133 _ (5, [(0, .ref 114), (1, .int q), (2, .int n), (3, .int y)], [], M1)
  refine Wn.run (tab := tb_m_odds) rfl 2 (c' := (7, [(0, .ref 114), (1, .int q), (2, .int n), (3, .int y)], [.int q, .ref 114], M1)) (o := []) rfl trivial ?_
  refine Wn.callV (p := 114) (n := 2) (ix := 290) (ci := (10)) (fun r0 M0 => r0 = some (.int (nI 0)) ∧ M1 = M0) [.int q] [] rfl rfl rfl rfl (Nat.le_of_ble_eq_true rfl) (Nat.le_of_ble_eq_true rfl) (w_m_isPersonF _ q hnp M1 σ ⟨hk3.1, hB⟩ _ ⟨rfl, rfl⟩) ?_
  rintro _ _ ⟨rfl, rfl⟩
  show Wn _ 133 _ (10, [(0, .ref 114), (1, .int q), (2, .int n), (3, .int y)], [.int (nI 0)], M1)
  refine Wn.run (tab := tb_m_odds) rfl 1 (c' := (if (nI 0) = 0 then 23 else 13, [(0, .ref 114), (1, .int q), (2, .int n), (3, .int y)], [], M1)) (o := []) rfl trivial ?_
  rw [if_pos (show (nI 0) = 0 by decide)]
  show Wn _ 133 _ (23, [(0, .ref 114), (1, .int q), (2, .int n), (3, .int y)], [], M1)
  refine Wn.run (tab := tb_m_odds) rfl 1 (c' := (24, [(0, .ref 114), (1, .int q), (2, .int n), (3, .int y)], [.int (-1 : Int32)], M1)) (o := []) rfl trivial ?_
  exact Wn.iret rfl ⟨rfl, hk3, by rw [hk4]; exact (Gx_up (Gx_rf _ _) (by decide)), hF5⟩
set_option maxRecDepth 20000 in
theorem c_m_oddsN (d : Nat) (M : Mm) (f0 g : Nat → Int32) (σ : Nat → Nat) (hR : Rs f0 (M.1 116) σ) (hV : Inv σ) (hg : M.1 114 = g) (q : Nat) (n y : Int32) (hq : q < σ 2) (hns : ¬ ((nI 1).toInt ≤ n.toInt ∧ n.toInt ≤ (nI 30).toInt)) : Wn (d + 2) 133 (PGL M f0 g [0, 22, 35] [114, 116, 122] σ (some (.int (-1)))) (0, lv_args 0 [.ref 114, .int (nI q), .int n, .int y], [], M) := by
  have hF := fr_rf [114, 116, 122] M
  have hB := hV.1
  have c9_2 := Bd_2 hB
  have k90 := Bd_90 hB
  refine Wn.run (tab := tb_m_odds) rfl 3 (c' := (5, [(0, .ref 114), (1, .int (nI q)), (2, .int n), (3, .int y)], [], (mI M 114 (upd (M.1 114) 0 (nI 0))))) (o := [shp 114 = (0, 10)]) rfl rfl ?_
  generalize hM2 : (mI M 114 (upd (M.1 114) 0 (nI 0))) = M1
  have hk3 := rs_ne hM2 (by decide) hR
  have hk4 := fI_up hM2 hg
  have hF5 := fr_sI hF hM2 (by decide)
  show Wn _ 133 _ (5, [(0, .ref 114), (1, .int (nI q)), (2, .int n), (3, .int y)], [], M1)
  refine Wn.run (tab := tb_m_odds) rfl 2 (c' := (7, [(0, .ref 114), (1, .int (nI q)), (2, .int n), (3, .int y)], [.int (nI q), .ref 114], M1)) (o := []) rfl trivial ?_
  refine Wn.callV (p := 114) (n := 2) (ix := 290) (ci := (10)) (fun r0 M0 => r0 = some (.int (nI 1)) ∧ M1 = M0) [.int (nI q)] [] rfl rfl rfl rfl (Nat.le_of_ble_eq_true rfl) (Nat.le_of_ble_eq_true rfl) (w_m_isPersonT _ q (by omega) M1 σ ⟨hk3.1, hB⟩ _ ⟨rfl, rfl⟩) ?_
  rintro _ _ ⟨rfl, rfl⟩
  show Wn _ 133 _ (10, [(0, .ref 114), (1, .int (nI q)), (2, .int n), (3, .int y)], [.int (nI 1)], M1)
  refine Wn.run (tab := tb_m_odds) rfl 1 (c' := (if (nI 1) = 0 then 23 else 13, [(0, .ref 114), (1, .int (nI q)), (2, .int n), (3, .int y)], [], M1)) (o := []) rfl trivial ?_
  rw [if_neg (show ¬ ((nI 1) = 0) by decide)]
  show Wn _ 133 _ (13, [(0, .ref 114), (1, .int (nI q)), (2, .int n), (3, .int y)], [], M1)
  refine Wn.run (tab := tb_m_odds) rfl 3 (c' := (17, [(0, .ref 114), (1, .int (nI q)), (2, .int n), (3, .int y)], [.int (nI 30), .int (nI 1), .int n], M1)) (o := []) rfl trivial ?_
  refine Wn.callS (n := 3) (ix := 194) (fun r0 M0 => r0 = some (.int (b2 ((nI 1).toInt ≤ n.toInt ∧ n.toInt ≤ (nI 30).toInt))) ∧ M1 = M0) [.int n, .int (nI 1), .int (nI 30)] [] rfl rfl rfl (Nat.le_of_ble_eq_true rfl) (Nat.le_of_ble_eq_true rfl) (w_m_isInT _ n (nI 1) (nI 30) M1 _ ⟨rfl, rfl⟩) ?_
  rintro _ _ ⟨rfl, rfl⟩
  show Wn _ 133 _ (20, [(0, .ref 114), (1, .int (nI q)), (2, .int n), (3, .int y)], [.int (b2 ((nI 1).toInt ≤ n.toInt ∧ n.toInt ≤ (nI 30).toInt))], M1)
  refine Wn.run (tab := tb_m_odds) rfl 1 (c' := (if ¬ (b2 ((nI 1).toInt ≤ n.toInt ∧ n.toInt ≤ (nI 30).toInt)) = 0 then 25 else 23, [(0, .ref 114), (1, .int (nI q)), (2, .int n), (3, .int y)], [], M1)) (o := []) rfl trivial ?_
  rw [if_neg (by rw [b2_f hns]; decide)]
  show Wn _ 133 _ (23, [(0, .ref 114), (1, .int (nI q)), (2, .int n), (3, .int y)], [], M1)
  refine Wn.run (tab := tb_m_odds) rfl 1 (c' := (24, [(0, .ref 114), (1, .int (nI q)), (2, .int n), (3, .int y)], [.int (-1 : Int32)], M1)) (o := []) rfl trivial ?_
  exact Wn.iret rfl ⟨rfl, hk3, by rw [hk4]; exact (Gx_up (Gx_rf _ _) (by decide)), hF5⟩
theorem Rs_backD {f0 f : Nat → Int32} {σ : Nat → Nat} (h : Inv σ) {x : Int32} (hp : ∀ r, r < 6 → σ (172 + r) + 6 < 1073741824) (n : Nat) (hn : σ 90 + n ≤ 400) (hr : Rs f0 f (mrg (dK σ x n).1 σ)) : Rs f0 f σ := Rs_cg hr (fun k hk => mrg_eq (fun k hk => dK_lo h hp hk n hn) hk)
set_option maxRecDepth 20000 in
theorem c_m_odds (d : Nat) (M : Mm) (f0 g : Nat → Int32) (σ : Nat → Nat) (hR : Rs f0 (M.1 116) σ) (hV : Inv σ) (hg : M.1 114 = g) (q n : Nat) (y : Int32) (hq : q < σ 2) (h1n : 1 ≤ n) (h2n : n ≤ 30) (hp : ∀ r, r < 6 → σ (172 + r) + 6 < 1073741824) : Wn (d + 8) 133 (PGL M f0 g [0, 22, 35] [114, 116, 122] σ (some (.int (nI (odN σ q (mn 20 (400 - σ 90)) y n))))) (0, lv_args 0 [.ref 114, .int (nI q), .int (nI n), .int y], [], M) := by
  have hF := fr_rf [114, 116, 122] M
  have hB := hV.1
  have c9_2 := Bd_2 hB
  have k90 := Bd_90 hB
  have f9 := Bd_q hB q (by omega)
  have m9 := mn_le 20 (400 - σ 90)
  have m8 := mn_or 20 (400 - σ 90)
  refine Wn.run (tab := tb_m_odds) rfl 3 (c' := (5, [(0, .ref 114), (1, .int (nI q)), (2, .int (nI n)), (3, .int y)], [], (mI M 114 (upd (M.1 114) 0 (nI 0))))) (o := [shp 114 = (0, 10)]) rfl rfl ?_
  generalize hM2 : (mI M 114 (upd (M.1 114) 0 (nI 0))) = M1
  have hk3 := rs_ne hM2 (by decide) hR
  have hk4 := fI_up hM2 hg
  have hF5 := fr_sI hF hM2 (by decide)
  show Wn _ 133 _ (5, [(0, .ref 114), (1, .int (nI q)), (2, .int (nI n)), (3, .int y)], [], M1)
  refine Wn.run (tab := tb_m_odds) rfl 2 (c' := (7, [(0, .ref 114), (1, .int (nI q)), (2, .int (nI n)), (3, .int y)], [.int (nI q), .ref 114], M1)) (o := []) rfl trivial ?_
  refine Wn.callV (p := 114) (n := 2) (ix := 290) (ci := (10)) (fun r0 M0 => r0 = some (.int (nI 1)) ∧ M1 = M0) [.int (nI q)] [] rfl rfl rfl rfl (Nat.le_of_ble_eq_true rfl) (Nat.le_of_ble_eq_true rfl) (w_m_isPersonT _ q (by omega) M1 σ ⟨hk3.1, hB⟩ _ ⟨rfl, rfl⟩) ?_
  rintro _ _ ⟨rfl, rfl⟩
  show Wn _ 133 _ (10, [(0, .ref 114), (1, .int (nI q)), (2, .int (nI n)), (3, .int y)], [.int (nI 1)], M1)
  refine Wn.run (tab := tb_m_odds) rfl 1 (c' := (if (nI 1) = 0 then 23 else 13, [(0, .ref 114), (1, .int (nI q)), (2, .int (nI n)), (3, .int y)], [], M1)) (o := []) rfl trivial ?_
  rw [if_neg (show ¬ ((nI 1) = 0) by decide)]
  show Wn _ 133 _ (13, [(0, .ref 114), (1, .int (nI q)), (2, .int (nI n)), (3, .int y)], [], M1)
  refine Wn.run (tab := tb_m_odds) rfl 3 (c' := (17, [(0, .ref 114), (1, .int (nI q)), (2, .int (nI n)), (3, .int y)], [.int (nI 30), .int (nI 1), .int (nI n)], M1)) (o := []) rfl trivial ?_
  refine Wn.callS (n := 3) (ix := 194) (fun r0 M0 => r0 = some (.int (b2 (1 ≤ n ∧ n ≤ 30))) ∧ M1 = M0) [.int (nI n), .int (nI 1), .int (nI 30)] [] rfl rfl rfl (Nat.le_of_ble_eq_true rfl) (Nat.le_of_ble_eq_true rfl) (w_m_isInN _ n 1 30 (by omega) (by omega) (by omega) M1 _ ⟨rfl, rfl⟩) ?_
  rintro _ _ ⟨rfl, rfl⟩
  show Wn _ 133 _ (20, [(0, .ref 114), (1, .int (nI q)), (2, .int (nI n)), (3, .int y)], [.int (b2 (1 ≤ n ∧ n ≤ 30))], M1)
  refine Wn.run (tab := tb_m_odds) rfl 1 (c' := (if ¬ (b2 (1 ≤ n ∧ n ≤ 30)) = 0 then 25 else 23, [(0, .ref 114), (1, .int (nI q)), (2, .int (nI n)), (3, .int y)], [], M1)) (o := []) rfl trivial ?_
  rw [if_pos (b2_n0.mpr (by omega))]
  show Wn _ 133 _ (25, [(0, .ref 114), (1, .int (nI q)), (2, .int (nI n)), (3, .int y)], [], M1)
  refine Wn.run (tab := tb_m_odds) rfl 1 (c' := (26, [(0, .ref 114), (1, .int (nI q)), (2, .int (nI n)), (3, .int y)], [.ref 114], M1)) (o := []) rfl trivial ?_
  refine Wn.callV (p := 114) (n := 1) (ix := 347) (ci := (10)) (PT M1 σ) [] [] rfl rfl rfl rfl (Nat.le_of_ble_eq_true rfl) (Nat.le_of_ble_eq_true rfl) (c_m_tries _ M1 f0 σ hk3) ?_
  rintro _ M7 ⟨rfl, hb8, hF9⟩
  show Wn _ 133 _ (29, [(0, .ref 114), (1, .int (nI q)), (2, .int (nI n)), (3, .int y)], [], M7)
  have hk10 := fr_rs hF9 (by decide) hk3
  have hk11 := frI_fun hF9 (by decide) hk4
  have hF12 := fr_tr hF5 hF9 (by decide)
  refine Wn.run (tab := tb_m_odds) rfl 4 (c' := (35, [(5, .int (nI 0)), (4, .int (nI 0)), (0, .ref 114), (1, .int (nI q)), (2, .int (nI n)), (3, .int y)], [], M7)) (o := []) rfl trivial ?_
  have loop : ∀ (m k : Nat) (N : Mm), n - k = m → k ≤ n → (Rs f0 (N.1 116) σ) → (Gx [0, 22, 35] g (N.1 114)) → (Fr [114, 116, 122] M N) → (∀ k, k < 88 → N.1 122 k = nI ((sft σ) k)) → Wn (d + 8) 133 (PGL M f0 g [0, 22, 35] [114, 116, 122] σ (some (.int (nI (odN σ q (mn 20 (400 - σ 90)) y n))))) (35, [(5, .int (nI k)), (4, .int (nI (odN σ q (mn 20 (400 - σ 90)) y k))), (0, .ref 114), (1, .int (nI q)), (2, .int (nI n)), (3, .int y)], [], N) := by
    intro m
    induction m using Nat.strongRecOn with
    | _ m ih =>
      intro k N hm hk loop_0 loop_1 loop_2 loop_3
      have ol9 := odN_le σ q (mn 20 (400 - σ 90)) y k
      obtain ⟨g9, hg9⟩ : ∃ g9, N.1 114 = g9 := ⟨_, rfl⟩
      have hx9 := loop_1
      rw [hg9] at hx9
      refine Wn.run (tab := tb_m_odds) rfl 3 (c' := (if (nI n) ≤ (nI k) then 80 else 41, [(5, .int (nI k)), (4, .int (nI (odN σ q (mn 20 (400 - σ 90)) y k))), (0, .ref 114), (1, .int (nI q)), (2, .int (nI n)), (3, .int y)], [], N)) (o := []) rfl trivial ?_
      refine Wn.br (fun h1 => ?_) (fun h1 => ?_)
      · show Wn _ 133 _ (80, [(5, .int (nI k)), (4, .int (nI (odN σ q (mn 20 (400 - σ 90)) y k))), (0, .ref 114), (1, .int (nI q)), (2, .int (nI n)), (3, .int y)], [], N)
        have h1 := (n_le rfl rfl (by omega) (by omega)).mp h1
        refine Wn.run (tab := tb_m_odds) rfl 1 (c' := (82, [(5, .int (nI k)), (4, .int (nI (odN σ q (mn 20 (400 - σ 90)) y k))), (0, .ref 114), (1, .int (nI q)), (2, .int (nI n)), (3, .int y)], [.int (nI (odN σ q (mn 20 (400 - σ 90)) y k))], N)) (o := []) rfl trivial ?_
        have e9 : k = n := by omega
        rw [e9]
        exact Wn.iret rfl ⟨rfl, loop_0, by rw [hg9]; exact hx9, loop_2⟩
      · show Wn _ 133 _ (41, [(5, .int (nI k)), (4, .int (nI (odN σ q (mn 20 (400 - σ 90)) y k))), (0, .ref 114), (1, .int (nI q)), (2, .int (nI n)), (3, .int y)], [], N)
        have h1 := mt (n_le rfl rfl (by omega) (by omega)).mpr h1
        refine Wn.run (tab := tb_m_odds) rfl 5 (c' := (48, [(5, .int (nI k)), (4, .int (nI (odN σ q (mn 20 (400 - σ 90)) y k))), (0, .ref 114), (1, .int (nI q)), (2, .int (nI n)), (3, .int y)], [.int (y + (nI k)), .int (nI 20), .ref 114], N)) (o := []) rfl trivial ?_
        refine Wn.callV (p := 114) (n := 3) (ix := 407) (ci := (10)) (PG N f0 g9 [22, 35] (dK σ (y + (nI k)) (mn 20 (400 - σ 90))).1 (some (.int (nI (mn 20 (400 - σ 90)))))) [.int (nI 20), .int (y + (nI k))] [] rfl rfl rfl rfl (Nat.le_of_ble_eq_true rfl) (Nat.le_of_ble_eq_true rfl) (c_m_draws _ N f0 g9 σ loop_0 hV hg9 20 (by omega) (y + (nI k)) hp) ?_
        rintro _ M13 ⟨rfl, hR14, hx15, hF16⟩
        show Wn _ 133 _ (51, [(5, .int (nI k)), (4, .int (nI (odN σ q (mn 20 (400 - σ 90)) y k))), (0, .ref 114), (1, .int (nI q)), (2, .int (nI n)), (3, .int y)], [.int (nI (mn 20 (400 - σ 90)))], M13)
        obtain ⟨g17, hg18⟩ : ∃ g9, M13.1 114 = g9 := ⟨_, rfl⟩
        have hx19 := hx15
        rw [hg18] at hx19
        have hF20 := fr_tr loop_2 hF16 (by decide)
        have hk21 := fr_row hF16 (by decide) loop_3
        refine Wn.run (tab := tb_m_odds) rfl 4 (c' := (56, [(5, .int (nI k)), (4, .int (nI (odN σ q (mn 20 (400 - σ 90)) y k))), (0, .ref 114), (1, .int (nI q)), (2, .int (nI n)), (3, .int y)], [.int (nI q), .ref 114, .int (nI (odN σ q (mn 20 (400 - σ 90)) y k))], M13)) (o := []) rfl trivial ?_
        refine Wn.callV (p := 114) (n := 2) (ix := 260) (ci := (10)) (fun r0 M0 => r0 = some (.int (b2 (fal (dK σ (y + (nI k)) (mn 20 (400 - σ 90))).1 q = true))) ∧ M13 = M0) [.int (nI q)] [.int (nI (odN σ q (mn 20 (400 - σ 90)) y k))] rfl rfl rfl rfl (Nat.le_of_ble_eq_true rfl) (Nat.le_of_ble_eq_true rfl) (w_m_hasFallen _ q (by omega) M13 (dK σ (y + (nI k)) (mn 20 (400 - σ 90))).1 ⟨hR14.1, (dK_ok hV (x := (y + (nI k))) hp (mn 20 (400 - σ 90)) (by omega)).1.1⟩ _ ⟨rfl, rfl⟩) ?_
        rintro _ _ ⟨rfl, rfl⟩
        show Wn _ 133 _ (59, [(5, .int (nI k)), (4, .int (nI (odN σ q (mn 20 (400 - σ 90)) y k))), (0, .ref 114), (1, .int (nI q)), (2, .int (nI n)), (3, .int y)], [.int (b2 (fal (dK σ (y + (nI k)) (mn 20 (400 - σ 90))).1 q = true)), .int (nI (odN σ q (mn 20 (400 - σ 90)) y k))], M13)
        refine Wn.run (tab := tb_m_odds) rfl 1 (c' := (if (b2 (fal (dK σ (y + (nI k)) (mn 20 (400 - σ 90))).1 q = true)) = 0 then 66 else 62, [(5, .int (nI k)), (4, .int (nI (odN σ q (mn 20 (400 - σ 90)) y k))), (0, .ref 114), (1, .int (nI q)), (2, .int (nI n)), (3, .int y)], [.int (nI (odN σ q (mn 20 (400 - σ 90)) y k))], M13)) (o := []) rfl trivial ?_
        refine Wn.br (fun h2 => ?_) (fun h2 => ?_)
        · show Wn _ 133 _ (66, [(5, .int (nI k)), (4, .int (nI (odN σ q (mn 20 (400 - σ 90)) y k))), (0, .ref 114), (1, .int (nI q)), (2, .int (nI n)), (3, .int y)], [.int (nI (odN σ q (mn 20 (400 - σ 90)) y k))], M13)
          have h2 := b2_neg h2
          refine Wn.run (tab := tb_m_odds) rfl 4 (c' := (71, [(4, .int ((nI (odN σ q (mn 20 (400 - σ 90)) y k)) + (nI 1))), (5, .int (nI k)), (0, .ref 114), (1, .int (nI q)), (2, .int (nI n)), (3, .int y)], [.ref 114], M13)) (o := []) rfl trivial ?_
          rw [show ((nI (odN σ q (mn 20 (400 - σ 90)) y k)) + (nI 1)) = (nI ((odN σ q (mn 20 (400 - σ 90)) y k) + 1)) from (n_add rfl rfl)]
          refine Wn.callV (p := 114) (n := 1) (ix := 350) (ci := (10)) (PB M13 f0 (mrg (dK σ (y + (nI k)) (mn 20 (400 - σ 90))).1 σ)) [] [] rfl rfl rfl rfl (Nat.le_of_ble_eq_true rfl) (Nat.le_of_ble_eq_true rfl) (c_m_back _ M13 f0 (dK σ (y + (nI k)) (mn 20 (400 - σ 90))).1 σ hR14 hk21) ?_
          rintro _ M22 ⟨rfl, hR23, hF24⟩
          show Wn _ 133 _ (74, [(4, .int (nI ((odN σ q (mn 20 (400 - σ 90)) y k) + 1))), (5, .int (nI k)), (0, .ref 114), (1, .int (nI q)), (2, .int (nI n)), (3, .int y)], [], M22)
          have hk25 := frI_fun hF24 (by decide) hg18
          have hF26 := fr_tr hF20 hF24 (by decide)
          have hk27 := fr_row hF24 (by decide) hk21
          refine Wn.run (tab := tb_m_odds) rfl 2 (c' := (35, [(5, .int ((nI k) + (nI 1))), (4, .int (nI ((odN σ q (mn 20 (400 - σ 90)) y k) + 1))), (0, .ref 114), (1, .int (nI q)), (2, .int (nI n)), (3, .int y)], [], M22)) (o := []) rfl trivial ?_
          rw [show ((nI k) + (nI 1)) = (nI (k + 1)) from (n_add rfl rfl)]
          rw [show (nI ((odN σ q (mn 20 (400 - σ 90)) y k) + 1)) = (nI (odN σ q (mn 20 (400 - σ 90)) y (k + 1))) from by show _ = nI (odN σ q (mn 20 (400 - σ 90)) y k + (if _ then 0 else 1)); rw [if_neg h2]]
          exact ih (n - (k + 1)) (by omega) (k + 1) M22 rfl (by omega) (Rs_backD hV hp _ (by omega) hR23) (by rw [hk25]; exact Gx_tr hx9 (Gx_tr (Gx_rf _ _) (Gx_mono hx19 (by decide)))) hF26 hk27
        · show Wn _ 133 _ (62, [(5, .int (nI k)), (4, .int (nI (odN σ q (mn 20 (400 - σ 90)) y k))), (0, .ref 114), (1, .int (nI q)), (2, .int (nI n)), (3, .int y)], [.int (nI (odN σ q (mn 20 (400 - σ 90)) y k))], M13)
          have h2 := b2_pos h2
          refine Wn.run (tab := tb_m_odds) rfl 5 (c' := (71, [(4, .int ((nI (odN σ q (mn 20 (400 - σ 90)) y k)) + (nI 0))), (5, .int (nI k)), (0, .ref 114), (1, .int (nI q)), (2, .int (nI n)), (3, .int y)], [.ref 114], M13)) (o := []) rfl trivial ?_
          rw [show ((nI (odN σ q (mn 20 (400 - σ 90)) y k)) + (nI 0)) = (nI ((odN σ q (mn 20 (400 - σ 90)) y k) + 0)) from (n_add rfl rfl)]
          refine Wn.callV (p := 114) (n := 1) (ix := 350) (ci := (10)) (PB M13 f0 (mrg (dK σ (y + (nI k)) (mn 20 (400 - σ 90))).1 σ)) [] [] rfl rfl rfl rfl (Nat.le_of_ble_eq_true rfl) (Nat.le_of_ble_eq_true rfl) (c_m_back _ M13 f0 (dK σ (y + (nI k)) (mn 20 (400 - σ 90))).1 σ hR14 hk21) ?_
          rintro _ M28 ⟨rfl, hR29, hF30⟩
          show Wn _ 133 _ (74, [(4, .int (nI ((odN σ q (mn 20 (400 - σ 90)) y k) + 0))), (5, .int (nI k)), (0, .ref 114), (1, .int (nI q)), (2, .int (nI n)), (3, .int y)], [], M28)
          have hk31 := frI_fun hF30 (by decide) hg18
          have hF32 := fr_tr hF20 hF30 (by decide)
          have hk33 := fr_row hF30 (by decide) hk21
          refine Wn.run (tab := tb_m_odds) rfl 2 (c' := (35, [(5, .int ((nI k) + (nI 1))), (4, .int (nI ((odN σ q (mn 20 (400 - σ 90)) y k) + 0))), (0, .ref 114), (1, .int (nI q)), (2, .int (nI n)), (3, .int y)], [], M28)) (o := []) rfl trivial ?_
          rw [show ((nI k) + (nI 1)) = (nI (k + 1)) from (n_add rfl rfl)]
          rw [show (nI ((odN σ q (mn 20 (400 - σ 90)) y k) + 0)) = (nI (odN σ q (mn 20 (400 - σ 90)) y (k + 1))) from by show _ = nI (odN σ q (mn 20 (400 - σ 90)) y k + (if _ then 0 else 1)); rw [if_pos h2]]
          exact ih (n - (k + 1)) (by omega) (k + 1) M28 rfl (by omega) (Rs_backD hV hp _ (by omega) hR29) (by rw [hk31]; exact Gx_tr hx9 (Gx_tr (Gx_rf _ _) (Gx_mono hx19 (by decide)))) hF32 hk33
  exact loop (n - 0) 0 M7 rfl (by omega) hk10 (by rw [hk11]; exact (Gx_up (Gx_rf _ _) (by decide))) hF12 hb8
