/-! wayAt: what was left. -/
theorem c_i_wayAt (d : Nat) (M : Mm) (g u : Nat → Int32) (n : Nat) (hg : M.1 83 = g) (hn : g 3 = nI n) (hn6 : n < 64) (hu : M.1 86 = u) (k : Nat) (hk : k < n) : Wn (d + 1) 19 (PN M (some (.int (u k)))) (0, lv_args 0 [.ref 0, .int (nI k)], [], M) := by
  refine Wn.run (tab := tb_i_wayAt) rfl 3 (c' := (5, [(0, .ref 0), (1, .int (nI k))], [.int (nI k), .ref 83], M)) (o := [shp 0 = (0, 9)]) rfl rfl ?_
  refine Wn.callV (p := 83) (n := 2) (ix := 298) (ci := (7)) (PN M (some (.int (u k)))) [.int (nI k)] [] rfl rfl rfl rfl (Nat.le_of_ble_eq_true rfl) (Nat.le_of_ble_eq_true rfl) (c_wy_stepAt _ M g u n hg hn hn6 hu k hk) ?_
  rintro _ M1 ⟨rfl, hm⟩
  have hm := hm.symm
  subst hm
  show Wn _ 19 _ (8, [(0, .ref 0), (1, .int (nI k))], [.int (u k)], M)
  exact Wn.iret rfl ⟨rfl, rfl⟩
theorem c_i_wayAtL (d : Nat) (M : Mm) (g u : Nat → Int32) (n : Nat) (hg : M.1 83 = g) (hn : g 3 = nI n) (hn6 : n < 64) (hu : M.1 86 = u) (x : Int32) (hns : x < 0) : Wn (d + 1) 19 (PN M (some (.int (-1)))) (0, lv_args 0 [.ref 0, .int x], [], M) := by
  refine Wn.run (tab := tb_i_wayAt) rfl 3 (c' := (5, [(0, .ref 0), (1, .int x)], [.int x, .ref 83], M)) (o := [shp 0 = (0, 9)]) rfl rfl ?_
  refine Wn.callV (p := 83) (n := 2) (ix := 298) (ci := (7)) (PN M (some (.int (-1)))) [.int x] [] rfl rfl rfl rfl (Nat.le_of_ble_eq_true rfl) (Nat.le_of_ble_eq_true rfl) (c_wy_stepAtL _ M g u n hg hn hn6 hu x hns) ?_
  rintro _ M1 ⟨rfl, hm⟩
  have hm := hm.symm
  subst hm
  show Wn _ 19 _ (8, [(0, .ref 0), (1, .int x)], [.int (-1)], M)
  exact Wn.iret rfl ⟨rfl, rfl⟩
theorem c_i_wayAtH (d : Nat) (M : Mm) (g u : Nat → Int32) (n : Nat) (hg : M.1 83 = g) (hn : g 3 = nI n) (hn6 : n < 64) (hu : M.1 86 = u) (x : Int32) (hns : ¬ x < 0) (hn2 : (nI n) ≤ x) : Wn (d + 1) 19 (PN M (some (.int (-1)))) (0, lv_args 0 [.ref 0, .int x], [], M) := by
  refine Wn.run (tab := tb_i_wayAt) rfl 3 (c' := (5, [(0, .ref 0), (1, .int x)], [.int x, .ref 83], M)) (o := [shp 0 = (0, 9)]) rfl rfl ?_
  refine Wn.callV (p := 83) (n := 2) (ix := 298) (ci := (7)) (PN M (some (.int (-1)))) [.int x] [] rfl rfl rfl rfl (Nat.le_of_ble_eq_true rfl) (Nat.le_of_ble_eq_true rfl) (c_wy_stepAtH _ M g u n hg hn hn6 hu x hns hn2) ?_
  rintro _ M1 ⟨rfl, hm⟩
  have hm := hm.symm
  subst hm
  show Wn _ 19 _ (8, [(0, .ref 0), (1, .int x)], [.int (-1)], M)
  exact Wn.iret rfl ⟨rfl, rfl⟩
theorem sub1_lt : ∀ n, n < 64 → (nI n - nI 1).toInt < (nI n).toInt := by decide +kernel
set_option maxRecDepth 20000 in
theorem c_m_wayAtX (d : Nat) (M : Mm) (g : Nat → Int32) (hg : M.1 114 = g) (n : Nat) (hn : g 30 = nI n) (hn6 : n < 64) (x : Int32) (hx : x < 0 ∨ (nI n) ≤ x) : Wn (d + 1) 110 (PO M g (nI 0) (some (.int (-1)))) (0, lv_args 0 [.ref 114, .int x], [], M) := by
  refine Wn.run (tab := tb_m_wayAt) rfl 3 (c' := (5, [(0, .ref 114), (1, .int x)], [], (mI M 114 (upd (M.1 114) 0 (nI 0))))) (o := [shp 114 = (0, 10)]) rfl rfl ?_
  rw [hg]
  generalize hM0 : (mI M 114 (upd g 0 (nI 0))) = M0
  have f0 := fr_1I hM0
  have g0 : M0.1 114 = upd g 0 (nI 0) := mI_eq hM0
  have e30 : M0.1 114 30 = nI n := by rw [g0, pk_un (by decide)]; exact hn
  refine Wn.run (tab := tb_m_wayAt) rfl 6 (c' := (13, [(0, .ref 114), (1, .int x)], [.int ((M0.1 114 30) - (nI 1)), .int (nI 0), .int x], M0)) (o := [shp 114 = (0, 10)]) rfl rfl ?_
  rw [e30]
  refine Wn.callS (n := 3) (ix := 194) (fun r0 M1 => r0 = some (.int (nI 0)) ∧ M0 = M1) [.int x, .int (nI 0), .int ((nI n) - (nI 1))] [] rfl rfl rfl (Nat.le_of_ble_eq_true rfl) (Nat.le_of_ble_eq_true rfl) (w_m_isInT _ _ _ _ M0 _ ⟨?_, rfl⟩) ?_
  rotate_left
  · rintro _ _ ⟨rfl, rfl⟩
    show Wn _ 110 _ (16, [(0, .ref 114), (1, .int x)], [.int (nI 0)], M0)
    refine Wn.run (tab := tb_m_wayAt) rfl 1 (c' := (if (nI 0) = 0 then 28 else 19, [(0, .ref 114), (1, .int x)], [], M0)) (o := []) rfl trivial ?_
    rw [if_pos (show nI 0 = 0 by decide)]
    refine Wn.run (tab := tb_m_wayAt) rfl 1 (c' := (29, [(0, .ref 114), (1, .int x)], [.int (-1 : Int32)], M0)) (o := []) rfl trivial ?_
    exact Wn.iret rfl ⟨rfl, by rw [g0, pk_us], by rw [g0]; exact Gx_up (Gx_rf _ _) (by decide), f0⟩
  · have hnn : ¬ ((nI 0).toInt ≤ x.toInt ∧ x.toInt ≤ ((nI n) - (nI 1)).toInt) := by
      intro h
      have h1 := h.1
      have h2 := h.2
      rw [show (nI 0).toInt = 0 from rfl] at h1
      rcases hx with hx | hx
      · have := Int32.lt_iff_toInt_lt.mp hx
        rw [show (0 : Int32).toInt = 0 from rfl] at this
        omega
      · have a := Int32.le_iff_toInt_le.mp hx
        have b := sub1_lt n hn6
        omega
    rw [b2_f hnn]
    rfl
