/-! A line of a book, lived by the reference. -/
def PDo (M0 : Mm) (f0 g : Nat → Int32) (σ : Nat → Nat) (r : Nat) : Po := fun r0 M' => r0 = some (.int (nI r)) ∧ Rs f0 (M'.1 116) σ ∧ Gx [22] g (M'.1 114) ∧ Fr [114, 116] M0 M'
set_option maxRecDepth 20000 in
theorem c_m_does_0 (d : Nat) (M : Mm) (f0 g : Nat → Int32) (σ : Nat → Nat) (hR : Rs f0 (M.1 116) σ) (hV : Inv σ) (hg : M.1 114 = g) (q s : Nat) (hq : q < σ 2) (hs : s < 4) : Wn (d + 6) 135 (PDo M f0 g (doS σ (0, q, s)) (doW σ (0, q, s))) (0, lv_args 0 [.ref 114, .int (nI 0), .int (nI q), .int (nI s)], [], M) := by
  have hF := fr_rf [114, 116] M
  have hB := hV.1
  have hI := hV.2.1
  have c9_2 := Bd_2 hB
  have k90 := Bd_90 hB
  have f9 := Bd_q hB q (by omega)
  have wl9 := wgo_le σ q s
  refine Wn.run (tab := tb_m_does) rfl 4 (c' := (tsw [0, 3, 146, 36, 77, 97, 118] (nI 0), [(4, .int (nI 0)), (0, .ref 114), (1, .int (nI 0)), (2, .int (nI q)), (3, .int (nI s))], [], M)) (o := []) rfl trivial ?_
  rw [show tsw [0, 3, 146, 36, 77, 97, 118] (nI 0) = 36 from rfl]
  show Wn _ 135 _ (36, [(4, .int (nI 0)), (0, .ref 114), (1, .int (nI 0)), (2, .int (nI q)), (3, .int (nI s))], [], M)
  refine Wn.run (tab := tb_m_does) rfl 3 (c' := (39, [(4, .int (nI 0)), (0, .ref 114), (1, .int (nI 0)), (2, .int (nI q)), (3, .int (nI s))], [.int (nI s), .int (nI q), .ref 114], M)) (o := []) rfl trivial ?_
  refine Wn.callV (p := 114) (n := 3) (ix := 287) (ci := (10)) (fun r0 M0 => r0 = some (.int (nI (wgo σ q s))) ∧ M = M0) [.int (nI q), .int (nI s)] [] rfl rfl rfl rfl (Nat.le_of_ble_eq_true rfl) (Nat.le_of_ble_eq_true rfl) (w_m_whyGo _ q s (by omega) (by omega) M σ ⟨hR.1, hB⟩ _ ⟨rfl, rfl⟩) ?_
  rintro _ _ ⟨rfl, rfl⟩
  show Wn _ 135 _ (42, [(4, .int (nI 0)), (0, .ref 114), (1, .int (nI 0)), (2, .int (nI q)), (3, .int (nI s))], [.int (nI (wgo σ q s))], M)
  have wl9 := wgo_le σ q s
  refine Wn.run (tab := tb_m_does) rfl 3 (c' := (if ¬ (nI (wgo σ q s)) = 0 then 179 else 49, [(4, .int (nI (wgo σ q s))), (0, .ref 114), (1, .int (nI 0)), (2, .int (nI q)), (3, .int (nI s))], [], M)) (o := []) rfl trivial ?_
  refine Wn.br (fun h1 => ?_) (fun h1 => ?_)
  · show Wn _ 135 _ (179, [(4, .int (nI (wgo σ q s))), (0, .ref 114), (1, .int (nI 0)), (2, .int (nI q)), (3, .int (nI s))], [], M)
    have h1 := mt (n_eq rfl nI_0.symm (by omega) (by omega)).mpr h1
    refine Wn.run (tab := tb_m_does) rfl 2 (c' := (if (nI (wgo σ q s)) ≤ 0 then 194 else 184, [(4, .int (nI (wgo σ q s))), (0, .ref 114), (1, .int (nI 0)), (2, .int (nI q)), (3, .int (nI s))], [], M)) (o := []) rfl trivial ?_
    refine Wn.br (fun h2 => ?_) (fun h2 => ?_)
    · show Wn _ 135 _ (194, [(4, .int (nI (wgo σ q s))), (0, .ref 114), (1, .int (nI 0)), (2, .int (nI q)), (3, .int (nI s))], [], M)
      have h2 := (n_le rfl nI_0.symm (by omega) (by omega)).mp h2
      refine Wn.run (tab := tb_m_does) rfl 1 (c' := (195, [(4, .int (nI (wgo σ q s))), (0, .ref 114), (1, .int (nI 0)), (2, .int (nI q)), (3, .int (nI s))], [.int (nI 0)], M)) (o := []) rfl trivial ?_
      have e9 : 0 = doW σ ((0, q, s) : Bke) := by
        show 0 = wgo σ q s
        first | omega | (split <;> omega) | (split <;> simp_all)
      rw [show (nI 0) = nI (doW σ ((0, q, s) : Bke)) from (rfl).trans (congrArg nI e9)]
      rw [show doS σ ((0, q, s) : Bke) = gof σ q s from rfl]
      rw [gof_no (by omega)]
      exact Wn.iret rfl ⟨rfl, hR, by rw [hg]; exact (Gx_rf _ _), hF⟩
    · show Wn _ 135 _ (184, [(4, .int (nI (wgo σ q s))), (0, .ref 114), (1, .int (nI 0)), (2, .int (nI q)), (3, .int (nI s))], [], M)
      have h2 := mt (n_le rfl nI_0.symm (by omega) (by omega)).mpr h2
      refine Wn.run (tab := tb_m_does) rfl 6 (c' := (195, [(4, .int (nI (wgo σ q s))), (0, .ref 114), (1, .int (nI 0)), (2, .int (nI q)), (3, .int (nI s))], [.int (((nI 10) * (nI 0)) + (nI (wgo σ q s)))], M)) (o := []) rfl trivial ?_
      rw [show (((nI 10) * (nI 0)) + (nI (wgo σ q s))) = (nI ((10 * 0) + (wgo σ q s))) from (n_add (n_mul rfl rfl) rfl)]
      have e9 : ((10 * 0) + (wgo σ q s)) = doW σ ((0, q, s) : Bke) := by
        show ((10 * 0) + (wgo σ q s)) = wgo σ q s
        first | omega | (split <;> omega) | (split <;> simp_all)
      rw [show (nI ((10 * 0) + (wgo σ q s))) = nI (doW σ ((0, q, s) : Bke)) from (rfl).trans (congrArg nI e9)]
      rw [show doS σ ((0, q, s) : Bke) = gof σ q s from rfl]
      rw [gof_no (by omega)]
      exact Wn.iret rfl ⟨rfl, hR, by rw [hg]; exact (Gx_rf _ _), hF⟩
  · show Wn _ 135 _ (49, [(4, .int (nI (wgo σ q s))), (0, .ref 114), (1, .int (nI 0)), (2, .int (nI q)), (3, .int (nI s))], [], M)
    have h1 := (n_eq rfl nI_0.symm (by omega) (by omega)).mp (Classical.not_not.mp h1)
    have h0 : wgo σ q s = 0 := by omega
    obtain ⟨k1, hb1, hf1, hl1⟩ := wgo_some h0
    have hk1 := bes_lt hB (by omega) hb1
    refine Wn.run (tab := tb_m_does) rfl 13 (c' := (70, [(4, .int (nI (wgo σ q s))), (0, .ref 114), (1, .int (nI 0)), (2, .int (nI q)), (3, .int (nI s))], [.int (nI s), .int (M.1 116 (((nI 160) + (nI q))).toNatClampNeg), .ref 114, .int ((nI 160) + (nI q)), .ref 116], M)) (o := [shp 114 = (0, 10), shp 114 = (0, 10), aok shp 116 0 ((nI 160) + (nI q))]) rfl ⟨rfl, rfl, (ak1 (n := 359) rfl rfl (n_add rfl rfl) (by omega))⟩ ?_
    have f9 := Bd_q hB q (by omega)
    rw [show (M.1 116 (((nI 160) + (nI q))).toNatClampNeg) = (nI (σ (160 + q))) from (rd1 hR.1 (n_add rfl rfl) (by omega) (by omega))]
    rw [show ((nI 160) + (nI q)) = (nI (160 + q)) from (n_add rfl rfl)]
    refine Wn.callV (p := 114) (n := 3) (ix := 281) (ci := (10)) (fun r0 M0 => r0 = some (.int (oI (bes σ (σ (160 + q)) s))) ∧ M = M0) [.int (nI (σ (160 + q))), .int (nI s)] [.int (nI (160 + q)), .ref 116] rfl rfl rfl rfl (Nat.le_of_ble_eq_true rfl) (Nat.le_of_ble_eq_true rfl) (w_m_beside _ (σ (160 + q)) s (by omega) (by omega) M σ ⟨hR.1, hB⟩ _ ⟨rfl, rfl⟩) ?_
    rintro _ _ ⟨rfl, rfl⟩
    show Wn _ 135 _ (73, [(4, .int (nI (wgo σ q s))), (0, .ref 114), (1, .int (nI 0)), (2, .int (nI q)), (3, .int (nI s))], [.int (oI (bes σ (σ (160 + q)) s)), .int (nI (160 + q)), .ref 116], M)
    rw [hb1]
    show Wn _ 135 _ (73, [(4, .int (nI (wgo σ q s))), (0, .ref 114), (1, .int (nI 0)), (2, .int (nI q)), (3, .int (nI s))], [.int (nI k1), .int (nI (160 + q)), .ref 116], M)
    refine Wn.run (tab := tb_m_does) rfl 1 (c' := (74, [(4, .int (nI (wgo σ q s))), (0, .ref 114), (1, .int (nI 0)), (2, .int (nI q)), (3, .int (nI s))], [], (mI M 116 (upd (M.1 116) ((nI (160 + q))).toNatClampNeg (nI k1))))) (o := [aok shp 116 0 (nI (160 + q))]) rfl (ak1 (n := 359) rfl rfl rfl (by omega)) ?_
    generalize hM2 : (mI M 116 (upd (M.1 116) ((nI (160 + q))).toNatClampNeg (nI k1))) = M1
    have hk3 : Rs f0 (M1.1 116) (su σ (160 + q) k1) := rs_up hM2 hR (cl1 rfl (by omega)) (by omega) rfl
    have hk4 := fI_ne hM2 (by decide) hg
    have hF5 := fr_sI hF hM2 (by decide)
    show Wn _ 135 _ (74, [(4, .int (nI (wgo σ q s))), (0, .ref 114), (1, .int (nI 0)), (2, .int (nI q)), (3, .int (nI s))], [], M1)
    refine Wn.run (tab := tb_m_does) rfl 3 (c' := (if (nI (wgo σ q s)) ≤ 0 then 194 else 184, [(4, .int (nI (wgo σ q s))), (0, .ref 114), (1, .int (nI 0)), (2, .int (nI q)), (3, .int (nI s))], [], M1)) (o := []) rfl trivial ?_
    refine Wn.br (fun h3 => ?_) (fun h3 => ?_)
    · show Wn _ 135 _ (194, [(4, .int (nI (wgo σ q s))), (0, .ref 114), (1, .int (nI 0)), (2, .int (nI q)), (3, .int (nI s))], [], M1)
      have h3 := (n_le rfl nI_0.symm (by omega) (by omega)).mp h3
      refine Wn.run (tab := tb_m_does) rfl 1 (c' := (195, [(4, .int (nI (wgo σ q s))), (0, .ref 114), (1, .int (nI 0)), (2, .int (nI q)), (3, .int (nI s))], [.int (nI 0)], M1)) (o := []) rfl trivial ?_
      have e9 : 0 = doW σ ((0, q, s) : Bke) := by
        show 0 = wgo σ q s
        first | omega | (split <;> omega) | (split <;> simp_all)
      rw [show (nI 0) = nI (doW σ ((0, q, s) : Bke)) from (rfl).trans (congrArg nI e9)]
      rw [show doS σ ((0, q, s) : Bke) = gof σ q s from rfl]
      rw [gof_yes hb1 h0]
      exact Wn.iret rfl ⟨rfl, hk3, by rw [hk4]; exact (Gx_rf _ _), hF5⟩
    · show Wn _ 135 _ (184, [(4, .int (nI (wgo σ q s))), (0, .ref 114), (1, .int (nI 0)), (2, .int (nI q)), (3, .int (nI s))], [], M1)
      have h3 := mt (n_le rfl nI_0.symm (by omega) (by omega)).mpr h3
      refine Wn.run (tab := tb_m_does) rfl 6 (c' := (195, [(4, .int (nI (wgo σ q s))), (0, .ref 114), (1, .int (nI 0)), (2, .int (nI q)), (3, .int (nI s))], [.int (((nI 10) * (nI 0)) + (nI (wgo σ q s)))], M1)) (o := []) rfl trivial ?_
      rw [show (((nI 10) * (nI 0)) + (nI (wgo σ q s))) = (nI ((10 * 0) + (wgo σ q s))) from (n_add (n_mul rfl rfl) rfl)]
      have e9 : ((10 * 0) + (wgo σ q s)) = doW σ ((0, q, s) : Bke) := by
        show ((10 * 0) + (wgo σ q s)) = wgo σ q s
        first | omega | (split <;> omega) | (split <;> simp_all)
      rw [show (nI ((10 * 0) + (wgo σ q s))) = nI (doW σ ((0, q, s) : Bke)) from (rfl).trans (congrArg nI e9)]
      rw [show doS σ ((0, q, s) : Bke) = gof σ q s from rfl]
      rw [gof_yes hb1 h0]
      exact Wn.iret rfl ⟨rfl, hk3, by rw [hk4]; exact (Gx_rf _ _), hF5⟩
set_option maxRecDepth 20000 in
theorem c_m_does_1 (d : Nat) (M : Mm) (f0 g : Nat → Int32) (σ : Nat → Nat) (hR : Rs f0 (M.1 116) σ) (hV : Inv σ) (hg : M.1 114 = g) (q xx : Nat) (x : Int32) (hq : q < σ 2) : Wn (d + 3) 135 (PDo M f0 g (doS σ (1, q, xx)) (doW σ (1, q, xx))) (0, lv_args 0 [.ref 114, .int (nI 1), .int (nI q), .int x], [], M) := by
  have hF := fr_rf [114, 116] M
  have hB := hV.1
  have hI := hV.2.1
  have c9_2 := Bd_2 hB
  have k90 := Bd_90 hB
  have f9 := Bd_q hB q (by omega)
  have wl9 := wbw_le σ q
  refine Wn.run (tab := tb_m_does) rfl 4 (c' := (tsw [0, 3, 146, 36, 77, 97, 118] (nI 1), [(4, .int (nI 0)), (0, .ref 114), (1, .int (nI 1)), (2, .int (nI q)), (3, .int x)], [], M)) (o := []) rfl trivial ?_
  rw [show tsw [0, 3, 146, 36, 77, 97, 118] (nI 1) = 77 from rfl]
  show Wn _ 135 _ (77, [(4, .int (nI 0)), (0, .ref 114), (1, .int (nI 1)), (2, .int (nI q)), (3, .int x)], [], M)
  refine Wn.run (tab := tb_m_does) rfl 2 (c' := (79, [(4, .int (nI 0)), (0, .ref 114), (1, .int (nI 1)), (2, .int (nI q)), (3, .int x)], [.int (nI q), .ref 114], M)) (o := []) rfl trivial ?_
  refine Wn.callV (p := 114) (n := 2) (ix := 324) (ci := (10)) (fun r0 M0 => r0 = some (.int (nI (wbw σ q))) ∧ M = M0) [.int (nI q)] [] rfl rfl rfl rfl (Nat.le_of_ble_eq_true rfl) (Nat.le_of_ble_eq_true rfl) (w_m_whyBow _ q (by omega) M σ ⟨hR.1, hB⟩ _ ⟨rfl, rfl⟩) ?_
  rintro _ _ ⟨rfl, rfl⟩
  show Wn _ 135 _ (82, [(4, .int (nI 0)), (0, .ref 114), (1, .int (nI 1)), (2, .int (nI q)), (3, .int x)], [.int (nI (wbw σ q))], M)
  have wb9 := wbw_le σ q
  refine Wn.run (tab := tb_m_does) rfl 3 (c' := (if ¬ (nI (wbw σ q)) = 0 then 179 else 89, [(4, .int (nI (wbw σ q))), (0, .ref 114), (1, .int (nI 1)), (2, .int (nI q)), (3, .int x)], [], M)) (o := []) rfl trivial ?_
  refine Wn.br (fun h1 => ?_) (fun h1 => ?_)
  · show Wn _ 135 _ (179, [(4, .int (nI (wbw σ q))), (0, .ref 114), (1, .int (nI 1)), (2, .int (nI q)), (3, .int x)], [], M)
    have h1 := mt (n_eq rfl nI_0.symm (by omega) (by omega)).mpr h1
    refine Wn.run (tab := tb_m_does) rfl 2 (c' := (if (nI (wbw σ q)) ≤ 0 then 194 else 184, [(4, .int (nI (wbw σ q))), (0, .ref 114), (1, .int (nI 1)), (2, .int (nI q)), (3, .int x)], [], M)) (o := []) rfl trivial ?_
    refine Wn.br (fun h2 => ?_) (fun h2 => ?_)
    · show Wn _ 135 _ (194, [(4, .int (nI (wbw σ q))), (0, .ref 114), (1, .int (nI 1)), (2, .int (nI q)), (3, .int x)], [], M)
      have h2 := (n_le rfl nI_0.symm (by omega) (by omega)).mp h2
      refine Wn.run (tab := tb_m_does) rfl 1 (c' := (195, [(4, .int (nI (wbw σ q))), (0, .ref 114), (1, .int (nI 1)), (2, .int (nI q)), (3, .int x)], [.int (nI 0)], M)) (o := []) rfl trivial ?_
      have e9 : 0 = doW σ ((1, q, xx) : Bke) := by
        show 0 = (if wbw σ q = 0 then 0 else 10 + wbw σ q)
        first | omega | (split <;> omega) | (split <;> simp_all)
      rw [show (nI 0) = nI (doW σ ((1, q, xx) : Bke)) from (rfl).trans (congrArg nI e9)]
      rw [show doS σ ((1, q, xx) : Bke) = bowf σ q from rfl]
      rw [show bowf σ q = σ from if_neg (show ¬ wbw σ q = 0 by omega)]
      exact Wn.iret rfl ⟨rfl, hR, by rw [hg]; exact (Gx_rf _ _), hF⟩
    · show Wn _ 135 _ (184, [(4, .int (nI (wbw σ q))), (0, .ref 114), (1, .int (nI 1)), (2, .int (nI q)), (3, .int x)], [], M)
      have h2 := mt (n_le rfl nI_0.symm (by omega) (by omega)).mpr h2
      refine Wn.run (tab := tb_m_does) rfl 6 (c' := (195, [(4, .int (nI (wbw σ q))), (0, .ref 114), (1, .int (nI 1)), (2, .int (nI q)), (3, .int x)], [.int (((nI 10) * (nI 1)) + (nI (wbw σ q)))], M)) (o := []) rfl trivial ?_
      rw [show (((nI 10) * (nI 1)) + (nI (wbw σ q))) = (nI ((10 * 1) + (wbw σ q))) from (n_add (n_mul rfl rfl) rfl)]
      have e9 : ((10 * 1) + (wbw σ q)) = doW σ ((1, q, xx) : Bke) := by
        show ((10 * 1) + (wbw σ q)) = (if wbw σ q = 0 then 0 else 10 + wbw σ q)
        first | omega | (split <;> omega) | (split <;> simp_all)
      rw [show (nI ((10 * 1) + (wbw σ q))) = nI (doW σ ((1, q, xx) : Bke)) from (rfl).trans (congrArg nI e9)]
      rw [show doS σ ((1, q, xx) : Bke) = bowf σ q from rfl]
      rw [show bowf σ q = σ from if_neg (show ¬ wbw σ q = 0 by omega)]
      exact Wn.iret rfl ⟨rfl, hR, by rw [hg]; exact (Gx_rf _ _), hF⟩
  · show Wn _ 135 _ (89, [(4, .int (nI (wbw σ q))), (0, .ref 114), (1, .int (nI 1)), (2, .int (nI q)), (3, .int x)], [], M)
    have h1 := (n_eq rfl nI_0.symm (by omega) (by omega)).mp (Classical.not_not.mp h1)
    refine Wn.run (tab := tb_m_does) rfl 2 (c' := (91, [(4, .int (nI (wbw σ q))), (0, .ref 114), (1, .int (nI 1)), (2, .int (nI q)), (3, .int x)], [.int (nI q), .ref 114], M)) (o := []) rfl trivial ?_
    refine Wn.callV (p := 114) (n := 2) (ix := 327) (ci := (10)) (PM M f0 g (bend σ q) none) [.int (nI q)] [] rfl rfl rfl rfl (Nat.le_of_ble_eq_true rfl) (Nat.le_of_ble_eq_true rfl) (c_m_bends _ M f0 g σ hR hB hg q (by omega)) ?_
    rintro _ M1 ⟨rfl, hR2, hg3, hF4⟩
    show Wn _ 135 _ (94, [(4, .int (nI (wbw σ q))), (0, .ref 114), (1, .int (nI 1)), (2, .int (nI q)), (3, .int x)], [], M1)
    have hF5 := fr_tr hF hF4 (by decide)
    refine Wn.run (tab := tb_m_does) rfl 3 (c' := (if (nI (wbw σ q)) ≤ 0 then 194 else 184, [(4, .int (nI (wbw σ q))), (0, .ref 114), (1, .int (nI 1)), (2, .int (nI q)), (3, .int x)], [], M1)) (o := []) rfl trivial ?_
    refine Wn.br (fun h3 => ?_) (fun h3 => ?_)
    · show Wn _ 135 _ (194, [(4, .int (nI (wbw σ q))), (0, .ref 114), (1, .int (nI 1)), (2, .int (nI q)), (3, .int x)], [], M1)
      have h3 := (n_le rfl nI_0.symm (by omega) (by omega)).mp h3
      refine Wn.run (tab := tb_m_does) rfl 1 (c' := (195, [(4, .int (nI (wbw σ q))), (0, .ref 114), (1, .int (nI 1)), (2, .int (nI q)), (3, .int x)], [.int (nI 0)], M1)) (o := []) rfl trivial ?_
      have e9 : 0 = doW σ ((1, q, xx) : Bke) := by
        show 0 = (if wbw σ q = 0 then 0 else 10 + wbw σ q)
        first | omega | (split <;> omega) | (split <;> simp_all)
      rw [show (nI 0) = nI (doW σ ((1, q, xx) : Bke)) from (rfl).trans (congrArg nI e9)]
      rw [show doS σ ((1, q, xx) : Bke) = bowf σ q from rfl]
      rw [show bowf σ q = (bend σ q) from if_pos (show wbw σ q = 0 by omega)]
      exact Wn.iret rfl ⟨rfl, hR2, by rw [hg3]; exact (Gx_rf _ _), hF5⟩
    · show Wn _ 135 _ (184, [(4, .int (nI (wbw σ q))), (0, .ref 114), (1, .int (nI 1)), (2, .int (nI q)), (3, .int x)], [], M1)
      have h3 := mt (n_le rfl nI_0.symm (by omega) (by omega)).mpr h3
      refine Wn.run (tab := tb_m_does) rfl 6 (c' := (195, [(4, .int (nI (wbw σ q))), (0, .ref 114), (1, .int (nI 1)), (2, .int (nI q)), (3, .int x)], [.int (((nI 10) * (nI 1)) + (nI (wbw σ q)))], M1)) (o := []) rfl trivial ?_
      rw [show (((nI 10) * (nI 1)) + (nI (wbw σ q))) = (nI ((10 * 1) + (wbw σ q))) from (n_add (n_mul rfl rfl) rfl)]
      have e9 : ((10 * 1) + (wbw σ q)) = doW σ ((1, q, xx) : Bke) := by
        show ((10 * 1) + (wbw σ q)) = (if wbw σ q = 0 then 0 else 10 + wbw σ q)
        first | omega | (split <;> omega) | (split <;> simp_all)
      rw [show (nI ((10 * 1) + (wbw σ q))) = nI (doW σ ((1, q, xx) : Bke)) from (rfl).trans (congrArg nI e9)]
      rw [show doS σ ((1, q, xx) : Bke) = bowf σ q from rfl]
      rw [show bowf σ q = (bend σ q) from if_pos (show wbw σ q = 0 by omega)]
      exact Wn.iret rfl ⟨rfl, hR2, by rw [hg3]; exact (Gx_rf _ _), hF5⟩
set_option maxRecDepth 20000 in
theorem c_m_does_2 (d : Nat) (M : Mm) (f0 g : Nat → Int32) (σ : Nat → Nat) (hR : Rs f0 (M.1 116) σ) (hV : Inv σ) (hg : M.1 114 = g) (q s : Nat) (hq : q < σ 2) (hs : s < σ 2) (hp : σ (172 + s) + 1 < 1073741824) : Wn (d + 6) 135 (PDo M f0 g (doS σ (2, q, s)) (doW σ (2, q, s))) (0, lv_args 0 [.ref 114, .int (nI 2), .int (nI q), .int (nI s)], [], M) := by
  have hF := fr_rf [114, 116] M
  have hB := hV.1
  have hI := hV.2.1
  have c9_2 := Bd_2 hB
  have k90 := Bd_90 hB
  have f9 := Bd_q hB q (by omega)
  have wl9 := wpr_le σ q s
  refine Wn.run (tab := tb_m_does) rfl 4 (c' := (tsw [0, 3, 146, 36, 77, 97, 118] (nI 2), [(4, .int (nI 0)), (0, .ref 114), (1, .int (nI 2)), (2, .int (nI q)), (3, .int (nI s))], [], M)) (o := []) rfl trivial ?_
  rw [show tsw [0, 3, 146, 36, 77, 97, 118] (nI 2) = 97 from rfl]
  show Wn _ 135 _ (97, [(4, .int (nI 0)), (0, .ref 114), (1, .int (nI 2)), (2, .int (nI q)), (3, .int (nI s))], [], M)
  refine Wn.run (tab := tb_m_does) rfl 3 (c' := (100, [(4, .int (nI 0)), (0, .ref 114), (1, .int (nI 2)), (2, .int (nI q)), (3, .int (nI s))], [.int (nI s), .int (nI q), .ref 114], M)) (o := []) rfl trivial ?_
  refine Wn.callV (p := 114) (n := 3) (ix := 330) (ci := (10)) (fun r0 M0 => r0 = some (.int (nI (wpr σ q s))) ∧ M = M0) [.int (nI q), .int (nI s)] [] rfl rfl rfl rfl (Nat.le_of_ble_eq_true rfl) (Nat.le_of_ble_eq_true rfl) (w_m_whyPraise _ q s (by omega) (by omega) M σ ⟨hR.1, hB⟩ _ ⟨rfl, rfl⟩) ?_
  rintro _ _ ⟨rfl, rfl⟩
  show Wn _ 135 _ (103, [(4, .int (nI 0)), (0, .ref 114), (1, .int (nI 2)), (2, .int (nI q)), (3, .int (nI s))], [.int (nI (wpr σ q s))], M)
  have wp9 := wpr_le σ q s
  refine Wn.run (tab := tb_m_does) rfl 3 (c' := (if ¬ (nI (wpr σ q s)) = 0 then 179 else 110, [(4, .int (nI (wpr σ q s))), (0, .ref 114), (1, .int (nI 2)), (2, .int (nI q)), (3, .int (nI s))], [], M)) (o := []) rfl trivial ?_
  refine Wn.br (fun h1 => ?_) (fun h1 => ?_)
  · show Wn _ 135 _ (179, [(4, .int (nI (wpr σ q s))), (0, .ref 114), (1, .int (nI 2)), (2, .int (nI q)), (3, .int (nI s))], [], M)
    have h1 := mt (n_eq rfl nI_0.symm (by omega) (by omega)).mpr h1
    refine Wn.run (tab := tb_m_does) rfl 2 (c' := (if (nI (wpr σ q s)) ≤ 0 then 194 else 184, [(4, .int (nI (wpr σ q s))), (0, .ref 114), (1, .int (nI 2)), (2, .int (nI q)), (3, .int (nI s))], [], M)) (o := []) rfl trivial ?_
    refine Wn.br (fun h2 => ?_) (fun h2 => ?_)
    · show Wn _ 135 _ (194, [(4, .int (nI (wpr σ q s))), (0, .ref 114), (1, .int (nI 2)), (2, .int (nI q)), (3, .int (nI s))], [], M)
      have h2 := (n_le rfl nI_0.symm (by omega) (by omega)).mp h2
      refine Wn.run (tab := tb_m_does) rfl 1 (c' := (195, [(4, .int (nI (wpr σ q s))), (0, .ref 114), (1, .int (nI 2)), (2, .int (nI q)), (3, .int (nI s))], [.int (nI 0)], M)) (o := []) rfl trivial ?_
      have e9 : 0 = doW σ ((2, q, s) : Bke) := by
        show 0 = (if wpr σ q s = 0 then 0 else 20 + wpr σ q s)
        first | omega | (split <;> omega) | (split <;> simp_all)
      rw [show (nI 0) = nI (doW σ ((2, q, s) : Bke)) from (rfl).trans (congrArg nI e9)]
      rw [show doS σ ((2, q, s) : Bke) = prf σ q s from rfl]
      rw [show prf σ q s = σ from if_neg (show ¬ wpr σ q s = 0 by omega)]
      exact Wn.iret rfl ⟨rfl, hR, by rw [hg]; exact (Gx_rf _ _), hF⟩
    · show Wn _ 135 _ (184, [(4, .int (nI (wpr σ q s))), (0, .ref 114), (1, .int (nI 2)), (2, .int (nI q)), (3, .int (nI s))], [], M)
      have h2 := mt (n_le rfl nI_0.symm (by omega) (by omega)).mpr h2
      refine Wn.run (tab := tb_m_does) rfl 6 (c' := (195, [(4, .int (nI (wpr σ q s))), (0, .ref 114), (1, .int (nI 2)), (2, .int (nI q)), (3, .int (nI s))], [.int (((nI 10) * (nI 2)) + (nI (wpr σ q s)))], M)) (o := []) rfl trivial ?_
      rw [show (((nI 10) * (nI 2)) + (nI (wpr σ q s))) = (nI ((10 * 2) + (wpr σ q s))) from (n_add (n_mul rfl rfl) rfl)]
      have e9 : ((10 * 2) + (wpr σ q s)) = doW σ ((2, q, s) : Bke) := by
        show ((10 * 2) + (wpr σ q s)) = (if wpr σ q s = 0 then 0 else 20 + wpr σ q s)
        first | omega | (split <;> omega) | (split <;> simp_all)
      rw [show (nI ((10 * 2) + (wpr σ q s))) = nI (doW σ ((2, q, s) : Bke)) from (rfl).trans (congrArg nI e9)]
      rw [show doS σ ((2, q, s) : Bke) = prf σ q s from rfl]
      rw [show prf σ q s = σ from if_neg (show ¬ wpr σ q s = 0 by omega)]
      exact Wn.iret rfl ⟨rfl, hR, by rw [hg]; exact (Gx_rf _ _), hF⟩
  · show Wn _ 135 _ (110, [(4, .int (nI (wpr σ q s))), (0, .ref 114), (1, .int (nI 2)), (2, .int (nI q)), (3, .int (nI s))], [], M)
    have h1 := (n_eq rfl nI_0.symm (by omega) (by omega)).mp (Classical.not_not.mp h1)
    refine Wn.run (tab := tb_m_does) rfl 2 (c' := (112, [(4, .int (nI (wpr σ q s))), (0, .ref 114), (1, .int (nI 2)), (2, .int (nI q)), (3, .int (nI s))], [.int (nI s), .ref 114], M)) (o := []) rfl trivial ?_
    refine Wn.callV (p := 114) (n := 2) (ix := 333) (ci := (10)) (PM M f0 g (flat σ s) none) [.int (nI s)] [] rfl rfl rfl rfl (Nat.le_of_ble_eq_true rfl) (Nat.le_of_ble_eq_true rfl) (c_m_flatters _ M f0 g σ hR hB hg s (by omega) hp) ?_
    rintro _ M1 ⟨rfl, hR2, hg3, hF4⟩
    show Wn _ 135 _ (115, [(4, .int (nI (wpr σ q s))), (0, .ref 114), (1, .int (nI 2)), (2, .int (nI q)), (3, .int (nI s))], [], M1)
    have hF5 := fr_tr hF hF4 (by decide)
    refine Wn.run (tab := tb_m_does) rfl 3 (c' := (if (nI (wpr σ q s)) ≤ 0 then 194 else 184, [(4, .int (nI (wpr σ q s))), (0, .ref 114), (1, .int (nI 2)), (2, .int (nI q)), (3, .int (nI s))], [], M1)) (o := []) rfl trivial ?_
    refine Wn.br (fun h3 => ?_) (fun h3 => ?_)
    · show Wn _ 135 _ (194, [(4, .int (nI (wpr σ q s))), (0, .ref 114), (1, .int (nI 2)), (2, .int (nI q)), (3, .int (nI s))], [], M1)
      have h3 := (n_le rfl nI_0.symm (by omega) (by omega)).mp h3
      refine Wn.run (tab := tb_m_does) rfl 1 (c' := (195, [(4, .int (nI (wpr σ q s))), (0, .ref 114), (1, .int (nI 2)), (2, .int (nI q)), (3, .int (nI s))], [.int (nI 0)], M1)) (o := []) rfl trivial ?_
      have e9 : 0 = doW σ ((2, q, s) : Bke) := by
        show 0 = (if wpr σ q s = 0 then 0 else 20 + wpr σ q s)
        first | omega | (split <;> omega) | (split <;> simp_all)
      rw [show (nI 0) = nI (doW σ ((2, q, s) : Bke)) from (rfl).trans (congrArg nI e9)]
      rw [show doS σ ((2, q, s) : Bke) = prf σ q s from rfl]
      rw [show prf σ q s = (flat σ s) from if_pos (show wpr σ q s = 0 by omega)]
      exact Wn.iret rfl ⟨rfl, hR2, by rw [hg3]; exact (Gx_rf _ _), hF5⟩
    · show Wn _ 135 _ (184, [(4, .int (nI (wpr σ q s))), (0, .ref 114), (1, .int (nI 2)), (2, .int (nI q)), (3, .int (nI s))], [], M1)
      have h3 := mt (n_le rfl nI_0.symm (by omega) (by omega)).mpr h3
      refine Wn.run (tab := tb_m_does) rfl 6 (c' := (195, [(4, .int (nI (wpr σ q s))), (0, .ref 114), (1, .int (nI 2)), (2, .int (nI q)), (3, .int (nI s))], [.int (((nI 10) * (nI 2)) + (nI (wpr σ q s)))], M1)) (o := []) rfl trivial ?_
      rw [show (((nI 10) * (nI 2)) + (nI (wpr σ q s))) = (nI ((10 * 2) + (wpr σ q s))) from (n_add (n_mul rfl rfl) rfl)]
      have e9 : ((10 * 2) + (wpr σ q s)) = doW σ ((2, q, s) : Bke) := by
        show ((10 * 2) + (wpr σ q s)) = (if wpr σ q s = 0 then 0 else 20 + wpr σ q s)
        first | omega | (split <;> omega) | (split <;> simp_all)
      rw [show (nI ((10 * 2) + (wpr σ q s))) = nI (doW σ ((2, q, s) : Bke)) from (rfl).trans (congrArg nI e9)]
      rw [show doS σ ((2, q, s) : Bke) = prf σ q s from rfl]
      rw [show prf σ q s = (flat σ s) from if_pos (show wpr σ q s = 0 by omega)]
      exact Wn.iret rfl ⟨rfl, hR2, by rw [hg3]; exact (Gx_rf _ _), hF5⟩
set_option maxRecDepth 20000 in
theorem c_m_does_3 (d : Nat) (M : Mm) (f0 g : Nat → Int32) (σ : Nat → Nat) (hR : Rs f0 (M.1 116) σ) (hV : Inv σ) (hg : M.1 114 = g) (q xx : Nat) (x : Int32) (hq : q < σ 2) : Wn (d + 6) 135 (PDo M f0 g (doS σ (3, q, xx)) (doW σ (3, q, xx))) (0, lv_args 0 [.ref 114, .int (nI 3), .int (nI q), .int x], [], M) := by
  have hF := fr_rf [114, 116] M
  have hB := hV.1
  have hI := hV.2.1
  have c9_2 := Bd_2 hB
  have k90 := Bd_90 hB
  have f9 := Bd_q hB q (by omega)
  refine Wn.run (tab := tb_m_does) rfl 4 (c' := (tsw [0, 3, 146, 36, 77, 97, 118] (nI 3), [(4, .int (nI 0)), (0, .ref 114), (1, .int (nI 3)), (2, .int (nI q)), (3, .int x)], [], M)) (o := []) rfl trivial ?_
  rw [show tsw [0, 3, 146, 36, 77, 97, 118] (nI 3) = 118 from rfl]
  show Wn _ 135 _ (118, [(4, .int (nI 0)), (0, .ref 114), (1, .int (nI 3)), (2, .int (nI q)), (3, .int x)], [], M)
  refine Wn.run (tab := tb_m_does) rfl 2 (c' := (120, [(4, .int (nI 0)), (0, .ref 114), (1, .int (nI 3)), (2, .int (nI q)), (3, .int x)], [.int (nI q), .ref 114], M)) (o := []) rfl trivial ?_
  refine Wn.callV (p := 114) (n := 2) (ix := 260) (ci := (10)) (fun r0 M0 => r0 = some (.int (b2 (fal σ q = true))) ∧ M = M0) [.int (nI q)] [] rfl rfl rfl rfl (Nat.le_of_ble_eq_true rfl) (Nat.le_of_ble_eq_true rfl) (w_m_hasFallen _ q (by omega) M σ ⟨hR.1, hB⟩ _ ⟨rfl, rfl⟩) ?_
  rintro _ _ ⟨rfl, rfl⟩
  show Wn _ 135 _ (123, [(4, .int (nI 0)), (0, .ref 114), (1, .int (nI 3)), (2, .int (nI q)), (3, .int x)], [.int (b2 (fal σ q = true))], M)
  refine Wn.run (tab := tb_m_does) rfl 1 (c' := (if (b2 (fal σ q = true)) = 0 then 130 else 126, [(4, .int (nI 0)), (0, .ref 114), (1, .int (nI 3)), (2, .int (nI q)), (3, .int x)], [], M)) (o := []) rfl trivial ?_
  refine Wn.br (fun h1 => ?_) (fun h1 => ?_)
  · show Wn _ 135 _ (130, [(4, .int (nI 0)), (0, .ref 114), (1, .int (nI 3)), (2, .int (nI q)), (3, .int x)], [], M)
    have h1 := b2_neg h1
    refine Wn.run (tab := tb_m_does) rfl 4 (c' := (if ¬ (nI 0) = 0 then 179 else 138, [(4, .int (nI 0)), (0, .ref 114), (1, .int (nI 3)), (2, .int (nI q)), (3, .int x)], [], M)) (o := []) rfl trivial ?_
    rw [if_neg (show ¬ (¬ (nI 0) = 0) by decide)]
    show Wn _ 135 _ (138, [(4, .int (nI 0)), (0, .ref 114), (1, .int (nI 3)), (2, .int (nI q)), (3, .int x)], [], M)
    refine Wn.run (tab := tb_m_does) rfl 2 (c' := (140, [(4, .int (nI 0)), (0, .ref 114), (1, .int (nI 3)), (2, .int (nI q)), (3, .int x)], [.int (nI q), .ref 114], M)) (o := []) rfl trivial ?_
    refine Wn.callV (p := 114) (n := 2) (ix := 315) (ci := (10)) (PM M f0 g (curse σ q) none) [.int (nI q)] [] rfl rfl rfl rfl (Nat.le_of_ble_eq_true rfl) (Nat.le_of_ble_eq_true rfl) (c_m_curses _ M f0 g σ hR hB hg q (by omega)) ?_
    rintro _ M1 ⟨rfl, hR2, hg3, hF4⟩
    show Wn _ 135 _ (143, [(4, .int (nI 0)), (0, .ref 114), (1, .int (nI 3)), (2, .int (nI q)), (3, .int x)], [], M1)
    have hF5 := fr_tr hF hF4 (by decide)
    refine Wn.run (tab := tb_m_does) rfl 3 (c' := (if (nI 0) ≤ 0 then 194 else 184, [(4, .int (nI 0)), (0, .ref 114), (1, .int (nI 3)), (2, .int (nI q)), (3, .int x)], [], M1)) (o := []) rfl trivial ?_
    rw [if_pos (show (nI 0) ≤ 0 by decide)]
    show Wn _ 135 _ (194, [(4, .int (nI 0)), (0, .ref 114), (1, .int (nI 3)), (2, .int (nI q)), (3, .int x)], [], M1)
    refine Wn.run (tab := tb_m_does) rfl 1 (c' := (195, [(4, .int (nI 0)), (0, .ref 114), (1, .int (nI 3)), (2, .int (nI q)), (3, .int x)], [.int (nI 0)], M1)) (o := []) rfl trivial ?_
    have e9 : 0 = doW σ ((3, q, xx) : Bke) := by
      show 0 = (if fal σ q = true then 31 else 0)
      first | omega | (split <;> omega) | (split <;> simp_all)
    rw [show (nI 0) = nI (doW σ ((3, q, xx) : Bke)) from (rfl).trans (congrArg nI e9)]
    rw [show doS σ ((3, q, xx) : Bke) = swf σ q from rfl]
    rw [show swf σ q = (curse σ q) from if_neg h1]
    exact Wn.iret rfl ⟨rfl, hR2, by rw [hg3]; exact (Gx_rf _ _), hF5⟩
  · show Wn _ 135 _ (126, [(4, .int (nI 0)), (0, .ref 114), (1, .int (nI 3)), (2, .int (nI q)), (3, .int x)], [], M)
    have h1 := b2_pos h1
    refine Wn.run (tab := tb_m_does) rfl 5 (c' := (if ¬ (nI 1) = 0 then 179 else 138, [(4, .int (nI 1)), (0, .ref 114), (1, .int (nI 3)), (2, .int (nI q)), (3, .int x)], [], M)) (o := []) rfl trivial ?_
    rw [if_pos (show ¬ (nI 1) = 0 by decide)]
    show Wn _ 135 _ (179, [(4, .int (nI 1)), (0, .ref 114), (1, .int (nI 3)), (2, .int (nI q)), (3, .int x)], [], M)
    refine Wn.run (tab := tb_m_does) rfl 2 (c' := (if (nI 1) ≤ 0 then 194 else 184, [(4, .int (nI 1)), (0, .ref 114), (1, .int (nI 3)), (2, .int (nI q)), (3, .int x)], [], M)) (o := []) rfl trivial ?_
    rw [if_neg (show ¬ ((nI 1) ≤ 0) by decide)]
    show Wn _ 135 _ (184, [(4, .int (nI 1)), (0, .ref 114), (1, .int (nI 3)), (2, .int (nI q)), (3, .int x)], [], M)
    refine Wn.run (tab := tb_m_does) rfl 6 (c' := (195, [(4, .int (nI 1)), (0, .ref 114), (1, .int (nI 3)), (2, .int (nI q)), (3, .int x)], [.int (((nI 10) * (nI 3)) + (nI 1))], M)) (o := []) rfl trivial ?_
    rw [show (((nI 10) * (nI 3)) + (nI 1)) = (nI ((10 * 3) + 1)) from (n_add (n_mul rfl rfl) rfl)]
    have e9 : ((10 * 3) + 1) = doW σ ((3, q, xx) : Bke) := by
      show ((10 * 3) + 1) = (if fal σ q = true then 31 else 0)
      first | omega | (split <;> omega) | (split <;> simp_all)
    rw [show (nI ((10 * 3) + 1)) = nI (doW σ ((3, q, xx) : Bke)) from (rfl).trans (congrArg nI e9)]
    rw [show doS σ ((3, q, xx) : Bke) = swf σ q from rfl]
    rw [show swf σ q = σ from if_pos h1]
    exact Wn.iret rfl ⟨rfl, hR, by rw [hg]; exact (Gx_rf _ _), hF⟩
set_option maxRecDepth 20000 in
theorem c_m_does_4 (d : Nat) (M : Mm) (f0 g : Nat → Int32) (σ : Nat → Nat) (hR : Rs f0 (M.1 116) σ) (hV : Inv σ) (hg : M.1 114 = g) (q xx : Nat) (x : Int32) (hq : q ≤ 60) : Wn (d + 8) 135 (PDo M f0 g (doS σ (4, q, xx)) (doW σ (4, q, xx))) (0, lv_args 0 [.ref 114, .int (nI 4), .int (nI q), .int x], [], M) := by
  have hF := fr_rf [114, 116] M
  have hB := hV.1
  have hI := hV.2.1
  have c9_2 := Bd_2 hB
  have k90 := Bd_90 hB
  refine Wn.run (tab := tb_m_does) rfl 4 (c' := (tsw [0, 3, 146, 36, 77, 97, 118] (nI 4), [(4, .int (nI 0)), (0, .ref 114), (1, .int (nI 4)), (2, .int (nI q)), (3, .int x)], [], M)) (o := []) rfl trivial ?_
  rw [show tsw [0, 3, 146, 36, 77, 97, 118] (nI 4) = 146 from rfl]
  show Wn _ 135 _ (146, [(4, .int (nI 0)), (0, .ref 114), (1, .int (nI 4)), (2, .int (nI q)), (3, .int x)], [], M)
  refine Wn.run (tab := tb_m_does) rfl 8 (c' := (if ((M.1 116 90) + (nI q)) ≤ (nI 400) then 165 else 161, [(4, .int (nI 0)), (0, .ref 114), (1, .int (nI 4)), (2, .int (nI q)), (3, .int x)], [], M)) (o := [shp 114 = (0, 10), aok shp 116 0 (nI 90)]) rfl ⟨rfl, ⟨rfl, vp_in_nI (by decide) (by decide)⟩⟩ ?_
  refine Wn.br (fun h1 => ?_) (fun h1 => ?_)
  · show Wn _ 135 _ (165, [(4, .int (nI 0)), (0, .ref 114), (1, .int (nI 4)), (2, .int (nI q)), (3, .int x)], [], M)
    have c9_90 := Bd_90 hB
    have h1 := (n_le (n_add (rd0 hR.1 (by omega)) rfl) rfl (by omega) (by omega)).mp h1
    refine Wn.run (tab := tb_m_does) rfl 4 (c' := (if ¬ (nI 0) = 0 then 179 else 173, [(4, .int (nI 0)), (0, .ref 114), (1, .int (nI 4)), (2, .int (nI q)), (3, .int x)], [], M)) (o := []) rfl trivial ?_
    rw [if_neg (show ¬ (¬ (nI 0) = 0) by decide)]
    show Wn _ 135 _ (173, [(4, .int (nI 0)), (0, .ref 114), (1, .int (nI 4)), (2, .int (nI q)), (3, .int x)], [], M)
    refine Wn.run (tab := tb_m_does) rfl 2 (c' := (175, [(4, .int (nI 0)), (0, .ref 114), (1, .int (nI 4)), (2, .int (nI q)), (3, .int x)], [.int (nI q), .ref 114], M)) (o := []) rfl trivial ?_
    refine Wn.callV (p := 114) (n := 2) (ix := 336) (ci := (10)) (PG M f0 g [22] (hK σ (mn q (400 - σ 90))) (some (.int (nI (mn q (400 - σ 90)))))) [.int (nI q)] [] rfl rfl rfl rfl (Nat.le_of_ble_eq_true rfl) (Nat.le_of_ble_eq_true rfl) (c_m_goesOn _ M f0 g σ hR hV hg q (by omega)) ?_
    rintro _ M1 ⟨rfl, hR2, hx3, hF4⟩
    show Wn _ 135 _ (178, [(4, .int (nI 0)), (0, .ref 114), (1, .int (nI 4)), (2, .int (nI q)), (3, .int x)], [.int (nI (mn q (400 - σ 90)))], M1)
    obtain ⟨g5, hg6⟩ : ∃ g9, M1.1 114 = g9 := ⟨_, rfl⟩
    have hx7 := hx3
    rw [hg6] at hx7
    have hF8 := fr_tr hF hF4 (by decide)
    refine Wn.run (tab := tb_m_does) rfl 3 (c' := (if (nI 0) ≤ 0 then 194 else 184, [(4, .int (nI 0)), (0, .ref 114), (1, .int (nI 4)), (2, .int (nI q)), (3, .int x)], [], M1)) (o := []) rfl trivial ?_
    rw [if_pos (show (nI 0) ≤ 0 by decide)]
    show Wn _ 135 _ (194, [(4, .int (nI 0)), (0, .ref 114), (1, .int (nI 4)), (2, .int (nI q)), (3, .int x)], [], M1)
    refine Wn.run (tab := tb_m_does) rfl 1 (c' := (195, [(4, .int (nI 0)), (0, .ref 114), (1, .int (nI 4)), (2, .int (nI q)), (3, .int x)], [.int (nI 0)], M1)) (o := []) rfl trivial ?_
    have e9 : 0 = doW σ ((4, q, xx) : Bke) := by
      show 0 = (if 400 < σ 90 + q then 41 else 0)
      first | omega | (split <;> omega) | (split <;> simp_all)
    rw [show (nI 0) = nI (doW σ ((4, q, xx) : Bke)) from (rfl).trans (congrArg nI e9)]
    rw [show doS σ ((4, q, xx) : Bke) = (if 400 < σ 90 + q then σ else hK σ q) from rfl]
    rw [if_neg (show ¬ 400 < σ 90 + q by omega)]
    have em : mn q (400 - σ 90) = q := by unfold mn; split <;> omega
    have hR9 := hR2
    rw [em] at hR9
    exact Wn.iret rfl ⟨rfl, hR9, by rw [hg6]; exact (Gx_tr (Gx_rf _ _) (Gx_mono hx7 (by decide))), hF8⟩
  · show Wn _ 135 _ (161, [(4, .int (nI 0)), (0, .ref 114), (1, .int (nI 4)), (2, .int (nI q)), (3, .int x)], [], M)
    have c9_90 := Bd_90 hB
    have h1 := mt (n_le (n_add (rd0 hR.1 (by omega)) rfl) rfl (by omega) (by omega)).mpr h1
    refine Wn.run (tab := tb_m_does) rfl 5 (c' := (if ¬ (nI 1) = 0 then 179 else 173, [(4, .int (nI 1)), (0, .ref 114), (1, .int (nI 4)), (2, .int (nI q)), (3, .int x)], [], M)) (o := []) rfl trivial ?_
    rw [if_pos (show ¬ (nI 1) = 0 by decide)]
    show Wn _ 135 _ (179, [(4, .int (nI 1)), (0, .ref 114), (1, .int (nI 4)), (2, .int (nI q)), (3, .int x)], [], M)
    refine Wn.run (tab := tb_m_does) rfl 2 (c' := (if (nI 1) ≤ 0 then 194 else 184, [(4, .int (nI 1)), (0, .ref 114), (1, .int (nI 4)), (2, .int (nI q)), (3, .int x)], [], M)) (o := []) rfl trivial ?_
    rw [if_neg (show ¬ ((nI 1) ≤ 0) by decide)]
    show Wn _ 135 _ (184, [(4, .int (nI 1)), (0, .ref 114), (1, .int (nI 4)), (2, .int (nI q)), (3, .int x)], [], M)
    refine Wn.run (tab := tb_m_does) rfl 6 (c' := (195, [(4, .int (nI 1)), (0, .ref 114), (1, .int (nI 4)), (2, .int (nI q)), (3, .int x)], [.int (((nI 10) * (nI 4)) + (nI 1))], M)) (o := []) rfl trivial ?_
    rw [show (((nI 10) * (nI 4)) + (nI 1)) = (nI ((10 * 4) + 1)) from (n_add (n_mul rfl rfl) rfl)]
    have e9 : ((10 * 4) + 1) = doW σ ((4, q, xx) : Bke) := by
      show ((10 * 4) + 1) = (if 400 < σ 90 + q then 41 else 0)
      first | omega | (split <;> omega) | (split <;> simp_all)
    rw [show (nI ((10 * 4) + 1)) = nI (doW σ ((4, q, xx) : Bke)) from (rfl).trans (congrArg nI e9)]
    rw [show doS σ ((4, q, xx) : Bke) = (if 400 < σ 90 + q then σ else hK σ q) from rfl]
    rw [if_pos (show 400 < σ 90 + q by omega)]
    exact Wn.iret rfl ⟨rfl, hR, by rw [hg]; exact (Gx_rf _ _), hF⟩
theorem c_m_does (d : Nat) (M : Mm) (f0 g : Nat → Int32) (σ : Nat → Nat) (hR : Rs f0 (M.1 116) σ) (hV : Inv σ) (hg : M.1 114 = g) (e : Bke) (hE : EOk (σ 2) e) (x : Int32) (hx : e.1 = 0 ∨ e.1 = 2 → x = nI e.2.2) (hp : ∀ r, r < 6 → σ (172 + r) + 1 < 1073741824) : Wn (d + 8) 135 (PDo M f0 g (doS σ e) (doW σ e)) (0, lv_args 0 [.ref 114, .int (nI e.1), .int (nI e.2.1), .int x], [], M) := by
  have b2 := Bd_2 hV.1
  obtain ⟨h4, hh, hq, hs, hr⟩ := hE
  obtain ⟨a, q, s⟩ := e
  dsimp only at h4 hh hq hs hr hx ⊢
  have c : a = 0 ∨ a = 1 ∨ a = 2 ∨ a = 3 ∨ a = 4 := by omega
  rcases c with rfl | rfl | rfl | rfl | rfl
  · rw [hx (Or.inl rfl)]; exact c_m_does_0 (d + 2) M f0 g σ hR hV hg q s (hq (by omega)) (hs rfl)
  · exact c_m_does_1 (d + 5) M f0 g σ hR hV hg q s x (hq (by omega))
  · rw [hx (Or.inr rfl)]; exact c_m_does_2 (d + 2) M f0 g σ hR hV hg q s (hq (by omega)) (hr rfl) (hp s (by have := hr rfl; omega))
  · exact c_m_does_3 (d + 2) M f0 g σ hR hV hg q s x (hq (by omega))
  · exact c_m_does_4 (d + 0) M f0 g σ hR hV hg q s x (hh rfl).2
