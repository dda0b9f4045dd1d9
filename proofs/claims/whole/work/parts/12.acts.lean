theorem w_m_minN (d : Nat) (a b : Nat) (ha : a < 2 ^ 31) (hb : b < 2 ^ 31) (M : Mm) (Q : Po) (hQ : Q (some (.int (nI (if a < b then a else b)))) M) : Wn (d + 0) 48 Q (0, lv_args 0 [.int (nI a), .int (nI b)], [], M) := by
  refine w_m_lesser d _ _ M Q ?_
  by_cases h : a < b
  · rw [if_neg (by rw [nI_leI hb ha]; omega)]; rw [if_pos h] at hQ; exact hQ
  · rw [if_pos (by rw [nI_leI hb ha]; omega)]; rw [if_neg h] at hQ; exact hQ
theorem w_m_bends (d : Nat) (q : Nat) (hq : q < 6) (M : Mm) (f g f0 : Nat → Int32) (σ : Nat → Nat) (hf : Rs f0 f σ) (hB : Bd σ) (Q : Po) (hQ : ∀ f9 : Nat → Int32, Rs f0 f9 (bend σ q) → Q none (mS M f9 g)) : Wn (d + 1) 92 Q (0, lv_args 0 [.ref 114, .int (nI q)], [], mS M f g) := by
  have f9 := Bd_q hB q hq
  have g9 := Bd_c hB (σ (160 + q)) (by omega)
  have k92 := Bd_92 hB
  have f9 := Bd_q hB q (by omega)
  refine Wn.run (tab := tb_m_bends) rfl 24 (c' := (39, [(0, .ref 114), (1, .int (nI q))], [.int (((mS M f g).1 116 (((nI 96) + ((mS M f g).1 116 (((nI 160) + (nI q))).toNatClampNeg))).toNatClampNeg) + (nI 1)), .int (nI 9), .int ((nI 96) + ((mS M f g).1 116 (((nI 160) + (nI q))).toNatClampNeg)), .ref 116], (mS M f g))) (o := [shp 114 = (0, 10), shp 114 = (0, 10), aok shp 116 0 ((nI 160) + (nI q)), shp 114 = (0, 10), shp 114 = (0, 10), aok shp 116 0 ((nI 160) + (nI q)), aok shp 116 0 ((nI 96) + ((mS M f g).1 116 (((nI 160) + (nI q))).toNatClampNeg))]) rfl ⟨rfl, rfl, (ak1 (n := 359) rfl rfl (n_add rfl rfl) (by omega)), rfl, rfl, (ak1 (n := 359) rfl rfl (n_add rfl rfl) (by omega)), (ak1 (n := 359) rfl rfl (n_add rfl (rd1 hf.1 (n_add rfl rfl) (by omega) (by omega))) (by omega))⟩ ?_
  have f9 := Bd_q hB q (by omega)
  have g9 := Bd_c hB (σ (160 + q)) (by omega)
  rw [show (((mS M f g).1 116 (((nI 96) + ((mS M f g).1 116 (((nI 160) + (nI q))).toNatClampNeg))).toNatClampNeg) + (nI 1)) = (nI ((σ (96 + (σ (160 + q)))) + 1)) from (n_add (rd1 hf.1 (n_add rfl (rd1 hf.1 (n_add rfl rfl) (by omega) (by omega))) (by omega) (by omega)) rfl)]
  have f9 := Bd_q hB q (by omega)
  rw [show ((nI 96) + ((mS M f g).1 116 (((nI 160) + (nI q))).toNatClampNeg)) = (nI (96 + (σ (160 + q)))) from (n_add rfl (rd1 hf.1 (n_add rfl rfl) (by omega) (by omega)))]
  refine Wn.callS (n := 2) (ix := 306) (fun r M' => r = some (.int (nI (if 9 < ((σ (96 + (σ (160 + q)))) + 1) then 9 else ((σ (96 + (σ (160 + q)))) + 1)))) ∧ (mS M f g) = M') [.int (nI 9), .int (nI ((σ (96 + (σ (160 + q)))) + 1))] [.int (nI (96 + (σ (160 + q)))), .ref 116] rfl rfl rfl (Nat.le_of_ble_eq_true rfl) (Nat.le_of_ble_eq_true rfl) (w_m_minN _ 9 ((σ (96 + (σ (160 + q)))) + 1) (by omega) (by omega) (mS M f g) _ ⟨rfl, rfl⟩) ?_
  rintro _ _ ⟨rfl, rfl⟩
  show Wn _ 92 _ (42, [(0, .ref 114), (1, .int (nI q))], [.int (nI (if 9 < ((σ (96 + (σ (160 + q)))) + 1) then 9 else ((σ (96 + (σ (160 + q)))) + 1))), .int (nI (96 + (σ (160 + q)))), .ref 116], (mS M f g))
  have f9 := Bd_q hB q (by omega)
  refine Wn.run (tab := tb_m_bends) rfl 1 (c' := (43, [(0, .ref 114), (1, .int (nI q))], [], (mI (mS M f g) 116 (upd ((mS M f g).1 116) ((nI (96 + (σ (160 + q))))).toNatClampNeg (nI (if 9 < ((σ (96 + (σ (160 + q)))) + 1) then 9 else ((σ (96 + (σ (160 + q)))) + 1))))))) (o := [aok shp 116 0 (nI (96 + (σ (160 + q))))]) rfl (ak1 (n := 359) rfl rfl rfl (by omega)) ?_
  have f9 := Bd_q hB q (by omega)
  have f9 := Bd_q hB q (by omega)
  have g9 := Bd_c hB (σ (160 + q)) (by omega)
  have hf1 := Rs_up (ix := ((nI (96 + (σ (160 + q))))).toNatClampNeg) (x := (nI (if 9 < ((σ (96 + (σ (160 + q)))) + 1) then 9 else ((σ (96 + (σ (160 + q)))) + 1)))) hf (cl1 rfl (by omega)) (by omega) rfl
  rw [mS_s]
  generalize hg1 : upd ((mS M f g).1 116) ((nI (96 + (σ (160 + q))))).toNatClampNeg (nI (if 9 < ((σ (96 + (σ (160 + q)))) + 1) then 9 else ((σ (96 + (σ (160 + q)))) + 1))) = f1
  replace hf1 : Rs f0 f1 (su σ (96 + (σ (160 + q))) (if 9 < ((σ (96 + (σ (160 + q)))) + 1) then 9 else ((σ (96 + (σ (160 + q)))) + 1))) := by rw [← hg1]; exact hf1
  clear hg1
  show Wn _ 92 _ (43, [(0, .ref 114), (1, .int (nI q))], [], (mS M f1 g))
  refine Wn.run (tab := tb_m_bends) rfl 14 (c' := (65, [(0, .ref 114), (1, .int (nI q))], [.int (((mS M f1 g).1 116 (((nI 166) + (nI q))).toNatClampNeg) - (nI 1)), .int (nI 0), .int ((nI 166) + (nI q)), .ref 116], (mS M f1 g))) (o := [shp 114 = (0, 10), shp 114 = (0, 10), aok shp 116 0 ((nI 166) + (nI q))]) rfl ⟨rfl, rfl, (ak1 (n := 359) rfl rfl (n_add rfl rfl) (by omega))⟩ ?_
  have f9 := Bd_q hB q (by omega)
  rw [show ((mS M f1 g).1 116 (((nI 166) + (nI q))).toNatClampNeg) = (nI (σ (166 + q))) from (r_ne (rd1 hf1.1 (n_add rfl rfl) (by omega) (by omega)) (by omega))]
  rw [show ((nI 166) + (nI q)) = (nI (166 + q)) from (n_add rfl rfl)]
  refine Wn.callS (n := 2) (ix := 272) (fun r M' => r = some (.int (nI ((σ (166 + q)) - 1))) ∧ (mS M f1 g) = M') [.int (nI 0), .int ((nI (σ (166 + q))) - (nI 1))] [.int (nI (166 + q)), .ref 116] rfl rfl rfl (Nat.le_of_ble_eq_true rfl) (Nat.le_of_ble_eq_true rfl) (w_m_max0 _ (σ (166 + q)) 1 (by omega) (by omega) (mS M f1 g) _ ⟨rfl, rfl⟩) ?_
  rintro _ _ ⟨rfl, rfl⟩
  show Wn _ 92 _ (68, [(0, .ref 114), (1, .int (nI q))], [.int (nI ((σ (166 + q)) - 1)), .int (nI (166 + q)), .ref 116], (mS M f1 g))
  refine Wn.run (tab := tb_m_bends) rfl 1 (c' := (69, [(0, .ref 114), (1, .int (nI q))], [], (mI (mS M f1 g) 116 (upd ((mS M f1 g).1 116) ((nI (166 + q))).toNatClampNeg (nI ((σ (166 + q)) - 1)))))) (o := [aok shp 116 0 (nI (166 + q))]) rfl (ak1 (n := 359) rfl rfl rfl (by omega)) ?_
  have f9 := Bd_q hB q (by omega)
  have hf2 := Rs_up (ix := ((nI (166 + q))).toNatClampNeg) (x := (nI ((σ (166 + q)) - 1))) hf1 (cl1 rfl (by omega)) (by omega) rfl
  rw [mS_s]
  generalize hg2 : upd ((mS M f1 g).1 116) ((nI (166 + q))).toNatClampNeg (nI ((σ (166 + q)) - 1)) = f2
  replace hf2 : Rs f0 f2 (su (su σ (96 + (σ (160 + q))) (if 9 < ((σ (96 + (σ (160 + q)))) + 1) then 9 else ((σ (96 + (σ (160 + q)))) + 1))) (166 + q) ((σ (166 + q)) - 1)) := by rw [← hg2]; exact hf2
  clear hg2
  show Wn _ 92 _ (69, [(0, .ref 114), (1, .int (nI q))], [], (mS M f2 g))
  refine Wn.run (tab := tb_m_bends) rfl 10 (c' := (82, [(0, .ref 114), (1, .int (nI q))], [], (mI (mS M f2 g) 116 (upd ((mS M f2 g).1 116) 92 (((mS M f2 g).1 116 92) ||| ((nI 1) <<< ((nI q) &&& 31))))))) (o := [shp 114 = (0, 10), aok shp 116 0 (nI 92), aok shp 116 0 (nI 92)]) rfl ⟨rfl, ⟨rfl, vp_in_nI (by decide) (by decide)⟩, ⟨rfl, vp_in_nI (by decide) (by decide)⟩⟩ ?_
  have c9_92 := Bd_92 hB
  have p9 := pow_lt6 (q := q) (by omega)
  have hf3 := Rs_up (ix := 92) (x := (((mS M f2 g).1 116 92) ||| ((nI 1) <<< ((nI q) &&& 31)))) hf2 rfl (by omega) (n_or (r_ne (r_ne (rd0 hf2.1 (by omega)) (by omega)) (by omega)) (n_shl rfl (by omega)) (by omega) (by omega))
  rw [mS_s]
  generalize hg3 : upd ((mS M f2 g).1 116) 92 (((mS M f2 g).1 116 92) ||| ((nI 1) <<< ((nI q) &&& 31))) = f3
  replace hf3 : Rs f0 f3 (su (su (su σ (96 + (σ (160 + q))) (if 9 < ((σ (96 + (σ (160 + q)))) + 1) then 9 else ((σ (96 + (σ (160 + q)))) + 1))) (166 + q) ((σ (166 + q)) - 1)) 92 ((σ 92) ||| (2 ^ q))) := by rw [← hg3]; exact hf3
  clear hg3
  show Wn _ 92 _ (82, [(0, .ref 114), (1, .int (nI q))], [], (mS M f3 g))
  refine Wn.run (tab := tb_m_bends) rfl 8 (c' := (93, [(0, .ref 114), (1, .int (nI q))], [], (mI (mS M f3 g) 116 (upd ((mS M f3 g).1 116) 93 (((mS M f3 g).1 116 93) + (nI 1)))))) (o := [shp 114 = (0, 10), aok shp 116 0 (nI 93), aok shp 116 0 (nI 93)]) rfl ⟨rfl, ⟨rfl, vp_in_nI (by decide) (by decide)⟩, ⟨rfl, vp_in_nI (by decide) (by decide)⟩⟩ ?_
  have hf4 := Rs_up (ix := 93) (x := (((mS M f3 g).1 116 93) + (nI 1))) hf3 rfl (by omega) (n_add (r_ne (r_ne (r_ne (rd0 hf3.1 (by omega)) (by omega)) (by omega)) (by omega)) rfl)
  rw [mS_s]
  generalize hg4 : upd ((mS M f3 g).1 116) 93 (((mS M f3 g).1 116 93) + (nI 1)) = f4
  replace hf4 : Rs f0 f4 (su (su (su (su σ (96 + (σ (160 + q))) (if 9 < ((σ (96 + (σ (160 + q)))) + 1) then 9 else ((σ (96 + (σ (160 + q)))) + 1))) (166 + q) ((σ (166 + q)) - 1)) 92 ((σ 92) ||| (2 ^ q))) 93 ((σ 93) + 1)) := by rw [← hg4]; exact hf4
  clear hg4
  show Wn _ 92 _ (93, [(0, .ref 114), (1, .int (nI q))], [], (mS M f4 g))
  exact Wn.vret rfl (hQ f4 hf4)
