theorem w_m_minN (d : Nat) (a b : Nat) (ha : a < 2 ^ 31) (hb : b < 2 ^ 31) (M : Mm) (Q : Po) (hQ : Q (some (.int (nI (if a < b then a else b)))) M) : Wn (d + 0) 48 Q (0, lv_args 0 [.int (nI a), .int (nI b)], [], M) := by
  refine w_m_lesser d _ _ M Q ?_
  by_cases h : a < b
  · rw [if_neg (by rw [nI_leI hb ha]; omega)]; rw [if_pos h] at hQ; exact hQ
  · rw [if_pos (by rw [nI_leI hb ha]; omega)]; rw [if_neg h] at hQ; exact hQ
set_option maxRecDepth 20000 in
theorem w_m_bends (d : Nat) (σ : Nat → Nat) (q : Nat) (hq : q < 6) (M : Mm) (f g f0 : Nat → Int32) (hf : Rs f0 f σ) (hB : Bd σ) (Q : Po) (hQ : ∀ f9 : Nat → Int32, Rs f0 f9 (bend σ q) → Q none (mS M f9 g)) : Wn (d + 1) 92 Q (0, lv_args 0 [.ref 114, .int (nI q)], [], mS M f g) := by
  have f9 := Bd_q hB q hq
  have g9 := Bd_c hB (σ (160 + q)) (by omega)
  have k92 := Bd_92 hB
  have f9 := Bd_q hB q (by omega)
  refine Wn.run (tab := tb_m_bends) rfl 24 (c' := (39, [(0, .ref 114), (1, .int (nI q))], [.int (((mS M f g).1 116 (((nI 96) + ((mS M f g).1 116 (((nI 160) + (nI q))).toNatClampNeg))).toNatClampNeg) + (nI 1)), .int (nI 9), .int ((nI 96) + ((mS M f g).1 116 (((nI 160) + (nI q))).toNatClampNeg)), .ref 116], (mS M f g))) (o := [shp 114 = (0, 10), shp 114 = (0, 10), aok shp 116 0 ((nI 160) + (nI q)), shp 114 = (0, 10), shp 114 = (0, 10), aok shp 116 0 ((nI 160) + (nI q)), aok shp 116 0 ((nI 96) + ((mS M f g).1 116 (((nI 160) + (nI q))).toNatClampNeg))]) rfl ⟨rfl, rfl, (ak1 (n := 359) rfl rfl (n_add rfl rfl) (by omega)), rfl, rfl, (ak1 (n := 359) rfl rfl (n_add rfl rfl) (by omega)), (ak1 (n := 359) rfl rfl (n_add rfl (rd1 hf.1 (n_add rfl rfl) (by omega) (by omega))) (by omega))⟩ ?_
  have f9 := Bd_q hB q (by omega)
  have g9 := Bd_c hB (σ (160 + q)) (by omega)
  rw [show (((mS M f g).1 116 (((nI 96) + ((mS M f g).1 116 (((nI 160) + (nI q))).toNatClampNeg))).toNatClampNeg) + (nI 1)) = (nI ((σ (96 + (σ (160 + q)))) + 1)) from (n_add (rd1 hf.1 (n_add rfl (rd1 hf.1 (n_add rfl rfl) (by omega) (by omega))) (by omega) (by omega)) rfl)]
  have f9 := Bd_q hB q (by omega)
  rw [show ((nI 96) + ((mS M f g).1 116 (((nI 160) + (nI q))).toNatClampNeg)) = (nI (96 + (σ (160 + q)))) from (n_add rfl (rd1 hf.1 (n_add rfl rfl) (by omega) (by omega)))]
  refine Wn.callS (n := 2) (ix := 306) (fun r0 M0 => r0 = some (.int (nI (if 9 < ((σ (96 + (σ (160 + q)))) + 1) then 9 else ((σ (96 + (σ (160 + q)))) + 1)))) ∧ (mS M f g) = M0) [.int (nI 9), .int (nI ((σ (96 + (σ (160 + q)))) + 1))] [.int (nI (96 + (σ (160 + q)))), .ref 116] rfl rfl rfl (Nat.le_of_ble_eq_true rfl) (Nat.le_of_ble_eq_true rfl) (w_m_minN _ 9 ((σ (96 + (σ (160 + q)))) + 1) (by omega) (by omega) (mS M f g) _ ⟨rfl, rfl⟩) ?_
  rintro _ _ ⟨rfl, rfl⟩
  show Wn _ 92 _ (42, [(0, .ref 114), (1, .int (nI q))], [.int (nI (if 9 < ((σ (96 + (σ (160 + q)))) + 1) then 9 else ((σ (96 + (σ (160 + q)))) + 1))), .int (nI (96 + (σ (160 + q)))), .ref 116], (mS M f g))
  have f9 := Bd_q hB q (by omega)
  refine Wn.run (tab := tb_m_bends) rfl 1 (c' := (43, [(0, .ref 114), (1, .int (nI q))], [], (mI (mS M f g) 116 (upd ((mS M f g).1 116) ((nI (96 + (σ (160 + q))))).toNatClampNeg (nI (if 9 < ((σ (96 + (σ (160 + q)))) + 1) then 9 else ((σ (96 + (σ (160 + q)))) + 1))))))) (o := [aok shp 116 0 (nI (96 + (σ (160 + q))))]) rfl (ak1 (n := 359) rfl rfl rfl (by omega)) ?_
  have f9 := Bd_q hB q (by omega)
  have f9 := Bd_q hB q (by omega)
  have g9 := Bd_c hB (σ (160 + q)) (by omega)
  have i9 : (if 9 < ((σ (96 + (σ (160 + q)))) + 1) then 9 else ((σ (96 + (σ (160 + q)))) + 1)) ≤ 9 := by split <;> omega
  have hf1 := Rs_up (ix := ((nI (96 + (σ (160 + q))))).toNatClampNeg) (x := (nI (if 9 < ((σ (96 + (σ (160 + q)))) + 1) then 9 else ((σ (96 + (σ (160 + q)))) + 1)))) hf (cl1 rfl (by omega)) (by omega) rfl
  rw [mS_s]
  generalize hg1 : upd ((mS M f g).1 116) ((nI (96 + (σ (160 + q))))).toNatClampNeg (nI (if 9 < ((σ (96 + (σ (160 + q)))) + 1) then 9 else ((σ (96 + (σ (160 + q)))) + 1))) = f1
  replace hf1 : Rs f0 f1 (su σ (96 + (σ (160 + q))) (if 9 < ((σ (96 + (σ (160 + q)))) + 1) then 9 else ((σ (96 + (σ (160 + q)))) + 1))) := by rw [← hg1]; exact hf1
  clear hg1
  show Wn _ 92 _ (43, [(0, .ref 114), (1, .int (nI q))], [], (mS M f1 g))
  refine Wn.run (tab := tb_m_bends) rfl 14 (c' := (65, [(0, .ref 114), (1, .int (nI q))], [.int (((mS M f1 g).1 116 (((nI 166) + (nI q))).toNatClampNeg) - (nI 1)), .int (nI 0), .int ((nI 166) + (nI q)), .ref 116], (mS M f1 g))) (o := [shp 114 = (0, 10), shp 114 = (0, 10), aok shp 116 0 ((nI 166) + (nI q))]) rfl ⟨rfl, rfl, (ak1 (n := 359) rfl rfl (n_add rfl rfl) (by omega))⟩ ?_
  have f9 := Bd_q hB q (by omega)
  rw [show ((mS M f1 g).1 116 (((nI 166) + (nI q))).toNatClampNeg) = (nI (σ (166 + q))) from (r_ne (rd1 hf1.1 (n_add rfl rfl) (by omega) (by omega)) (by omega))]
  rw [show ((nI 166) + (nI q)) = (nI (166 + q)) from (n_add rfl rfl)]
  refine Wn.callS (n := 2) (ix := 272) (fun r0 M0 => r0 = some (.int (nI ((σ (166 + q)) - 1))) ∧ (mS M f1 g) = M0) [.int (nI 0), .int ((nI (σ (166 + q))) - (nI 1))] [.int (nI (166 + q)), .ref 116] rfl rfl rfl (Nat.le_of_ble_eq_true rfl) (Nat.le_of_ble_eq_true rfl) (w_m_max0 _ (σ (166 + q)) 1 (by omega) (by omega) (mS M f1 g) _ ⟨rfl, rfl⟩) ?_
  rintro _ _ ⟨rfl, rfl⟩
  show Wn _ 92 _ (68, [(0, .ref 114), (1, .int (nI q))], [.int (nI ((σ (166 + q)) - 1)), .int (nI (166 + q)), .ref 116], (mS M f1 g))
  refine Wn.run (tab := tb_m_bends) rfl 1 (c' := (69, [(0, .ref 114), (1, .int (nI q))], [], (mI (mS M f1 g) 116 (upd ((mS M f1 g).1 116) ((nI (166 + q))).toNatClampNeg (nI ((σ (166 + q)) - 1)))))) (o := [aok shp 116 0 (nI (166 + q))]) rfl (ak1 (n := 359) rfl rfl rfl (by omega)) ?_
  have f9 := Bd_q hB q (by omega)
  have hf2 := Rs_up (ix := ((nI (166 + q))).toNatClampNeg) (x := (nI ((σ (166 + q)) - 1))) hf1 (cl1 rfl (by omega)) (by omega) rfl
  rw [mS_s]
  generalize hg2 : upd ((mS M f1 g).1 116) ((nI (166 + q))).toNatClampNeg (nI ((σ (166 + q)) - 1)) = f2
  replace hf2 : Rs f0 f2 (su (su σ (96 + (σ (160 + q))) (if 9 < ((σ (96 + (σ (160 + q)))) + 1) then 9 else ((σ (96 + (σ (160 + q)))) + 1))) (166 + q) ((σ (166 + q)) - 1)) := by rw [← hg2]; exact hf2
  clear hg2
  show Wn _ 92 _ (69, [(0, .ref 114), (1, .int (nI q))], [], (mS M f2 g))
  refine Wn.run (tab := tb_m_bends) rfl 10 (c' := (82, [(0, .ref 114), (1, .int (nI q))], [], (mI (mS M f2 g) 116 (upd ((mS M f2 g).1 116) 92 (((mS M f2 g).1 116 92) ||| ((nI 1) <<< ((nI q) &&& 31))))))) (o := [shp 114 = (0, 10), aok shp 116 0 (nI 92), aok shp 116 0 (nI 92)]) rfl ⟨rfl, ⟨rfl, vp_in_nI (by decide) (by decide)⟩, ⟨rfl, vp_in_nI (by decide) (by decide)⟩⟩ ?_
  have c9_92 := Bd_92 hB
  have p9 := pow_lt6 (q := q) (by omega)
  have hf3 := Rs_up (ix := 92) (x := (((mS M f2 g).1 116 92) ||| ((nI 1) <<< ((nI q) &&& 31)))) hf2 rfl (by omega) (n_or (r_ne (r_ne (rd0 hf2.1 (by omega)) (by omega)) (by omega)) (n_shl rfl (by omega)) (by omega) (by omega))
  rw [mS_s]
  generalize hg3 : upd ((mS M f2 g).1 116) 92 (((mS M f2 g).1 116 92) ||| ((nI 1) <<< ((nI q) &&& 31))) = f3
  replace hf3 : Rs f0 f3 (su (su (su σ (96 + (σ (160 + q))) (if 9 < ((σ (96 + (σ (160 + q)))) + 1) then 9 else ((σ (96 + (σ (160 + q)))) + 1))) (166 + q) ((σ (166 + q)) - 1)) 92 ((σ 92) ||| (2 ^ q))) := by rw [← hg3]; exact hf3
  clear hg3
  show Wn _ 92 _ (82, [(0, .ref 114), (1, .int (nI q))], [], (mS M f3 g))
  refine Wn.run (tab := tb_m_bends) rfl 8 (c' := (93, [(0, .ref 114), (1, .int (nI q))], [], (mI (mS M f3 g) 116 (upd ((mS M f3 g).1 116) 93 (((mS M f3 g).1 116 93) + (nI 1)))))) (o := [shp 114 = (0, 10), aok shp 116 0 (nI 93), aok shp 116 0 (nI 93)]) rfl ⟨rfl, ⟨rfl, vp_in_nI (by decide) (by decide)⟩, ⟨rfl, vp_in_nI (by decide) (by decide)⟩⟩ ?_
  have hf4 := Rs_up (ix := 93) (x := (((mS M f3 g).1 116 93) + (nI 1))) hf3 rfl (by omega) (n_add (r_ne (r_ne (r_ne (rd0 hf3.1 (by omega)) (by omega)) (by omega)) (by omega)) rfl)
  rw [mS_s]
  generalize hg4 : upd ((mS M f3 g).1 116) 93 (((mS M f3 g).1 116 93) + (nI 1)) = f4
  replace hf4 : Rs f0 f4 (su (su (su (su σ (96 + (σ (160 + q))) (if 9 < ((σ (96 + (σ (160 + q)))) + 1) then 9 else ((σ (96 + (σ (160 + q)))) + 1))) (166 + q) ((σ (166 + q)) - 1)) 92 ((σ 92) ||| (2 ^ q))) 93 ((σ 93) + 1)) := by rw [← hg4]; exact hf4
  clear hg4
  show Wn _ 92 _ (93, [(0, .ref 114), (1, .int (nI q))], [], (mS M f4 g))
  exact Wn.vret rfl (hQ f4 hf4)
set_option maxRecDepth 20000 in
theorem w_m_sinks (d : Nat) (σ : Nat → Nat)  (M : Mm) (f g f0 : Nat → Int32) (hf : Rs f0 f σ) (hB : Bd σ) (Q : Po) (hQ : ∀ f9 : Nat → Int32, Rs f0 f9 (sink σ) → Q none (mS M f9 g)) : Wn (d + 4) 90 Q (0, lv_args 0 [.ref 114], [], mS M f g) := by
  have hM9 : Ms (mS M f g) σ := ⟨hf.1, hB⟩
  have c9_2 := Bd_2 hB
  refine Wn.run (tab := tb_m_sinks) rfl 4 (c' := (4, [(2, .int (nI 0)), (1, .int (nI 0)), (0, .ref 114)], [], (mS M f g))) (o := []) rfl trivial ?_
  have loop : ∀ (m q : Nat), σ 2 - q = m → q ≤ σ 2 → Wn (d + 4) 90 Q (4, [(2, .int (nI q)), (1, .int (nI (snkN σ q))), (0, .ref 114)], [], (mS M f g)) := by
    intro m
    induction m using Nat.strongRecOn with
    | _ m ih =>
      intro q hm hq
      have hlt := snkN_lt σ q
      have h64 : snkN σ q < 64 := Nat.lt_of_lt_of_le hlt (Nat.pow_le_pow_right (by decide) (by omega : q ≤ 6))
      have k91 := Bd_91 hB
      refine Wn.run (tab := tb_m_sinks) rfl 6 (c' := (if ((mS M f g).1 116 2) ≤ (nI q) then 73 else 14, [(2, .int (nI q)), (1, .int (nI (snkN σ q))), (0, .ref 114)], [], (mS M f g))) (o := [shp 114 = (0, 10), aok shp 116 0 (nI 2)]) rfl ⟨rfl, ⟨rfl, vp_in_nI (by decide) (by decide)⟩⟩ ?_
      refine Wn.br (fun h1 => ?_) (fun h1 => ?_)
      · have c9_2 := Bd_2 hB
        have h1 := (n_le (rd0 hf.1 (by omega)) rfl (by omega) (by omega)).mp h1
        refine Wn.run (tab := tb_m_sinks) rfl 8 (c' := (84, [(2, .int (nI q)), (1, .int (nI (snkN σ q))), (0, .ref 114)], [], (mI (mS M f g) 116 (upd ((mS M f g).1 116) 91 (((mS M f g).1 116 91) ||| (nI (snkN σ q))))))) (o := [shp 114 = (0, 10), aok shp 116 0 (nI 91), aok shp 116 0 (nI 91)]) rfl ⟨rfl, ⟨rfl, vp_in_nI (by decide) (by decide)⟩, ⟨rfl, vp_in_nI (by decide) (by decide)⟩⟩ ?_
        have c9_91 := Bd_91 hB
        have hf1 := Rs_up (ix := 91) (x := (((mS M f g).1 116 91) ||| (nI (snkN σ q)))) hf rfl (by omega) (n_or (rd0 hf.1 (by omega)) rfl (by omega) (by omega))
        rw [mS_s]
        generalize hg1 : upd ((mS M f g).1 116) 91 (((mS M f g).1 116 91) ||| (nI (snkN σ q))) = f1
        replace hf1 : Rs f0 f1 (su σ 91 ((σ 91) ||| (snkN σ q))) := by rw [← hg1]; exact hf1
        clear hg1
        show Wn _ 90 _ (84, [(2, .int (nI q)), (1, .int (nI (snkN σ q))), (0, .ref 114)], [], (mS M f1 g))
        have e9 : q = σ 2 := by omega
        rw [e9] at hf1
        exact Wn.vret rfl (hQ f1 hf1)
      · have c9_2 := Bd_2 hB
        have h1 := mt (n_le (rd0 hf.1 (by omega)) rfl (by omega) (by omega)).mpr h1
        refine Wn.run (tab := tb_m_sinks) rfl 3 (c' := (17, [(2, .int (nI q)), (1, .int (nI (snkN σ q))), (0, .ref 114)], [.int (nI q), .ref 114, .int (nI (snkN σ q))], (mS M f g))) (o := []) rfl trivial ?_
        refine Wn.callV (p := 114) (n := 2) (ix := 260) (ci := (10)) (fun r0 M0 => r0 = some (.int (b2 (fal σ q = true))) ∧ (mS M f g) = M0) [.int (nI q)] [.int (nI (snkN σ q))] rfl rfl rfl rfl (Nat.le_of_ble_eq_true rfl) (Nat.le_of_ble_eq_true rfl) (w_m_hasFallen _ q (by omega) (mS M f g) σ hM9 _ ⟨rfl, rfl⟩) ?_
        rintro _ _ ⟨rfl, rfl⟩
        show Wn _ 90 _ (20, [(2, .int (nI q)), (1, .int (nI (snkN σ q))), (0, .ref 114)], [.int (b2 (fal σ q = true)), .int (nI (snkN σ q))], (mS M f g))
        refine Wn.run (tab := tb_m_sinks) rfl 1 (c' := (if ¬ (b2 (fal σ q = true)) = 0 then 64 else 23, [(2, .int (nI q)), (1, .int (nI (snkN σ q))), (0, .ref 114)], [.int (nI (snkN σ q))], (mS M f g))) (o := []) rfl trivial ?_
        refine Wn.br (fun h2 => ?_) (fun h2 => ?_)
        · have h2 := b2_pos h2
          refine Wn.run (tab := tb_m_sinks) rfl 5 (c' := (4, [(2, .int ((nI q) + (nI 1))), (1, .int ((nI (snkN σ q)) ||| (nI 0))), (0, .ref 114)], [], (mS M f g))) (o := []) rfl trivial ?_
          rw [show ((nI q) + (nI 1)) = (nI (q + 1)) from (n_add rfl rfl)]
          have hq6 : q < 6 := by omega
          have on9 : ¬ (¬ fal σ q = true ∧ σ (96 + σ (160 + q)) < ld σ (σ (160 + q))) := by intro h9; exact h9.1 h2
          rw [show ((nI (snkN σ q)) ||| (nI 0)) = (nI (snkN σ (q + 1))) from (by rw [or_0 _ h64]; show _ = nI (snkN σ q + (if _ then 2 ^ q else 0)); rw [if_neg on9]; rfl)]
          exact ih (σ 2 - (q + 1)) (by omega) (q + 1) rfl (by omega)
        · have h2 := b2_nneg h2
          refine Wn.run (tab := tb_m_sinks) rfl 7 (c' := (34, [(2, .int (nI q)), (1, .int (nI (snkN σ q))), (0, .ref 114)], [.int ((mS M f g).1 116 (((nI 160) + (nI q))).toNatClampNeg), .ref 114, .int (nI (snkN σ q))], (mS M f g))) (o := [shp 114 = (0, 10), aok shp 116 0 ((nI 160) + (nI q))]) rfl ⟨rfl, (ak1 (n := 359) rfl rfl (n_add rfl rfl) (by omega))⟩ ?_
          have f9 := Bd_q hB q (by omega)
          rw [show ((mS M f g).1 116 (((nI 160) + (nI q))).toNatClampNeg) = (nI (σ (160 + q))) from (rd1 hf.1 (n_add rfl rfl) (by omega) (by omega))]
          refine Wn.callV (p := 114) (n := 2) (ix := 269) (ci := (10)) (fun r0 M0 => r0 = some (.int (nI (ld σ (σ (160 + q))))) ∧ (mS M f g) = M0) [.int (nI (σ (160 + q)))] [.int (nI (snkN σ q))] rfl rfl rfl rfl (Nat.le_of_ble_eq_true rfl) (Nat.le_of_ble_eq_true rfl) (w_m_loadsOn _ (σ (160 + q)) (by omega) (mS M f g) σ hM9 _ ⟨rfl, rfl⟩) ?_
          rintro _ _ ⟨rfl, rfl⟩
          show Wn _ 90 _ (37, [(2, .int (nI q)), (1, .int (nI (snkN σ q))), (0, .ref 114)], [.int (nI (ld σ (σ (160 + q)))), .int (nI (snkN σ q))], (mS M f g))
          have f9 := Bd_q hB q (by omega)
          refine Wn.run (tab := tb_m_sinks) rfl 12 (c' := (if (nI (ld σ (σ (160 + q)))) ≤ ((mS M f g).1 116 (((nI 96) + ((mS M f g).1 116 (((nI 160) + (nI q))).toNatClampNeg))).toNatClampNeg) then 64 else 58, [(2, .int (nI q)), (1, .int (nI (snkN σ q))), (0, .ref 114)], [.int (nI (snkN σ q))], (mS M f g))) (o := [shp 114 = (0, 10), shp 114 = (0, 10), aok shp 116 0 ((nI 160) + (nI q)), aok shp 116 0 ((nI 96) + ((mS M f g).1 116 (((nI 160) + (nI q))).toNatClampNeg))]) rfl ⟨rfl, rfl, (ak1 (n := 359) rfl rfl (n_add rfl rfl) (by omega)), (ak1 (n := 359) rfl rfl (n_add rfl (rd1 hf.1 (n_add rfl rfl) (by omega) (by omega))) (by omega))⟩ ?_
          refine Wn.br (fun h3 => ?_) (fun h3 => ?_)
          · have f9 := Bd_q hB q (by omega)
            have g9 := Bd_c hB (σ (160 + q)) (by omega)
            have r9 := ld_le hB (σ (160 + q))
            have h3 := (n_le rfl (rd1 hf.1 (n_add rfl (rd1 hf.1 (n_add rfl rfl) (by omega) (by omega))) (by omega) (by omega)) (by omega) (by omega)).mp h3
            refine Wn.run (tab := tb_m_sinks) rfl 5 (c' := (4, [(2, .int ((nI q) + (nI 1))), (1, .int ((nI (snkN σ q)) ||| (nI 0))), (0, .ref 114)], [], (mS M f g))) (o := []) rfl trivial ?_
            rw [show ((nI q) + (nI 1)) = (nI (q + 1)) from (n_add rfl rfl)]
            have hq6 : q < 6 := by omega
            have on9 : ¬ (¬ fal σ q = true ∧ σ (96 + σ (160 + q)) < ld σ (σ (160 + q))) := by intro h9; have h8 := h9.2; omega
            rw [show ((nI (snkN σ q)) ||| (nI 0)) = (nI (snkN σ (q + 1))) from (by rw [or_0 _ h64]; show _ = nI (snkN σ q + (if _ then 2 ^ q else 0)); rw [if_neg on9]; rfl)]
            exact ih (σ 2 - (q + 1)) (by omega) (q + 1) rfl (by omega)
          · have f9 := Bd_q hB q (by omega)
            have g9 := Bd_c hB (σ (160 + q)) (by omega)
            have r9 := ld_le hB (σ (160 + q))
            have h3 := mt (n_le rfl (rd1 hf.1 (n_add rfl (rd1 hf.1 (n_add rfl rfl) (by omega) (by omega))) (by omega) (by omega)) (by omega) (by omega)).mpr h3
            refine Wn.run (tab := tb_m_sinks) rfl 8 (c' := (4, [(2, .int ((nI q) + (nI 1))), (1, .int ((nI (snkN σ q)) ||| ((nI 1) <<< ((nI q) &&& 31)))), (0, .ref 114)], [], (mS M f g))) (o := []) rfl trivial ?_
            have p9 := pow_lt6 (q := q) (by omega)
            rw [show ((nI 1) <<< ((nI q) &&& 31)) = (nI (2 ^ q)) from (n_shl rfl (by omega))]
            rw [show ((nI q) + (nI 1)) = (nI (q + 1)) from (n_add rfl rfl)]
            have hq6 : q < 6 := by omega
            have on9 : ¬ fal σ q = true ∧ σ (96 + σ (160 + q)) < ld σ (σ (160 + q)) := ⟨h2, by omega⟩
            rw [show ((nI (snkN σ q)) ||| (nI (2 ^ q))) = (nI (snkN σ (q + 1))) from (by rw [or_ok2 q hq6 _ hlt]; show _ = nI (snkN σ q + (if _ then 2 ^ q else 0)); rw [if_pos on9])]
            exact ih (σ 2 - (q + 1)) (by omega) (q + 1) rfl (by omega)
  exact loop (σ 2 - 0) 0 rfl (by omega)
set_option maxRecDepth 20000 in
theorem w_m_flatters (d : Nat) (σ : Nat → Nat) (r : Nat) (hr : r < 6) (hp : σ (172 + r) + 1 < 1073741824) (M : Mm) (f g f0 : Nat → Int32) (hf : Rs f0 f σ) (hB : Bd σ) (Q : Po) (hQ : ∀ f9 : Nat → Int32, Rs f0 f9 (flat σ r) → Q none (mS M f9 g)) : Wn (d + 5) 94 Q (0, lv_args 0 [.ref 114, .int (nI r)], [], mS M f g) := by
  have f9 := Bd_q hB r hr
  have g9 := Bd_c hB (σ (160 + r)) (by omega)
  have k6 := Bd_6 hB
  refine Wn.run (tab := tb_m_flatters) rfl 14 (c' := (22, [(0, .ref 114), (1, .int (nI r))], [.int (((mS M f g).1 116 (((nI 166) + (nI r))).toNatClampNeg) - (nI 1)), .int (nI 0), .int ((nI 166) + (nI r)), .ref 116], (mS M f g))) (o := [shp 114 = (0, 10), shp 114 = (0, 10), aok shp 116 0 ((nI 166) + (nI r))]) rfl ⟨rfl, rfl, (ak1 (n := 359) rfl rfl (n_add rfl rfl) (by omega))⟩ ?_
  have f9 := Bd_q hB r (by omega)
  rw [show ((mS M f g).1 116 (((nI 166) + (nI r))).toNatClampNeg) = (nI (σ (166 + r))) from (rd1 hf.1 (n_add rfl rfl) (by omega) (by omega))]
  rw [show ((nI 166) + (nI r)) = (nI (166 + r)) from (n_add rfl rfl)]
  refine Wn.callS (n := 2) (ix := 272) (fun r0 M0 => r0 = some (.int (nI ((σ (166 + r)) - 1))) ∧ (mS M f g) = M0) [.int (nI 0), .int ((nI (σ (166 + r))) - (nI 1))] [.int (nI (166 + r)), .ref 116] rfl rfl rfl (Nat.le_of_ble_eq_true rfl) (Nat.le_of_ble_eq_true rfl) (w_m_max0 _ (σ (166 + r)) 1 (by omega) (by omega) (mS M f g) _ ⟨rfl, rfl⟩) ?_
  rintro _ _ ⟨rfl, rfl⟩
  show Wn _ 94 _ (25, [(0, .ref 114), (1, .int (nI r))], [.int (nI ((σ (166 + r)) - 1)), .int (nI (166 + r)), .ref 116], (mS M f g))
  refine Wn.run (tab := tb_m_flatters) rfl 1 (c' := (26, [(0, .ref 114), (1, .int (nI r))], [], (mI (mS M f g) 116 (upd ((mS M f g).1 116) ((nI (166 + r))).toNatClampNeg (nI ((σ (166 + r)) - 1)))))) (o := [aok shp 116 0 (nI (166 + r))]) rfl (ak1 (n := 359) rfl rfl rfl (by omega)) ?_
  have f9 := Bd_q hB r (by omega)
  have hf1 := Rs_up (ix := ((nI (166 + r))).toNatClampNeg) (x := (nI ((σ (166 + r)) - 1))) hf (cl1 rfl (by omega)) (by omega) rfl
  rw [mS_s]
  generalize hg1 : upd ((mS M f g).1 116) ((nI (166 + r))).toNatClampNeg (nI ((σ (166 + r)) - 1)) = f1
  replace hf1 : Rs f0 f1 (su σ (166 + r) ((σ (166 + r)) - 1)) := by rw [← hg1]; exact hf1
  clear hg1
  show Wn _ 94 _ (26, [(0, .ref 114), (1, .int (nI r))], [], (mS M f1 g))
  refine Wn.run (tab := tb_m_flatters) rfl 10 (c' := (40, [(0, .ref 114), (1, .int (nI r))], [], (mI (mS M f1 g) 116 (upd ((mS M f1 g).1 116) (((nI 172) + (nI r))).toNatClampNeg (((mS M f1 g).1 116 (((nI 172) + (nI r))).toNatClampNeg) + (nI 1)))))) (o := [shp 114 = (0, 10), aok shp 116 0 ((nI 172) + (nI r)), aok shp 116 0 ((nI 172) + (nI r))]) rfl ⟨rfl, (ak1 (n := 359) rfl rfl (n_add rfl rfl) (by omega)), (ak1 (n := 359) rfl rfl (n_add rfl rfl) (by omega))⟩ ?_
  have f9 := Bd_q hB r (by omega)
  have hf2 := Rs_up (ix := (((nI 172) + (nI r))).toNatClampNeg) (x := (((mS M f1 g).1 116 (((nI 172) + (nI r))).toNatClampNeg) + (nI 1))) hf1 (cl1 (n_add rfl rfl) (by omega)) (by omega) (n_add (r_ne (rd1 hf1.1 (n_add rfl rfl) (by omega) (by omega)) (by omega)) rfl)
  rw [mS_s]
  generalize hg2 : upd ((mS M f1 g).1 116) (((nI 172) + (nI r))).toNatClampNeg (((mS M f1 g).1 116 (((nI 172) + (nI r))).toNatClampNeg) + (nI 1)) = f2
  replace hf2 : Rs f0 f2 (su (su σ (166 + r) ((σ (166 + r)) - 1)) (172 + r) ((σ (172 + r)) + 1)) := by rw [← hg2]; exact hf2
  clear hg2
  show Wn _ 94 _ (40, [(0, .ref 114), (1, .int (nI r))], [], (mS M f2 g))
  refine Wn.run (tab := tb_m_flatters) rfl 8 (c' := (51, [(0, .ref 114), (1, .int (nI r))], [], (mI (mS M f2 g) 116 (upd ((mS M f2 g).1 116) 94 (((mS M f2 g).1 116 94) + (nI 1)))))) (o := [shp 114 = (0, 10), aok shp 116 0 (nI 94), aok shp 116 0 (nI 94)]) rfl ⟨rfl, ⟨rfl, vp_in_nI (by decide) (by decide)⟩, ⟨rfl, vp_in_nI (by decide) (by decide)⟩⟩ ?_
  have hf3 := Rs_up (ix := 94) (x := (((mS M f2 g).1 116 94) + (nI 1))) hf2 rfl (by omega) (n_add (r_ne (r_ne (rd0 hf2.1 (by omega)) (by omega)) (by omega)) rfl)
  rw [mS_s]
  generalize hg3 : upd ((mS M f2 g).1 116) 94 (((mS M f2 g).1 116 94) + (nI 1)) = f3
  replace hf3 : Rs f0 f3 (su (su (su σ (166 + r) ((σ (166 + r)) - 1)) (172 + r) ((σ (172 + r)) + 1)) 94 ((σ 94) + 1)) := by rw [← hg3]; exact hf3
  clear hg3
  show Wn _ 94 _ (51, [(0, .ref 114), (1, .int (nI r))], [], (mS M f3 g))
  refine Wn.run (tab := tb_m_flatters) rfl 11 (c' := (if ((mS M f3 g).1 116 6) < ((mS M f3 g).1 116 (((nI 172) + (nI r))).toNatClampNeg) then 72 else 71, [(0, .ref 114), (1, .int (nI r))], [], (mS M f3 g))) (o := [shp 114 = (0, 10), aok shp 116 0 ((nI 172) + (nI r)), shp 114 = (0, 10), aok shp 116 0 (nI 6)]) rfl ⟨rfl, (ak1 (n := 359) rfl rfl (n_add rfl rfl) (by omega)), rfl, ⟨rfl, vp_in_nI (by decide) (by decide)⟩⟩ ?_
  refine Wn.br (fun h1 => ?_) (fun h1 => ?_)
  · have c9_6 := Bd_6 hB
    have f9 := Bd_q hB r (by omega)
    have h1 := (n_lt (r_ne (r_ne (r_ne (rd0 hf3.1 (by omega)) (by omega)) (by omega)) (by omega)) (r_eq (r_ne (rd1 hf3.1 (n_add rfl rfl) (by omega) (by omega)) (by omega)) rfl) (by omega) (by omega)).mp h1
    have f9 := Bd_q hB r (by omega)
    refine Wn.run (tab := tb_m_flatters) rfl 24 (c' := (110, [(0, .ref 114), (1, .int (nI r))], [.int (((mS M f3 g).1 116 (((nI 96) + ((mS M f3 g).1 116 (((nI 160) + (nI r))).toNatClampNeg))).toNatClampNeg) - (nI 1)), .int (nI 0), .int ((nI 96) + ((mS M f3 g).1 116 (((nI 160) + (nI r))).toNatClampNeg)), .ref 116], (mS M f3 g))) (o := [shp 114 = (0, 10), shp 114 = (0, 10), aok shp 116 0 ((nI 160) + (nI r)), shp 114 = (0, 10), shp 114 = (0, 10), aok shp 116 0 ((nI 160) + (nI r)), aok shp 116 0 ((nI 96) + ((mS M f3 g).1 116 (((nI 160) + (nI r))).toNatClampNeg))]) rfl ⟨rfl, rfl, (ak1 (n := 359) rfl rfl (n_add rfl rfl) (by omega)), rfl, rfl, (ak1 (n := 359) rfl rfl (n_add rfl rfl) (by omega)), (ak1 (n := 359) rfl rfl (n_add rfl (r_ne (r_ne (r_ne (rd1 hf3.1 (n_add rfl rfl) (by omega) (by omega)) (by omega)) (by omega)) (by omega))) (by omega))⟩ ?_
    have f9 := Bd_q hB r (by omega)
    have g9 := Bd_c hB (σ (160 + r)) (by omega)
    rw [show ((mS M f3 g).1 116 (((nI 96) + ((mS M f3 g).1 116 (((nI 160) + (nI r))).toNatClampNeg))).toNatClampNeg) = (nI (σ (96 + (σ (160 + r))))) from (r_ne (r_ne (r_ne (rd1 hf3.1 (n_add rfl (r_ne (r_ne (r_ne (rd1 hf3.1 (n_add rfl rfl) (by omega) (by omega)) (by omega)) (by omega)) (by omega))) (by omega) (by omega)) (by omega)) (by omega)) (by omega))]
    have f9 := Bd_q hB r (by omega)
    rw [show ((nI 96) + ((mS M f3 g).1 116 (((nI 160) + (nI r))).toNatClampNeg)) = (nI (96 + (σ (160 + r)))) from (n_add rfl (r_ne (r_ne (r_ne (rd1 hf3.1 (n_add rfl rfl) (by omega) (by omega)) (by omega)) (by omega)) (by omega)))]
    refine Wn.callS (n := 2) (ix := 272) (fun r0 M0 => r0 = some (.int (nI ((σ (96 + (σ (160 + r)))) - 1))) ∧ (mS M f3 g) = M0) [.int (nI 0), .int ((nI (σ (96 + (σ (160 + r))))) - (nI 1))] [.int (nI (96 + (σ (160 + r)))), .ref 116] rfl rfl rfl (Nat.le_of_ble_eq_true rfl) (Nat.le_of_ble_eq_true rfl) (w_m_max0 _ (σ (96 + (σ (160 + r)))) 1 (by omega) (by omega) (mS M f3 g) _ ⟨rfl, rfl⟩) ?_
    rintro _ _ ⟨rfl, rfl⟩
    show Wn _ 94 _ (113, [(0, .ref 114), (1, .int (nI r))], [.int (nI ((σ (96 + (σ (160 + r)))) - 1)), .int (nI (96 + (σ (160 + r)))), .ref 116], (mS M f3 g))
    have f9 := Bd_q hB r (by omega)
    refine Wn.run (tab := tb_m_flatters) rfl 1 (c' := (114, [(0, .ref 114), (1, .int (nI r))], [], (mI (mS M f3 g) 116 (upd ((mS M f3 g).1 116) ((nI (96 + (σ (160 + r))))).toNatClampNeg (nI ((σ (96 + (σ (160 + r)))) - 1)))))) (o := [aok shp 116 0 (nI (96 + (σ (160 + r))))]) rfl (ak1 (n := 359) rfl rfl rfl (by omega)) ?_
    have f9 := Bd_q hB r (by omega)
    have f9 := Bd_q hB r (by omega)
    have g9 := Bd_c hB (σ (160 + r)) (by omega)
    have hf4 := Rs_up (ix := ((nI (96 + (σ (160 + r))))).toNatClampNeg) (x := (nI ((σ (96 + (σ (160 + r)))) - 1))) hf3 (cl1 rfl (by omega)) (by omega) rfl
    rw [mS_s]
    generalize hg4 : upd ((mS M f3 g).1 116) ((nI (96 + (σ (160 + r))))).toNatClampNeg (nI ((σ (96 + (σ (160 + r)))) - 1)) = f4
    replace hf4 : Rs f0 f4 (su (su (su (su σ (166 + r) ((σ (166 + r)) - 1)) (172 + r) ((σ (172 + r)) + 1)) 94 ((σ 94) + 1)) (96 + (σ (160 + r))) ((σ (96 + (σ (160 + r)))) - 1)) := by rw [← hg4]; exact hf4
    clear hg4
    show Wn _ 94 _ (114, [(0, .ref 114), (1, .int (nI r))], [], (mS M f4 g))
    refine Wn.run (tab := tb_m_flatters) rfl 1 (c' := (115, [(0, .ref 114), (1, .int (nI r))], [.ref 114], (mS M f4 g))) (o := []) rfl trivial ?_
    have hB5_0 : Bd (su σ (166 + r) ((σ (166 + r)) - 1)) := Bd_su hB (by omega) (by omega) (by omega) (by omega) (by omega) (by omega) (by omega)
    have hB5_1 : Bd (su (su σ (166 + r) ((σ (166 + r)) - 1)) (172 + r) ((σ (172 + r)) + 1)) := Bd_su hB5_0 (by omega) (by omega) (by omega) (by omega) (by omega) (by omega) (by omega)
    have hB5_2 : Bd (su (su (su σ (166 + r) ((σ (166 + r)) - 1)) (172 + r) ((σ (172 + r)) + 1)) (94) ((σ 94) + 1)) := Bd_su hB5_1 (by omega) (by omega) (by omega) (by omega) (by omega) (by omega) (by omega)
    have hB5_3 : Bd (su (su (su (su σ (166 + r) ((σ (166 + r)) - 1)) (172 + r) ((σ (172 + r)) + 1)) (94) ((σ 94) + 1)) (96 + (σ (160 + r))) ((σ (96 + (σ (160 + r)))) - 1)) := Bd_su hB5_2 (by omega) (by omega) (by omega) (by omega) (by omega) (by omega) (by omega)
    refine Wn.callV (p := 114) (n := 1) (ix := 309) (ci := (10)) (fun r0 M0 => r0 = none ∧ ∃ f9, Rs f0 f9 (sink (su (su (su (su σ (166 + r) ((σ (166 + r)) - 1)) (172 + r) ((σ (172 + r)) + 1)) 94 ((σ 94) + 1)) (96 + (σ (160 + r))) ((σ (96 + (σ (160 + r)))) - 1))) ∧ mS M f9 g = M0) [] [] rfl rfl rfl rfl (Nat.le_of_ble_eq_true rfl) (Nat.le_of_ble_eq_true rfl) (w_m_sinks _ (su (su (su (su σ (166 + r) ((σ (166 + r)) - 1)) (172 + r) ((σ (172 + r)) + 1)) 94 ((σ 94) + 1)) (96 + (σ (160 + r))) ((σ (96 + (σ (160 + r)))) - 1))  M f4 g f0 hf4 hB5_3 _ (fun f9 h9 => ⟨rfl, f9, h9, rfl⟩)) ?_
    rintro _ _ ⟨rfl, f5, hf5, rfl⟩
    show Wn _ 94 _ (118, [(0, .ref 114), (1, .int (nI r))], [], (mS M f5 g))
    have e9 : flat σ r = sink (su (flt0 σ r) (96 + σ (160 + r)) (σ (96 + σ (160 + r)) - 1)) := if_pos (by omega)
    rw [e9] at hQ
    exact Wn.vret rfl (hQ f5 hf5)
  · have c9_6 := Bd_6 hB
    have f9 := Bd_q hB r (by omega)
    have h1 := mt (n_lt (r_ne (r_ne (r_ne (rd0 hf3.1 (by omega)) (by omega)) (by omega)) (by omega)) (r_eq (r_ne (rd1 hf3.1 (n_add rfl rfl) (by omega) (by omega)) (by omega)) rfl) (by omega) (by omega)).mpr h1
    have e9 : flat σ r = flt0 σ r := if_neg (by omega)
    rw [e9] at hQ
    exact Wn.vret rfl (hQ f3 hf3)
theorem crs_0 (σ : Nat → Nat) (q : Nat) : crs σ q 0 = σ := by
  funext k
  unfold crs
  rw [if_neg (by omega)]
theorem crs_s {σ : Nat → Nat} {q n : Nat} : su (crs σ q n) (96 + n) (ifs σ q n) = crs σ q (n + 1) := by
  funext k
  unfold su crs
  by_cases h : k = 96 + n
  · rw [if_pos h, if_pos (by omega), h, Nat.add_sub_cancel_left]
  · rw [if_neg h]
    by_cases h2 : 96 ≤ k ∧ k < 96 + n
    · rw [if_pos h2, if_pos (by omega)]
    · rw [if_neg h2, if_neg (by omega)]
theorem crs_lo {σ : Nat → Nat} {q n k : Nat} (h : k < 96 ∨ 96 + n ≤ k) : crs σ q n k = σ k := if_neg (by omega)
theorem crs_ifs {σ : Nat → Nat} {q n c : Nat} (hn : n ≤ 64) (hc : n ≤ c) (hq : q < 6) : ifs (crs σ q n) q c = ifs σ q c := by
  unfold ifs
  rw [crs_lo (k := 160 + q) (by omega), crs_lo (k := 4) (by omega), crs_lo (k := 96 + c) (by omega), crs_lo (k := 3) (by omega)]
theorem Bd_crs {σ : Nat → Nat} (h : Bd σ) (q : Nat) : ∀ n, n ≤ 64 → Bd (crs σ q n)
  | 0, _ => by rw [crs_0]; exact h
  | n + 1, hn => by
    have ih := Bd_crs h q n (by omega)
    have hi := ifs_le h q n (by omega)
    rw [← crs_s]
    exact Bd_su ih (by omega) (by omega) (by omega) (by omega) (by omega) (by omega) (by omega)
set_option maxRecDepth 20000 in
theorem w_m_curses (d : Nat) (σ : Nat → Nat) (q : Nat) (hq : q < 6) (M : Mm) (f g f0 : Nat → Int32) (hf : Rs f0 f σ) (hB : Bd σ) (Q : Po) (hQ : ∀ f9 : Nat → Int32, Rs f0 f9 (curse σ q) → Q none (mS M f9 g)) : Wn (d + 5) 95 Q (0, lv_args 0 [.ref 114, .int (nI q)], [], mS M f g) := by
  have f9 := Bd_q hB q hq
  refine Wn.run (tab := tb_m_curses) rfl 2 (c' := (2, [(2, .int (nI 0)), (0, .ref 114), (1, .int (nI q))], [], (mS M f g))) (o := []) rfl trivial ?_
  have loop : ∀ (m n : Nat) (f : Nat → Int32), 64 - n = m → n ≤ 64 → Rs f0 f (crs σ q n) → Wn (d + 5) 95 Q (2, [(2, .int (nI n)), (0, .ref 114), (1, .int (nI q))], [], (mS M f g)) := by
    intro m
    induction m using Nat.strongRecOn with
    | _ m ih =>
      intro n f hm hn hf
      have hBn := Bd_crs hB q n hn
      have hM9 : Ms (mS M f g) (crs σ q n) := ⟨hf.1, hBn⟩
      refine Wn.run (tab := tb_m_curses) rfl 3 (c' := (if (nI 64) ≤ (nI n) then 29 else 8, [(2, .int (nI n)), (0, .ref 114), (1, .int (nI q))], [], (mS M f g))) (o := []) rfl trivial ?_
      refine Wn.br (fun h1 => ?_) (fun h1 => ?_)
      · have h1 := (n_le rfl rfl (by omega) (by omega)).mp h1
        refine Wn.run (tab := tb_m_curses) rfl 7 (c' := (40, [(2, .int (nI n)), (0, .ref 114), (1, .int (nI q))], [], (mI (mS M f g) 116 (upd ((mS M f g).1 116) (((nI 166) + (nI q))).toNatClampNeg (nI 0))))) (o := [shp 114 = (0, 10), aok shp 116 0 ((nI 166) + (nI q))]) rfl ⟨rfl, (ak1 (n := 359) rfl rfl (n_add rfl rfl) (by omega))⟩ ?_
        have hf1 := Rs_up (ix := (((nI 166) + (nI q))).toNatClampNeg) (x := (nI 0)) hf (cl1 (n_add rfl rfl) (by omega)) (by omega) rfl
        rw [mS_s]
        generalize hg1 : upd ((mS M f g).1 116) (((nI 166) + (nI q))).toNatClampNeg (nI 0) = f1
        replace hf1 : Rs f0 f1 (su (crs σ q n) (166 + q) 0) := by rw [← hg1]; exact hf1
        clear hg1
        show Wn _ 95 _ (40, [(2, .int (nI n)), (0, .ref 114), (1, .int (nI q))], [], (mS M f1 g))
        refine Wn.run (tab := tb_m_curses) rfl 8 (c' := (51, [(2, .int (nI n)), (0, .ref 114), (1, .int (nI q))], [], (mI (mS M f1 g) 116 (upd ((mS M f1 g).1 116) 95 (((mS M f1 g).1 116 95) + (nI 1)))))) (o := [shp 114 = (0, 10), aok shp 116 0 (nI 95), aok shp 116 0 (nI 95)]) rfl ⟨rfl, ⟨rfl, vp_in_nI (by decide) (by decide)⟩, ⟨rfl, vp_in_nI (by decide) (by decide)⟩⟩ ?_
        have hf2 := Rs_up (ix := 95) (x := (((mS M f1 g).1 116 95) + (nI 1))) hf1 rfl (by omega) (n_add (r_ne (rd0 hf1.1 (by omega)) (by omega)) rfl)
        rw [mS_s]
        generalize hg2 : upd ((mS M f1 g).1 116) 95 (((mS M f1 g).1 116 95) + (nI 1)) = f2
        replace hf2 : Rs f0 f2 (su (su (crs σ q n) (166 + q) 0) 95 (((crs σ q n) 95) + 1)) := by rw [← hg2]; exact hf2
        clear hg2
        show Wn _ 95 _ (51, [(2, .int (nI n)), (0, .ref 114), (1, .int (nI q))], [], (mS M f2 g))
        refine Wn.run (tab := tb_m_curses) rfl 1 (c' := (52, [(2, .int (nI n)), (0, .ref 114), (1, .int (nI q))], [.ref 114], (mS M f2 g))) (o := []) rfl trivial ?_
        have hB3_0 : Bd (su (crs σ q n) (166 + q) (0)) := Bd_su hBn (by omega) (by omega) (by omega) (by omega) (by omega) (by omega) (by omega)
        have hB3_1 : Bd (su (su (crs σ q n) (166 + q) (0)) (95) (((crs σ q n) 95) + 1)) := Bd_su hB3_0 (by omega) (by omega) (by omega) (by omega) (by omega) (by omega) (by omega)
        refine Wn.callV (p := 114) (n := 1) (ix := 309) (ci := (10)) (fun r0 M0 => r0 = none ∧ ∃ f9, Rs f0 f9 (sink (su (su (crs σ q n) (166 + q) 0) 95 (((crs σ q n) 95) + 1))) ∧ mS M f9 g = M0) [] [] rfl rfl rfl rfl (Nat.le_of_ble_eq_true rfl) (Nat.le_of_ble_eq_true rfl) (w_m_sinks _ (su (su (crs σ q n) (166 + q) 0) 95 (((crs σ q n) 95) + 1))  M f2 g f0 hf2 hB3_1 _ (fun f9 h9 => ⟨rfl, f9, h9, rfl⟩)) ?_
        rintro _ _ ⟨rfl, f3, hf3, rfl⟩
        show Wn _ 95 _ (55, [(2, .int (nI n)), (0, .ref 114), (1, .int (nI q))], [], (mS M f3 g))
        have e9 : n = 64 := by omega
        subst e9
        rw [crs_lo (k := 95) (by omega)] at hf3
        exact Wn.vret rfl (hQ f3 hf3)
      · have h1 := mt (n_le rfl rfl (by omega) (by omega)).mpr h1
        refine Wn.run (tab := tb_m_curses) rfl 8 (c' := (19, [(2, .int (nI n)), (0, .ref 114), (1, .int (nI q))], [.int (nI n), .int (nI q), .ref 114, .int ((nI 96) + (nI n)), .ref 116], (mS M f g))) (o := [shp 114 = (0, 10)]) rfl rfl ?_
        rw [show ((nI 96) + (nI n)) = (nI (96 + n)) from (n_add rfl rfl)]
        refine Wn.callV (p := 114) (n := 3) (ix := 278) (ci := (10)) (fun r0 M0 => r0 = some (.int (nI (ifs (crs σ q n) q n))) ∧ (mS M f g) = M0) [.int (nI q), .int (nI n)] [.int (nI (96 + n)), .ref 116] rfl rfl rfl rfl (Nat.le_of_ble_eq_true rfl) (Nat.le_of_ble_eq_true rfl) (w_m_iceIfSworn _ q n (by omega) (by omega) (mS M f g) (crs σ q n) hM9 _ ⟨rfl, rfl⟩) ?_
        rintro _ _ ⟨rfl, rfl⟩
        show Wn _ 95 _ (22, [(2, .int (nI n)), (0, .ref 114), (1, .int (nI q))], [.int (nI (ifs (crs σ q n) q n)), .int (nI (96 + n)), .ref 116], (mS M f g))
        refine Wn.run (tab := tb_m_curses) rfl 1 (c' := (23, [(2, .int (nI n)), (0, .ref 114), (1, .int (nI q))], [], (mI (mS M f g) 116 (upd ((mS M f g).1 116) ((nI (96 + n))).toNatClampNeg (nI (ifs (crs σ q n) q n)))))) (o := [aok shp 116 0 (nI (96 + n))]) rfl (ak1 (n := 359) rfl rfl rfl (by omega)) ?_
        have hf1 := Rs_up (ix := ((nI (96 + n))).toNatClampNeg) (x := (nI (ifs (crs σ q n) q n))) hf (cl1 rfl (by omega)) (by omega) rfl
        rw [mS_s]
        generalize hg1 : upd ((mS M f g).1 116) ((nI (96 + n))).toNatClampNeg (nI (ifs (crs σ q n) q n)) = f1
        replace hf1 : Rs f0 f1 (su (crs σ q n) (96 + n) (ifs (crs σ q n) q n)) := by rw [← hg1]; exact hf1
        clear hg1
        show Wn _ 95 _ (23, [(2, .int (nI n)), (0, .ref 114), (1, .int (nI q))], [], (mS M f1 g))
        refine Wn.run (tab := tb_m_curses) rfl 2 (c' := (2, [(2, .int ((nI n) + (nI 1))), (0, .ref 114), (1, .int (nI q))], [], (mS M f1 g))) (o := []) rfl trivial ?_
        rw [show ((nI n) + (nI 1)) = (nI (n + 1)) from (n_add rfl rfl)]
        rw [crs_ifs hn (Nat.le_refl n) hq, crs_s] at hf1
        exact ih (64 - (n + 1)) (by omega) (n + 1) f1 rfl (by omega) hf1
  exact loop 64 0 f rfl (by omega) (by rw [crs_0]; exact hf)
set_option maxRecDepth 20000 in
theorem hour_body (d : Nat) (σ : Nat → Nat) (q : Nat) (hq2 : q < σ 2) (M : Mm) (f g f0 : Nat → Int32) (hf : Rs f0 f σ) (hB : Bd σ) (Q : Po)
    (k1 : ∀ f9 : Nat → Int32, Rs f0 f9 (hst σ q) → ¬ hsw σ q → Wn (d + 6) 96 Q (7, [(1, .int (nI (q + 1))), (0, .ref 114)], [], mS M f9 g))
    (k2 : ∀ f9 : Nat → Int32, Rs f0 f9 (hst σ q) → hsw σ q → Wn (d + 6) 96 Q (7, [(1, .int (nI (q + 1))), (0, .ref 114)], [], mS M f9 (upd g 22 (g 22 ||| nI (2 ^ q))))) : Wn (d + 6) 96 Q (17, [(1, .int (nI q)), (0, .ref 114)], [], mS M f g) := by
  have hM9 : Ms (mS M f g) σ := ⟨hf.1, hB⟩
  have c9_2 := Bd_2 hB
  have k5 := Bd_5 hB
  refine Wn.run (tab := tb_m_hour) rfl 2 (c' := (19, [(1, .int (nI q)), (0, .ref 114)], [.int (nI q), .ref 114], (mS M f g))) (o := []) rfl trivial ?_
  refine Wn.callV (p := 114) (n := 2) (ix := 260) (ci := (10)) (fun r0 M0 => r0 = some (.int (b2 (fal σ q = true))) ∧ (mS M f g) = M0) [.int (nI q)] [] rfl rfl rfl rfl (Nat.le_of_ble_eq_true rfl) (Nat.le_of_ble_eq_true rfl) (w_m_hasFallen _ q (by omega) (mS M f g) σ hM9 _ ⟨rfl, rfl⟩) ?_
  rintro _ _ ⟨rfl, rfl⟩
  show Wn _ 96 _ (22, [(1, .int (nI q)), (0, .ref 114)], [.int (b2 (fal σ q = true))], (mS M f g))
  refine Wn.run (tab := tb_m_hour) rfl 1 (c' := (if (b2 (fal σ q = true)) = 0 then 28 else 25, [(1, .int (nI q)), (0, .ref 114)], [], (mS M f g))) (o := []) rfl trivial ?_
  refine Wn.br (fun h1 => ?_) (fun h1 => ?_)
  · have h1 := b2_neg h1
    refine Wn.run (tab := tb_m_hour) rfl 4 (c' := (32, [(3, .int (nI 0)), (2, .int (nI 0)), (1, .int (nI q)), (0, .ref 114)], [], (mS M f g))) (o := []) rfl trivial ?_
    have loop : ∀ (m r : Nat), σ 2 - r = m → r ≤ σ 2 → Wn (d + 6) 96 Q (32, [(3, .int (nI r)), (2, .int (nI (nrN σ q r))), (1, .int (nI q)), (0, .ref 114)], [], (mS M f g)) := by
      intro m
      induction m using Nat.strongRecOn with
      | _ m ih =>
        intro r hm hr
        have hnr := nrN_le σ q r
        have f9 := Bd_q hB q (by omega)
        refine Wn.run (tab := tb_m_hour) rfl 6 (c' := (if ((mS M f g).1 116 2) ≤ (nI r) then 96 else 42, [(3, .int (nI r)), (2, .int (nI (nrN σ q r))), (1, .int (nI q)), (0, .ref 114)], [], (mS M f g))) (o := [shp 114 = (0, 10), aok shp 116 0 (nI 2)]) rfl ⟨rfl, ⟨rfl, vp_in_nI (by decide) (by decide)⟩⟩ ?_
        refine Wn.br (fun h2 => ?_) (fun h2 => ?_)
        · have c9_2 := Bd_2 hB
          have h2 := (n_le (rd0 hf.1 (by omega)) rfl (by omega) (by omega)).mp h2
          refine Wn.run (tab := tb_m_hour) rfl 14 (c' := (119, [(3, .int (nI r)), (2, .int (nI (nrN σ q r))), (1, .int (nI q)), (0, .ref 114)], [.int (((mS M f g).1 116 (((nI 166) + (nI q))).toNatClampNeg) + (nI (nrN σ q r))), .int (nI 9), .int ((nI 166) + (nI q)), .ref 116], (mS M f g))) (o := [shp 114 = (0, 10), shp 114 = (0, 10), aok shp 116 0 ((nI 166) + (nI q))]) rfl ⟨rfl, rfl, (ak1 (n := 359) rfl rfl (n_add rfl rfl) (by omega))⟩ ?_
          have f9 := Bd_q hB q (by omega)
          rw [show (((mS M f g).1 116 (((nI 166) + (nI q))).toNatClampNeg) + (nI (nrN σ q r))) = (nI ((σ (166 + q)) + (nrN σ q r))) from (n_add (rd1 hf.1 (n_add rfl rfl) (by omega) (by omega)) rfl)]
          rw [show ((nI 166) + (nI q)) = (nI (166 + q)) from (n_add rfl rfl)]
          refine Wn.callS (n := 2) (ix := 306) (fun r0 M0 => r0 = some (.int (nI (if 9 < ((σ (166 + q)) + (nrN σ q r)) then 9 else ((σ (166 + q)) + (nrN σ q r))))) ∧ (mS M f g) = M0) [.int (nI 9), .int (nI ((σ (166 + q)) + (nrN σ q r)))] [.int (nI (166 + q)), .ref 116] rfl rfl rfl (Nat.le_of_ble_eq_true rfl) (Nat.le_of_ble_eq_true rfl) (w_m_minN _ 9 ((σ (166 + q)) + (nrN σ q r)) (by omega) (by omega) (mS M f g) _ ⟨rfl, rfl⟩) ?_
          rintro _ _ ⟨rfl, rfl⟩
          show Wn _ 96 _ (122, [(3, .int (nI r)), (2, .int (nI (nrN σ q r))), (1, .int (nI q)), (0, .ref 114)], [.int (nI (if 9 < ((σ (166 + q)) + (nrN σ q r)) then 9 else ((σ (166 + q)) + (nrN σ q r)))), .int (nI (166 + q)), .ref 116], (mS M f g))
          refine Wn.run (tab := tb_m_hour) rfl 1 (c' := (123, [(3, .int (nI r)), (2, .int (nI (nrN σ q r))), (1, .int (nI q)), (0, .ref 114)], [], (mI (mS M f g) 116 (upd ((mS M f g).1 116) ((nI (166 + q))).toNatClampNeg (nI (if 9 < ((σ (166 + q)) + (nrN σ q r)) then 9 else ((σ (166 + q)) + (nrN σ q r)))))))) (o := [aok shp 116 0 (nI (166 + q))]) rfl (ak1 (n := 359) rfl rfl rfl (by omega)) ?_
          have f9 := Bd_q hB q (by omega)
          have i9 : (if 9 < ((σ (166 + q)) + (nrN σ q r)) then 9 else ((σ (166 + q)) + (nrN σ q r))) ≤ 9 := by split <;> omega
          have hf1 := Rs_up (ix := ((nI (166 + q))).toNatClampNeg) (x := (nI (if 9 < ((σ (166 + q)) + (nrN σ q r)) then 9 else ((σ (166 + q)) + (nrN σ q r))))) hf (cl1 rfl (by omega)) (by omega) rfl
          rw [mS_s]
          generalize hg1 : upd ((mS M f g).1 116) ((nI (166 + q))).toNatClampNeg (nI (if 9 < ((σ (166 + q)) + (nrN σ q r)) then 9 else ((σ (166 + q)) + (nrN σ q r)))) = f1
          replace hf1 : Rs f0 f1 (su σ (166 + q) (if 9 < ((σ (166 + q)) + (nrN σ q r)) then 9 else ((σ (166 + q)) + (nrN σ q r)))) := by rw [← hg1]; exact hf1
          clear hg1
          show Wn _ 96 _ (123, [(3, .int (nI r)), (2, .int (nI (nrN σ q r))), (1, .int (nI q)), (0, .ref 114)], [], (mS M f1 g))
          refine Wn.run (tab := tb_m_hour) rfl 11 (c' := (if ((mS M f1 g).1 116 5) ≤ ((mS M f1 g).1 116 (((nI 166) + (nI q))).toNatClampNeg) then 145 else 142, [(3, .int (nI r)), (2, .int (nI (nrN σ q r))), (1, .int (nI q)), (0, .ref 114)], [], (mS M f1 g))) (o := [shp 114 = (0, 10), aok shp 116 0 ((nI 166) + (nI q)), shp 114 = (0, 10), aok shp 116 0 (nI 5)]) rfl ⟨rfl, (ak1 (n := 359) rfl rfl (n_add rfl rfl) (by omega)), rfl, ⟨rfl, vp_in_nI (by decide) (by decide)⟩⟩ ?_
          refine Wn.br (fun h3 => ?_) (fun h3 => ?_)
          · have c9_5 := Bd_5 hB
            have f9 := Bd_q hB q (by omega)
            have i9 : (if 9 < ((σ (166 + q)) + (nrN σ q r)) then 9 else ((σ (166 + q)) + (nrN σ q r))) ≤ 9 := by split <;> omega
            have h3 := (n_le (r_ne (rd0 hf1.1 (by omega)) (by omega)) (r_eq (rd1 hf1.1 (n_add rfl rfl) (by omega) (by omega)) rfl) (by omega) (by omega)).mp h3
            refine Wn.run (tab := tb_m_hour) rfl 8 (c' := (157, [(3, .int (nI r)), (2, .int (nI (nrN σ q r))), (1, .int (nI q)), (0, .ref 114)], [], (mI (mS M f1 g) 114 (upd ((mS M f1 g).1 114) 22 (((mS M f1 g).1 114 22) ||| ((nI 1) <<< ((nI q) &&& 31))))))) (o := [shp 114 = (0, 10), shp 114 = (0, 10)]) rfl ⟨rfl, rfl⟩ ?_
            have p9 := pow_lt6 (q := q) (by omega)
            rw [show ((nI 1) <<< ((nI q) &&& 31)) = (nI (2 ^ q)) from (n_shl rfl (by omega))]
            rw [mS_g]
            show Wn _ 96 _ (157, [(3, .int (nI r)), (2, .int (nI (nrN σ q r))), (1, .int (nI q)), (0, .ref 114)], [], (mS M f1 (upd g 22 (((mS M f1 g).1 114 22) ||| (nI (2 ^ q))))))
            refine Wn.run (tab := tb_m_hour) rfl 2 (c' := (159, [(3, .int (nI r)), (2, .int (nI (nrN σ q r))), (1, .int (nI q)), (0, .ref 114)], [.int (nI q), .ref 114], (mS M f1 (upd g 22 (((mS M f1 g).1 114 22) ||| (nI (2 ^ q))))))) (o := []) rfl trivial ?_
            have hB3_0 : Bd (su σ (166 + q) (if 9 < ((σ (166 + q)) + (nrN σ q r)) then 9 else ((σ (166 + q)) + (nrN σ q r)))) := Bd_su hB (by omega) (by omega) (by omega) (by omega) (by omega) (by omega) (by omega)
            refine Wn.callV (p := 114) (n := 2) (ix := 315) (ci := (10)) (fun r0 M0 => r0 = none ∧ ∃ f9, Rs f0 f9 (curse (su σ (166 + q) (if 9 < ((σ (166 + q)) + (nrN σ q r)) then 9 else ((σ (166 + q)) + (nrN σ q r)))) q) ∧ mS M f9 (upd g 22 (((mS M f1 g).1 114 22) ||| (nI (2 ^ q)))) = M0) [.int (nI q)] [] rfl rfl rfl rfl (Nat.le_of_ble_eq_true rfl) (Nat.le_of_ble_eq_true rfl) (w_m_curses _ (su σ (166 + q) (if 9 < ((σ (166 + q)) + (nrN σ q r)) then 9 else ((σ (166 + q)) + (nrN σ q r)))) q (by omega) M f1 (upd g 22 (((mS M f1 g).1 114 22) ||| (nI (2 ^ q)))) f0 hf1 hB3_0 _ (fun f9 h9 => ⟨rfl, f9, h9, rfl⟩)) ?_
            rintro _ _ ⟨rfl, f3, hf3, rfl⟩
            show Wn _ 96 _ (162, [(3, .int (nI r)), (2, .int (nI (nrN σ q r))), (1, .int (nI q)), (0, .ref 114)], [], (mS M f3 (upd g 22 (((mS M f1 g).1 114 22) ||| (nI (2 ^ q))))))
            refine Wn.run (tab := tb_m_hour) rfl 2 (c' := (7, [(1, .int ((nI q) + (nI 1))), (3, .int (nI r)), (2, .int (nI (nrN σ q r))), (0, .ref 114)], [], (mS M f3 (upd g 22 (((mS M f1 g).1 114 22) ||| (nI (2 ^ q))))))) (o := []) rfl trivial ?_
            rw [show ((nI q) + (nI 1)) = (nI (q + 1)) from (n_add rfl rfl)]
            refine Wn.lvp [0, 3] (lv' := [(1, .int (nI (q + 1))), (0, .ref 114)]) rfl ?_
            have e9 : r = σ 2 := by omega
            subst e9
            have et : tmp9 σ q = (if 9 < σ (166 + q) + nrN σ q (σ 2) then 9 else σ (166 + q) + nrN σ q (σ 2)) := rfl
            rw [← et] at hf3
            exact k2 f3 (by unfold hst; rw [if_neg h1, if_neg (by rw [et]; omega)]; exact hf3) ⟨h1, by rw [et]; omega⟩
          · have c9_5 := Bd_5 hB
            have f9 := Bd_q hB q (by omega)
            have i9 : (if 9 < ((σ (166 + q)) + (nrN σ q r)) then 9 else ((σ (166 + q)) + (nrN σ q r))) ≤ 9 := by split <;> omega
            have h3 := mt (n_le (r_ne (rd0 hf1.1 (by omega)) (by omega)) (r_eq (rd1 hf1.1 (n_add rfl rfl) (by omega) (by omega)) rfl) (by omega) (by omega)).mpr h3
            refine Wn.run (tab := tb_m_hour) rfl 3 (c' := (7, [(1, .int ((nI q) + (nI 1))), (3, .int (nI r)), (2, .int (nI (nrN σ q r))), (0, .ref 114)], [], (mS M f1 g))) (o := []) rfl trivial ?_
            rw [show ((nI q) + (nI 1)) = (nI (q + 1)) from (n_add rfl rfl)]
            refine Wn.lvp [0, 3] (lv' := [(1, .int (nI (q + 1))), (0, .ref 114)]) rfl ?_
            have e9 : r = σ 2 := by omega
            subst e9
            have et : tmp9 σ q = (if 9 < σ (166 + q) + nrN σ q (σ 2) then 9 else σ (166 + q) + nrN σ q (σ 2)) := rfl
            rw [← et] at hf1
            exact k1 f1 (by unfold hst; rw [if_neg h1, if_pos (by rw [et]; omega)]; exact hf1) (fun h9 => h9.2 (by rw [et]; omega))
        · have c9_2 := Bd_2 hB
          have h2 := mt (n_le (rd0 hf.1 (by omega)) rfl (by omega) (by omega)).mpr h2
          refine Wn.run (tab := tb_m_hour) rfl 4 (c' := (if (nI r) = (nI q) then 87 else 48, [(3, .int (nI r)), (2, .int (nI (nrN σ q r))), (1, .int (nI q)), (0, .ref 114)], [.int (nI (nrN σ q r))], (mS M f g))) (o := []) rfl trivial ?_
          refine Wn.br (fun h4 => ?_) (fun h4 => ?_)
          · have h4 := (n_eq rfl rfl (by omega) (by omega)).mp h4
            refine Wn.run (tab := tb_m_hour) rfl 5 (c' := (32, [(3, .int ((nI r) + (nI 1))), (2, .int ((nI (nrN σ q r)) + (nI 0))), (1, .int (nI q)), (0, .ref 114)], [], (mS M f g))) (o := []) rfl trivial ?_
            rw [show ((nI (nrN σ q r)) + (nI 0)) = (nI ((nrN σ q r) + 0)) from (n_add rfl rfl)]
            rw [show ((nI r) + (nI 1)) = (nI (r + 1)) from (n_add rfl rfl)]
            have on9 : ¬ (¬ r = q ∧ ¬ fal σ r = true ∧ far (σ (160 + q)) (σ (160 + r)) < 2) := by intro h9; exact h9.1 h4
            rw [show (nI ((nrN σ q r) + 0)) = (nI (nrN σ q (r + 1))) from (by show _ = nI (nrN σ q r + (if _ then 1 else 0)); rw [if_neg on9])]
            exact ih (σ 2 - (r + 1)) (by omega) (r + 1) rfl (by omega)
          · have h4 := mt (n_eq rfl rfl (by omega) (by omega)).mpr h4
            refine Wn.run (tab := tb_m_hour) rfl 2 (c' := (50, [(3, .int (nI r)), (2, .int (nI (nrN σ q r))), (1, .int (nI q)), (0, .ref 114)], [.int (nI r), .ref 114, .int (nI (nrN σ q r))], (mS M f g))) (o := []) rfl trivial ?_
            refine Wn.callV (p := 114) (n := 2) (ix := 260) (ci := (10)) (fun r0 M0 => r0 = some (.int (b2 (fal σ r = true))) ∧ (mS M f g) = M0) [.int (nI r)] [.int (nI (nrN σ q r))] rfl rfl rfl rfl (Nat.le_of_ble_eq_true rfl) (Nat.le_of_ble_eq_true rfl) (w_m_hasFallen _ r (by omega) (mS M f g) σ hM9 _ ⟨rfl, rfl⟩) ?_
            rintro _ _ ⟨rfl, rfl⟩
            show Wn _ 96 _ (53, [(3, .int (nI r)), (2, .int (nI (nrN σ q r))), (1, .int (nI q)), (0, .ref 114)], [.int (b2 (fal σ r = true)), .int (nI (nrN σ q r))], (mS M f g))
            refine Wn.run (tab := tb_m_hour) rfl 1 (c' := (if ¬ (b2 (fal σ r = true)) = 0 then 87 else 56, [(3, .int (nI r)), (2, .int (nI (nrN σ q r))), (1, .int (nI q)), (0, .ref 114)], [.int (nI (nrN σ q r))], (mS M f g))) (o := []) rfl trivial ?_
            refine Wn.br (fun h5 => ?_) (fun h5 => ?_)
            · have h5 := b2_pos h5
              refine Wn.run (tab := tb_m_hour) rfl 5 (c' := (32, [(3, .int ((nI r) + (nI 1))), (2, .int ((nI (nrN σ q r)) + (nI 0))), (1, .int (nI q)), (0, .ref 114)], [], (mS M f g))) (o := []) rfl trivial ?_
              rw [show ((nI (nrN σ q r)) + (nI 0)) = (nI ((nrN σ q r) + 0)) from (n_add rfl rfl)]
              rw [show ((nI r) + (nI 1)) = (nI (r + 1)) from (n_add rfl rfl)]
              have on9 : ¬ (¬ r = q ∧ ¬ fal σ r = true ∧ far (σ (160 + q)) (σ (160 + r)) < 2) := by intro h9; exact h9.2.1 h5
              rw [show (nI ((nrN σ q r) + 0)) = (nI (nrN σ q (r + 1))) from (by show _ = nI (nrN σ q r + (if _ then 1 else 0)); rw [if_neg on9])]
              exact ih (σ 2 - (r + 1)) (by omega) (r + 1) rfl (by omega)
            · have h5 := b2_nneg h5
              refine Wn.run (tab := tb_m_hour) rfl 12 (c' := (76, [(3, .int (nI r)), (2, .int (nI (nrN σ q r))), (1, .int (nI q)), (0, .ref 114)], [.int ((mS M f g).1 116 (((nI 160) + (nI r))).toNatClampNeg), .int ((mS M f g).1 116 (((nI 160) + (nI q))).toNatClampNeg), .int (nI (nrN σ q r))], (mS M f g))) (o := [shp 114 = (0, 10), aok shp 116 0 ((nI 160) + (nI q)), shp 114 = (0, 10), aok shp 116 0 ((nI 160) + (nI r))]) rfl ⟨rfl, (ak1 (n := 359) rfl rfl (n_add rfl rfl) (by omega)), rfl, (ak1 (n := 359) rfl rfl (n_add rfl rfl) (by omega))⟩ ?_
              have f9 := Bd_q hB r (by omega)
              rw [show ((mS M f g).1 116 (((nI 160) + (nI r))).toNatClampNeg) = (nI (σ (160 + r))) from (rd1 hf.1 (n_add rfl rfl) (by omega) (by omega))]
              have f9 := Bd_q hB q (by omega)
              rw [show ((mS M f g).1 116 (((nI 160) + (nI q))).toNatClampNeg) = (nI (σ (160 + q))) from (rd1 hf.1 (n_add rfl rfl) (by omega) (by omega))]
              refine Wn.callS (n := 2) (ix := 275) (fun r0 M0 => r0 = some (.int (nI (far (σ (160 + q)) (σ (160 + r))))) ∧ (mS M f g) = M0) [.int (nI (σ (160 + q))), .int (nI (σ (160 + r)))] [.int (nI (nrN σ q r))] rfl rfl rfl (Nat.le_of_ble_eq_true rfl) (Nat.le_of_ble_eq_true rfl) (w_m_apart _ (σ (160 + q)) (σ (160 + r)) (by omega) (by omega) (mS M f g) _ ⟨rfl, rfl⟩) ?_
              rintro _ _ ⟨rfl, rfl⟩
              show Wn _ 96 _ (79, [(3, .int (nI r)), (2, .int (nI (nrN σ q r))), (1, .int (nI q)), (0, .ref 114)], [.int (nI (far (σ (160 + q)) (σ (160 + r)))), .int (nI (nrN σ q r))], (mS M f g))
              refine Wn.run (tab := tb_m_hour) rfl 2 (c' := (if (nI 2) ≤ (nI (far (σ (160 + q)) (σ (160 + r)))) then 87 else 83, [(3, .int (nI r)), (2, .int (nI (nrN σ q r))), (1, .int (nI q)), (0, .ref 114)], [.int (nI (nrN σ q r))], (mS M f g))) (o := []) rfl trivial ?_
              refine Wn.br (fun h6 => ?_) (fun h6 => ?_)
              · have f9 := Bd_q hB r (by omega)
                have f9 := Bd_q hB q (by omega)
                have r9 := far_lt (σ (160 + q)) (σ (160 + r)) (by omega) (by omega)
                have h6 := (n_le rfl rfl (by omega) (by omega)).mp h6
                refine Wn.run (tab := tb_m_hour) rfl 5 (c' := (32, [(3, .int ((nI r) + (nI 1))), (2, .int ((nI (nrN σ q r)) + (nI 0))), (1, .int (nI q)), (0, .ref 114)], [], (mS M f g))) (o := []) rfl trivial ?_
                rw [show ((nI (nrN σ q r)) + (nI 0)) = (nI ((nrN σ q r) + 0)) from (n_add rfl rfl)]
                rw [show ((nI r) + (nI 1)) = (nI (r + 1)) from (n_add rfl rfl)]
                have on9 : ¬ (¬ r = q ∧ ¬ fal σ r = true ∧ far (σ (160 + q)) (σ (160 + r)) < 2) := by intro h9; have h8 := h9.2.2; omega
                rw [show (nI ((nrN σ q r) + 0)) = (nI (nrN σ q (r + 1))) from (by show _ = nI (nrN σ q r + (if _ then 1 else 0)); rw [if_neg on9])]
                exact ih (σ 2 - (r + 1)) (by omega) (r + 1) rfl (by omega)
              · have f9 := Bd_q hB r (by omega)
                have f9 := Bd_q hB q (by omega)
                have r9 := far_lt (σ (160 + q)) (σ (160 + r)) (by omega) (by omega)
                have h6 := mt (n_le rfl rfl (by omega) (by omega)).mpr h6
                refine Wn.run (tab := tb_m_hour) rfl 6 (c' := (32, [(3, .int ((nI r) + (nI 1))), (2, .int ((nI (nrN σ q r)) + (nI 1))), (1, .int (nI q)), (0, .ref 114)], [], (mS M f g))) (o := []) rfl trivial ?_
                rw [show ((nI (nrN σ q r)) + (nI 1)) = (nI ((nrN σ q r) + 1)) from (n_add rfl rfl)]
                rw [show ((nI r) + (nI 1)) = (nI (r + 1)) from (n_add rfl rfl)]
                have on9 : ¬ r = q ∧ ¬ fal σ r = true ∧ far (σ (160 + q)) (σ (160 + r)) < 2 := ⟨h4, h5, by omega⟩
                rw [show (nI ((nrN σ q r) + 1)) = (nI (nrN σ q (r + 1))) from (by show _ = nI (nrN σ q r + (if _ then 1 else 0)); rw [if_pos on9])]
                exact ih (σ 2 - (r + 1)) (by omega) (r + 1) rfl (by omega)
    exact loop (σ 2 - 0) 0 rfl (by omega)
  · have h1 := b2_pos h1
    refine Wn.run (tab := tb_m_hour) rfl 3 (c' := (7, [(1, .int ((nI q) + (nI 1))), (0, .ref 114)], [], (mS M f g))) (o := []) rfl trivial ?_
    rw [show ((nI q) + (nI 1)) = (nI (q + 1)) from (n_add rfl rfl)]
    exact k1 f (by unfold hst; rw [if_pos h1]; exact hf) (fun h9 => h9.1 h1)
theorem su_at {σ : Nat → Nat} {i v k : Nat} (h : ¬ k = i) : su σ i v k = σ k := if_neg h
theorem frz_lo {σ : Nat → Nat} {k : Nat} (h : k < 96 ∨ 160 ≤ k) : ∀ n, n ≤ 64 → frzN σ n k = σ k
  | 0, _ => rfl
  | n + 1, hn => by
    have ih := frz_lo (σ := σ) h n (by omega)
    unfold frzN
    split
    · rw [su_ne (by omega)]; exact ih
    · exact ih
theorem Bd_frz {σ : Nat → Nat} (h : Bd σ) : ∀ n, n ≤ 64 → Bd (frzN σ n)
  | 0, _ => h
  | n + 1, hn => by
    have ih := Bd_frz h n (by omega)
    unfold frzN
    split
    · exact Bd_su ih (by omega) (by omega) (by omega) (fun _ _ => by split <;> omega) (by omega) (by omega) (by omega)
    · exact ih
theorem prz_lo {σ : Nat → Nat} {k : Nat} (h : k < 172) : ∀ n, przN σ n k = σ k
  | 0 => rfl
  | n + 1 => by
    have ih := prz_lo (σ := σ) h n
    unfold przN
    rw [su_ne (by omega)]
    exact ih
theorem Bd_prz {σ : Nat → Nat} (h : Bd σ) : ∀ n, n ≤ 6 → Bd (przN σ n)
  | 0, _ => h
  | n + 1, hn => Bd_su (Bd_prz h n (by omega)) (by omega) (by omega) (by omega) (by omega) (by omega) (by omega) (by omega)
theorem Bd_sink {σ : Nat → Nat} (h : Bd σ) : Bd (sink σ) := by
  have h1 := Bd_91 h
  have h2 : snkN σ (σ 2) < 64 := Nat.lt_of_lt_of_le (snkN_lt σ (σ 2)) (Nat.pow_le_pow_right (by decide) (Bd_2 h))
  have h3 := lor_lt _ h1 _ h2
  exact Bd_su h (by omega) (by omega) (fun _ => h3) (by omega) (by omega) (by omega) (by omega)
theorem Bd_curse {σ : Nat → Nat} (h : Bd σ) (q : Nat) (hq : q < 6) : Bd (curse σ q) :=
  Bd_sink (Bd_su (Bd_su (Bd_crs h q 64 (Nat.le_refl _)) (by omega) (by omega) (by omega) (by omega) (by omega) (by omega) (by omega)) (by omega) (by omega) (by omega) (by omega) (by omega) (by omega) (by omega))
theorem tmp9_le (σ : Nat → Nat) (q : Nat) : tmp9 σ q ≤ 9 := by
  unfold tmp9
  split <;> omega
theorem Bd_hst {σ : Nat → Nat} (h : Bd σ) (q : Nat) (hq : q < 6) : Bd (hst σ q) := by
  have ht := tmp9_le σ q
  have h1 : Bd (su σ (166 + q) (tmp9 σ q)) := Bd_su h (by omega) (by omega) (by omega) (by omega) (by omega) (by omega) (by omega)
  unfold hst
  split
  · exact h
  · split
    · exact h1
    · exact Bd_curse h1 q hq
theorem sink_lo {σ : Nat → Nat} {k : Nat} (h : ¬ k = 91) : sink σ k = σ k := su_ne h
theorem curse_lo {σ : Nat → Nat} {q k : Nat} (hq : q < 6) (h : k < 90 ∨ (160 ≤ k ∧ k < 166)) : curse σ q k = σ k := by
  unfold curse
  rw [sink_lo (by omega), su_ne (by omega), su_ne (by omega), crs_lo (by omega)]
theorem hst_lo {σ : Nat → Nat} {q k : Nat} (hq : q < 6) (h : k < 90 ∨ (160 ≤ k ∧ k < 166)) : hst σ q k = σ k := by
  unfold hst
  split
  · rfl
  · split
    · rw [su_ne (by omega)]
    · rw [curse_lo hq h, su_ne (by omega)]
theorem hrN_lo {σ : Nat → Nat} {k : Nat} (h : k < 90 ∨ (160 ≤ k ∧ k < 166)) : ∀ n, n ≤ 6 → hrN σ n k = σ k
  | 0, _ => rfl
  | n + 1, hn => by
    unfold hrN
    rw [hst_lo (by omega) h]
    exact hrN_lo h n (by omega)
theorem Bd_hrN {σ : Nat → Nat} (h : Bd σ) : ∀ n, n ≤ 6 → Bd (hrN σ n)
  | 0, _ => h
  | n + 1, hn => Bd_hst (Bd_hrN h n (by omega)) n (by omega)
theorem curse_90 {σ : Nat → Nat} {q : Nat} (hq : q < 6) : curse σ q 90 = σ 90 := by
  unfold curse
  rw [sink_lo (by omega), su_ne (by omega), su_ne (by omega), crs_lo (by omega)]
theorem hst_90 {σ : Nat → Nat} {q : Nat} (hq : q < 6) : hst σ q 90 = σ 90 := by
  unfold hst
  split
  · rfl
  · split
    · rw [su_ne (by omega)]
    · rw [curse_90 hq, su_ne (by omega)]
theorem hrN_90 {σ : Nat → Nat} : ∀ n, n ≤ 6 → hrN σ n 90 = σ 90
  | 0, _ => rfl
  | n + 1, hn => by
    unfold hrN
    rw [hst_90 (by omega)]
    exact hrN_90 n (by omega)
theorem upd_upd {α : Type} (g : Nat → α) (k : Nat) (a b : α) : va_up (va_up g k a) k b = va_up g k b := bx_uu g k a b
theorem upd_u2 (g : Nat → Int32) (k : Nat) (a b : Int32) : upd (upd g k a) k b = upd g k b := by
  funext j
  unfold upd
  by_cases h : j = k
  · rw [if_pos h, if_pos h]
  · rw [if_neg h, if_neg h, if_neg h]
set_option maxRecDepth 20000 in
theorem hour_frz (d : Nat) (σ : Nat → Nat) (M : Mm) (g f0 : Nat → Int32) (hB0 : Bd σ) (Q : Po) (hQ : ∀ f9 : Nat → Int32, Rs f0 f9 (frzN σ 64) → Q none (mS M f9 g)) : ∀ (m n : Nat) (f : Nat → Int32), 64 - n = m → n ≤ 64 → Rs f0 f (frzN σ n) → Wn (d + 6) 96 Q (233, [(1, .int (nI n)), (0, .ref 114)], [], mS M f g) := by
  intro m
  induction m using Nat.strongRecOn with
  | _ m ih =>
    intro n f hm hn hf
    have hB := Bd_frz hB0 n hn
    have hM9 : Ms (mS M f g) (frzN σ n) := ⟨hf.1, hB⟩
    have e0 : frzN σ n 0 = σ 0 := frz_lo (by omega) n hn
    have e1 : frzN σ n 1 = σ 1 := frz_lo (by omega) n hn
    refine Wn.run (tab := tb_m_hour) rfl 3 (c' := (if (nI 64) ≤ (nI n) then 285 else 239, [(1, .int (nI n)), (0, .ref 114)], [], (mS M f g))) (o := []) rfl trivial ?_
    refine Wn.br (fun h1 => ?_) (fun h1 => ?_)
    · have h1 := (n_le rfl rfl (by omega) (by omega)).mp h1
      have e9 : n = 64 := by omega
      rw [e9] at hf
      exact Wn.vret rfl (hQ f hf)
    · have h1 := mt (n_le rfl rfl (by omega) (by omega)).mpr h1
      refine Wn.run (tab := tb_m_hour) rfl 7 (c' := (248, [(1, .int (nI n)), (0, .ref 114)], [.int ((nI n) / (nI 8)), .int ((nI n) - (nI n) / (nI 8) * (nI 8)), .ref 114], (mS M f g))) (o := [¬ (nI 8) = 0, ¬ (nI 8) = 0]) rfl ⟨(show ¬ (nI 8) = 0 by decide), (show ¬ (nI 8) = 0 by decide)⟩ ?_
      rw [show ((nI n) - (nI n) / (nI 8) * (nI 8)) = (nI (n % 8)) from (n_rem rfl rfl (by omega) (by omega) (by omega))]
      rw [show ((nI n) / (nI 8)) = (nI (n / 8)) from (n_div rfl rfl (by omega) (by omega) (by omega))]
      refine Wn.callV (p := 114) (n := 3) (ix := 266) (ci := (10)) (fun r0 M0 => r0 = some (.int (b2 (0 ≤ (nI (n % 8)).toInt ∧ (nI (n % 8)).toInt < ((frzN σ n) 0 : Int) ∧ 0 ≤ (nI (n / 8)).toInt ∧ (nI (n / 8)).toInt < ((frzN σ n) 1 : Int)))) ∧ (mS M f g) = M0) [.int (nI (n % 8)), .int (nI (n / 8))] [] rfl rfl rfl rfl (Nat.le_of_ble_eq_true rfl) (Nat.le_of_ble_eq_true rfl) (w_m_isCell _ (nI (n % 8)) (nI (n / 8)) (mS M f g) (frzN σ n) hM9 _ ⟨rfl, rfl⟩) ?_
      rintro _ _ ⟨rfl, rfl⟩
      show Wn _ 96 _ (251, [(1, .int (nI n)), (0, .ref 114)], [.int (b2 (0 ≤ (nI (n % 8)).toInt ∧ (nI (n % 8)).toInt < ((frzN σ n) 0 : Int) ∧ 0 ≤ (nI (n / 8)).toInt ∧ (nI (n / 8)).toInt < ((frzN σ n) 1 : Int)))], (mS M f g))
      refine Wn.run (tab := tb_m_hour) rfl 1 (c' := (if (b2 (0 ≤ (nI (n % 8)).toInt ∧ (nI (n % 8)).toInt < ((frzN σ n) 0 : Int) ∧ 0 ≤ (nI (n / 8)).toInt ∧ (nI (n / 8)).toInt < ((frzN σ n) 1 : Int))) = 0 then 279 else 254, [(1, .int (nI n)), (0, .ref 114)], [], (mS M f g))) (o := []) rfl trivial ?_
      refine Wn.br (fun h2 => ?_) (fun h2 => ?_)
      · have h2 := b2_neg h2
        refine Wn.run (tab := tb_m_hour) rfl 2 (c' := (233, [(1, .int ((nI n) + (nI 1))), (0, .ref 114)], [], (mS M f g))) (o := []) rfl trivial ?_
        rw [show ((nI n) + (nI 1)) = (nI (n + 1)) from (n_add rfl rfl)]
        rw [nI_toInt (by omega), nI_toInt (by omega), e0, e1] at h2
        have e9 : frzN σ (n + 1) = (frzN σ n) := if_neg (by omega)
        exact ih (64 - (n + 1)) (by omega) (n + 1) f rfl (by omega) (by rw [e9]; exact hf)
      · have h2 := b2_pos h2
        refine Wn.run (tab := tb_m_hour) rfl 14 (c' := (275, [(1, .int (nI n)), (0, .ref 114)], [.int (((mS M f g).1 116 (((nI 96) + (nI n))).toNatClampNeg) + (nI 1)), .int (nI 9), .int ((nI 96) + (nI n)), .ref 116], (mS M f g))) (o := [shp 114 = (0, 10), shp 114 = (0, 10), aok shp 116 0 ((nI 96) + (nI n))]) rfl ⟨rfl, rfl, (ak1 (n := 359) rfl rfl (n_add rfl rfl) (by omega))⟩ ?_
        have g9 := Bd_c hB n (by omega)
        rw [show (((mS M f g).1 116 (((nI 96) + (nI n))).toNatClampNeg) + (nI 1)) = (nI (((frzN σ n) (96 + n)) + 1)) from (n_add (rd1 hf.1 (n_add rfl rfl) (by omega) (by omega)) rfl)]
        rw [show ((nI 96) + (nI n)) = (nI (96 + n)) from (n_add rfl rfl)]
        refine Wn.callS (n := 2) (ix := 306) (fun r0 M0 => r0 = some (.int (nI (if 9 < (((frzN σ n) (96 + n)) + 1) then 9 else (((frzN σ n) (96 + n)) + 1)))) ∧ (mS M f g) = M0) [.int (nI 9), .int (nI (((frzN σ n) (96 + n)) + 1))] [.int (nI (96 + n)), .ref 116] rfl rfl rfl (Nat.le_of_ble_eq_true rfl) (Nat.le_of_ble_eq_true rfl) (w_m_minN _ 9 (((frzN σ n) (96 + n)) + 1) (by omega) (by omega) (mS M f g) _ ⟨rfl, rfl⟩) ?_
        rintro _ _ ⟨rfl, rfl⟩
        show Wn _ 96 _ (278, [(1, .int (nI n)), (0, .ref 114)], [.int (nI (if 9 < (((frzN σ n) (96 + n)) + 1) then 9 else (((frzN σ n) (96 + n)) + 1))), .int (nI (96 + n)), .ref 116], (mS M f g))
        refine Wn.run (tab := tb_m_hour) rfl 1 (c' := (279, [(1, .int (nI n)), (0, .ref 114)], [], (mI (mS M f g) 116 (upd ((mS M f g).1 116) ((nI (96 + n))).toNatClampNeg (nI (if 9 < (((frzN σ n) (96 + n)) + 1) then 9 else (((frzN σ n) (96 + n)) + 1))))))) (o := [aok shp 116 0 (nI (96 + n))]) rfl (ak1 (n := 359) rfl rfl rfl (by omega)) ?_
        have g9 := Bd_c hB n (by omega)
        have i9 : (if 9 < (((frzN σ n) (96 + n)) + 1) then 9 else (((frzN σ n) (96 + n)) + 1)) ≤ 9 := by split <;> omega
        have hf1 := Rs_up (ix := ((nI (96 + n))).toNatClampNeg) (x := (nI (if 9 < (((frzN σ n) (96 + n)) + 1) then 9 else (((frzN σ n) (96 + n)) + 1)))) hf (cl1 rfl (by omega)) (by omega) rfl
        rw [mS_s]
        generalize hg1 : upd ((mS M f g).1 116) ((nI (96 + n))).toNatClampNeg (nI (if 9 < (((frzN σ n) (96 + n)) + 1) then 9 else (((frzN σ n) (96 + n)) + 1))) = f1
        replace hf1 : Rs f0 f1 (su (frzN σ n) (96 + n) (if 9 < (((frzN σ n) (96 + n)) + 1) then 9 else (((frzN σ n) (96 + n)) + 1))) := by rw [← hg1]; exact hf1
        clear hg1
        show Wn _ 96 _ (279, [(1, .int (nI n)), (0, .ref 114)], [], (mS M f1 g))
        refine Wn.run (tab := tb_m_hour) rfl 2 (c' := (233, [(1, .int ((nI n) + (nI 1))), (0, .ref 114)], [], (mS M f1 g))) (o := []) rfl trivial ?_
        rw [show ((nI n) + (nI 1)) = (nI (n + 1)) from (n_add rfl rfl)]
        rw [nI_toInt (by omega), nI_toInt (by omega), e0, e1] at h2
        have e9 : frzN σ (n + 1) = (su (frzN σ n) (96 + n) (if 9 < (((frzN σ n) (96 + n)) + 1) then 9 else (((frzN σ n) (96 + n)) + 1))) := if_pos (by omega)
        exact ih (64 - (n + 1)) (by omega) (n + 1) f1 rfl (by omega) (by rw [e9]; exact hf1)
set_option maxRecDepth 20000 in
theorem hour_end (d : Nat) (σ : Nat → Nat) (M : Mm) (f g f0 : Nat → Int32) (hf : Rs f0 f σ) (hB : Bd σ) (Q : Po) (x : Int32) (hQ : ∀ f9 : Nat → Int32, Rs f0 f9 (hend σ) → Q none (mS M f9 g)) : Wn (d + 6) 96 Q (212, [(1, .int x), (0, .ref 114)], [], mS M f g) := by
  have k7 := Bd_7 hB
  have k90 := Bd_90 hB
  have hm7 := Nat.mod_lt (σ 90) (show 0 < σ 7 by omega)
  refine Wn.run (tab := tb_m_hour) rfl 10 (c' := (if (((mS M f g).1 116 90) - ((mS M f g).1 116 90) / ((mS M f g).1 116 7) * ((mS M f g).1 116 7)) ≤ 0 then 231 else 230, [(1, .int x), (0, .ref 114)], [], (mS M f g))) (o := [shp 114 = (0, 10), aok shp 116 0 (nI 90), shp 114 = (0, 10), aok shp 116 0 (nI 7), ¬ ((mS M f g).1 116 7) = 0]) rfl ⟨rfl, ⟨rfl, vp_in_nI (by decide) (by decide)⟩, rfl, ⟨rfl, vp_in_nI (by decide) (by decide)⟩, (n_ne0 (rd0 hf.1 (by omega)) (by omega) (by omega))⟩ ?_
  refine Wn.br (fun h1 => ?_) (fun h1 => ?_)
  · have c9_7 := Bd_7 hB
    have c9_90 := Bd_90 hB
    have h1 := (n_le (n_rem (rd0 hf.1 (by omega)) (rd0 hf.1 (by omega)) (by omega) (by omega) (by omega)) nI_0.symm (by omega) (by omega)).mp h1
    refine Wn.run (tab := tb_m_hour) rfl 2 (c' := (233, [(1, .int (nI 0)), (0, .ref 114)], [], (mS M f g))) (o := []) rfl trivial ?_
    have e9 : hend σ = frzN σ 64 := if_neg (by omega)
    rw [e9] at hQ
    exact hour_frz d σ M g f0 hB Q hQ 64 0 f rfl (by omega) hf
  · have c9_7 := Bd_7 hB
    have c9_90 := Bd_90 hB
    have h1 := mt (n_le (n_rem (rd0 hf.1 (by omega)) (rd0 hf.1 (by omega)) (by omega) (by omega) (by omega)) nI_0.symm (by omega) (by omega)).mpr h1
    have e9 : hend σ = σ := if_pos (by omega)
    rw [e9] at hQ
    exact Wn.vret rfl (hQ f hf)
set_option maxRecDepth 20000 in
theorem hour_prz (d : Nat) (σ : Nat → Nat) (M : Mm) (g f0 : Nat → Int32) (hB0 : Bd σ) (Q : Po) (hQ : ∀ f9 : Nat → Int32, Rs f0 f9 (hend (przN σ 6)) → Q none (mS M f9 g)) : ∀ (m n : Nat) (f : Nat → Int32), 6 - n = m → n ≤ 6 → Rs f0 f (przN σ n) → Wn (d + 6) 96 Q (189, [(1, .int (nI n)), (0, .ref 114)], [], mS M f g) := by
  intro m
  induction m using Nat.strongRecOn with
  | _ m ih =>
    intro n f hm hn hf
    have hB := Bd_prz hB0 n hn
    refine Wn.run (tab := tb_m_hour) rfl 3 (c' := (if (nI 6) ≤ (nI n) then 212 else 195, [(1, .int (nI n)), (0, .ref 114)], [], (mS M f g))) (o := []) rfl trivial ?_
    refine Wn.br (fun h1 => ?_) (fun h1 => ?_)
    · have h1 := (n_le rfl rfl (by omega) (by omega)).mp h1
      have e9 : n = 6 := by omega
      rw [e9] at hf hB
      exact hour_end d _ M f g f0 hf hB Q _ hQ
    · have h1 := mt (n_le rfl rfl (by omega) (by omega)).mpr h1
      refine Wn.run (tab := tb_m_hour) rfl 7 (c' := (206, [(1, .int (nI n)), (0, .ref 114)], [], (mI (mS M f g) 116 (upd ((mS M f g).1 116) (((nI 172) + (nI n))).toNatClampNeg (nI 0))))) (o := [shp 114 = (0, 10), aok shp 116 0 ((nI 172) + (nI n))]) rfl ⟨rfl, (ak1 (n := 359) rfl rfl (n_add rfl rfl) (by omega))⟩ ?_
      have hf1 := Rs_up (ix := (((nI 172) + (nI n))).toNatClampNeg) (x := (nI 0)) hf (cl1 (n_add rfl rfl) (by omega)) (by omega) rfl
      rw [mS_s]
      generalize hg1 : upd ((mS M f g).1 116) (((nI 172) + (nI n))).toNatClampNeg (nI 0) = f1
      replace hf1 : Rs f0 f1 (su (przN σ n) (172 + n) 0) := by rw [← hg1]; exact hf1
      clear hg1
      show Wn _ 96 _ (206, [(1, .int (nI n)), (0, .ref 114)], [], (mS M f1 g))
      refine Wn.run (tab := tb_m_hour) rfl 2 (c' := (189, [(1, .int ((nI n) + (nI 1))), (0, .ref 114)], [], (mS M f1 g))) (o := []) rfl trivial ?_
      rw [show ((nI n) + (nI 1)) = (nI (n + 1)) from (n_add rfl rfl)]
      exact ih (6 - (n + 1)) (by omega) (n + 1) f1 rfl (by omega) hf1
set_option maxRecDepth 20000 in
theorem hour_tail (d : Nat) (σ : Nat → Nat) (h400 : σ 90 < 400) (M : Mm) (f g f0 : Nat → Int32) (hf : Rs f0 f σ) (hB : Bd σ) (Q : Po) (x : Int32) (hQ : ∀ f9 : Nat → Int32, Rs f0 f9 (htl σ) → Q none (mS M f9 g)) : Wn (d + 6) 96 Q (168, [(1, .int x), (0, .ref 114)], [], mS M f g) := by
  refine Wn.run (tab := tb_m_hour) rfl 8 (c' := (179, [(1, .int x), (0, .ref 114)], [], (mI (mS M f g) 116 (upd ((mS M f g).1 116) 90 (((mS M f g).1 116 90) + (nI 1)))))) (o := [shp 114 = (0, 10), aok shp 116 0 (nI 90), aok shp 116 0 (nI 90)]) rfl ⟨rfl, ⟨rfl, vp_in_nI (by decide) (by decide)⟩, ⟨rfl, vp_in_nI (by decide) (by decide)⟩⟩ ?_
  have c9_90 := Bd_90 hB
  have hf1 := Rs_up (ix := 90) (x := (((mS M f g).1 116 90) + (nI 1))) hf rfl (by omega) (n_add (rd0 hf.1 (by omega)) rfl)
  rw [mS_s]
  generalize hg1 : upd ((mS M f g).1 116) 90 (((mS M f g).1 116 90) + (nI 1)) = f1
  replace hf1 : Rs f0 f1 (su σ 90 ((σ 90) + 1)) := by rw [← hg1]; exact hf1
  clear hg1
  show Wn _ 96 _ (179, [(1, .int x), (0, .ref 114)], [], (mS M f1 g))
  refine Wn.run (tab := tb_m_hour) rfl 5 (c' := (187, [(1, .int x), (0, .ref 114)], [], (mI (mS M f1 g) 116 (upd ((mS M f1 g).1 116) 92 (nI 0))))) (o := [shp 114 = (0, 10), aok shp 116 0 (nI 92)]) rfl ⟨rfl, ⟨rfl, vp_in_nI (by decide) (by decide)⟩⟩ ?_
  have hf2 := Rs_up (ix := 92) (x := (nI 0)) hf1 rfl (by omega) rfl
  rw [mS_s]
  generalize hg2 : upd ((mS M f1 g).1 116) 92 (nI 0) = f2
  replace hf2 : Rs f0 f2 (su (su σ 90 ((σ 90) + 1)) 92 0) := by rw [← hg2]; exact hf2
  clear hg2
  show Wn _ 96 _ (187, [(1, .int x), (0, .ref 114)], [], (mS M f2 g))
  refine Wn.run (tab := tb_m_hour) rfl 2 (c' := (189, [(1, .int (nI 0)), (0, .ref 114)], [], (mS M f2 g))) (o := []) rfl trivial ?_
  have hB9_0 : Bd (su σ (90) ((σ 90) + 1)) := Bd_su hB (by omega) (by omega) (by omega) (by omega) (by omega) (by omega) (by omega)
  have hB9_1 : Bd (su (su σ (90) ((σ 90) + 1)) (92) (0)) := Bd_su hB9_0 (by omega) (by omega) (by omega) (by omega) (by omega) (by omega) (by omega)
  exact hour_prz d _ M g f0 hB9_1 Q hQ 6 0 f2 rfl (by omega) hf2
set_option maxRecDepth 20000 in
theorem hour_loop (d : Nat) (σ : Nat → Nat) (h400 : σ 90 < 400) (M : Mm) (g f0 : Nat → Int32) (hB0 : Bd σ) (Q : Po) (hQ : ∀ f9 : Nat → Int32, Rs f0 f9 (hour σ) → Q none (mS M f9 (upd g 22 (nI (swN σ (σ 2)))))) : ∀ (m q : Nat) (f : Nat → Int32), σ 2 - q = m → q ≤ σ 2 → Rs f0 f (hrN σ q) → Wn (d + 6) 96 Q (7, [(1, .int (nI q)), (0, .ref 114)], [], mS M f (upd g 22 (nI (swN σ q)))) := by
  intro m
  induction m using Nat.strongRecOn with
  | _ m ih =>
    intro q f hm hq hf
    have c9_2 := Bd_2 hB0
    have hB := Bd_hrN hB0 q (by omega)
    have e2 : hrN σ q 2 = σ 2 := hrN_lo (by omega) q (by omega)
    refine Wn.run (tab := tb_m_hour) rfl 6 (c' := (if ((mS M f (upd g 22 (nI (swN σ q)))).1 116 2) ≤ (nI q) then 168 else 17, [(1, .int (nI q)), (0, .ref 114)], [], (mS M f (upd g 22 (nI (swN σ q)))))) (o := [shp 114 = (0, 10), aok shp 116 0 (nI 2)]) rfl ⟨rfl, ⟨rfl, vp_in_nI (by decide) (by decide)⟩⟩ ?_
    refine Wn.br (fun h1 => ?_) (fun h1 => ?_)
    · have c9_2 := Bd_2 hB
      have h1 := (n_le (rd0 hf.1 (by omega)) rfl (by omega) (by omega)).mp h1
      rw [e2] at h1
      have e9 : q = σ 2 := by omega
      rw [e9] at hf hB ⊢
      exact hour_tail d _ (by rw [hrN_90 _ (Bd_2 hB0)]; exact h400) M f _ f0 hf hB Q _ hQ
    · have c9_2 := Bd_2 hB
      have h1 := mt (n_le (rd0 hf.1 (by omega)) rfl (by omega) (by omega)).mpr h1
      rw [e2] at h1
      have hlt := swN_lt σ q
      refine hour_body d (hrN σ q) q (by omega) M f _ f0 hf hB Q (fun f9 h9 hn9 => ?_) (fun f9 h9 hs9 => ?_)
      · have es : swN σ (q + 1) = swN σ q := by show swN σ q + (if _ then 2 ^ q else 0) = _; unfold hsw at hn9; rw [if_neg hn9]; rfl
        rw [← es]
        exact ih (σ 2 - (q + 1)) (by omega) (q + 1) f9 rfl (by omega) h9
      · have es : swN σ (q + 1) = swN σ q + 2 ^ q := by show swN σ q + (if _ then 2 ^ q else 0) = _; unfold hsw at hs9; rw [if_pos hs9]
        rw [upd_u2, show upd g 22 (nI (swN σ q)) 22 = nI (swN σ q) from rfl, or_ok2 q (by omega) _ hlt, ← es]
        exact ih (σ 2 - (q + 1)) (by omega) (q + 1) f9 rfl (by omega) h9
set_option maxRecDepth 20000 in
theorem w_m_hour (d : Nat) (σ : Nat → Nat) (h400 : σ 90 < 400) (M : Mm) (f g f0 : Nat → Int32) (hf : Rs f0 f σ) (hB : Bd σ) (Q : Po) (hQ : ∀ f9 : Nat → Int32, Rs f0 f9 (hour σ) → Q none (mS M f9 (upd g 22 (nI (swN σ (σ 2)))))) : Wn (d + 6) 96 Q (0, lv_args 0 [.ref 114], [], mS M f g) := by
  refine Wn.run (tab := tb_m_hour) rfl 3 (c' := (5, [(0, .ref 114)], [], (mI (mS M f g) 114 (upd ((mS M f g).1 114) 22 (nI 0))))) (o := [shp 114 = (0, 10)]) rfl rfl ?_
  rw [mS_g]
  show Wn _ 96 _ (5, [(0, .ref 114)], [], (mS M f (upd g 22 (nI 0))))
  refine Wn.run (tab := tb_m_hour) rfl 2 (c' := (7, [(1, .int (nI 0)), (0, .ref 114)], [], (mS M f (upd g 22 (nI 0))))) (o := []) rfl trivial ?_
  exact hour_loop d σ h400 M g f0 hB Q hQ (σ 2 - 0) 0 f rfl (by omega) hf
