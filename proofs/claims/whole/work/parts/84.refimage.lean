/-! Images of the reference. -/
def cpB {α : Type} (P Q : Nat → α) (b z : Nat) : Nat → α := fun j => if b ≤ j ∧ j < b + z then Q (j - b) else P j
theorem cpB_0 {α : Type} (P Q : Nat → α) (b : Nat) : cpB P Q b 0 = P := by funext i; exact if_neg (by omega)
theorem cpB_e {α : Type} (P Q : Nat → α) (b z k : Nat) (v : α) (hv : v = Q z) : (if k = b + z then v else cpB P Q b z k) = cpB P Q b (z + 1) k := by
  unfold cpB
  by_cases e : k = b + z
  · rw [if_pos e, if_pos (by omega), hv, e, show b + z - b = z by omega]
  · rw [if_neg e]
    by_cases h2 : b ≤ k ∧ k < b + z
    · rw [if_pos h2, if_pos (show b ≤ k ∧ k < b + (z + 1) by omega)]
    · rw [if_neg h2, if_neg (show ¬ (b ≤ k ∧ k < b + (z + 1)) by omega)]
theorem cpBI_s (P Q : Nat → Int32) (b z : Nat) : upd (cpB P Q b z) (b + z) (Q z) = cpB P Q b (z + 1) := by
  funext k
  rw [← cpB_e P Q b z k (Q z) rfl]
  by_cases e : k = b + z
  · rw [if_pos e, e, pk_us]
  · rw [if_neg e, pk_un e]
theorem cpBJ_s (P Q : Nat → Int64) (b z : Nat) : vp_updL (cpB P Q b z) (b + z) (Q z) = cpB P Q b (z + 1) := by
  funext k
  rw [← cpB_e P Q b z k (Q z) rfl]
  by_cases e : k = b + z
  · rw [if_pos e, e, pk_uLs]
  · rw [if_neg e, pk_uLn e]
theorem cpJ_sg (P Q : Nat → Int64) (z : Nat) : vp_updL (cpG P Q z) z (Q z) = cpG P Q (z + 1) := by
  funext k
  by_cases e : k = z
  · rw [e, pk_uLs]; exact (if_pos (by omega)).symm
  · rw [pk_uLn e]; unfold cpG
    by_cases h2 : k < z
    · rw [if_pos h2, if_pos (show k < z + 1 by omega)]
    · rw [if_neg h2, if_neg (show ¬ k < z + 1 by omega)]
def PMi (M0 : Mm) (c : Nat) (g : Nat → Int32) : Po := fun r0 M' => r0 = some (.int (nI 1)) ∧ M'.1 114 = upd g 0 (nI 0) ∧ M'.1 131 = cpB (M0.1 131) (M0.1 116) (359 * c) 359 ∧ M'.2.1 132 = cpB (M0.2.1 132) (M0.2.1 119) (6 * c) 6 ∧ M'.1 133 = upd (M0.1 133) c (nI 1) ∧ Fr [114, 131, 132, 133] M0 M'
def PMs (M0 : Mm) (c : Nat) (g : Nat → Int32) : Po := fun r0 M' => r0 = some (.int (nI 1)) ∧ M'.1 114 = upd (upd g 0 (nI 0)) 25 (nI 0) ∧ M'.1 116 = cpG (M0.1 116) (fun i => M0.1 131 (359 * c + i)) 359 ∧ M'.2.1 119 = cpG (M0.2.1 119) (fun i => M0.2.1 132 (6 * c + i)) 6 ∧ Fr [114, 116, 119] M0 M'
def PMn (M0 : Mm) (g : Nat → Int32) : Po := fun r0 M' => r0 = some (.int (nI 0)) ∧ M'.1 114 = upd g 0 (nI 0) ∧ M'.2 = M0.2 ∧ Fr [114] M0 M'
set_option maxRecDepth 20000 in
theorem c_m_image_0 (d : Nat) (M : Mm) (g : Nat → Int32) (hg : M.1 114 = g) : Wn (d + 1) 148 (PMi M 0 g) (0, lv_args 0 [.ref 114, .int (nI 0)], [], M) := by
  have hF := fr_rf [114, 131, 132, 133] M
  obtain ⟨P, h131⟩ : ∃ g, M.1 131 = g := ⟨_, rfl⟩
  obtain ⟨F, h116⟩ : ∃ g, M.1 116 = g := ⟨_, rfl⟩
  obtain ⟨PJ, h132⟩ : ∃ g, M.2.1 132 = g := ⟨_, rfl⟩
  obtain ⟨J, h119⟩ : ∃ g, M.2.1 119 = g := ⟨_, rfl⟩
  obtain ⟨K, h133⟩ : ∃ g, M.1 133 = g := ⟨_, rfl⟩
  refine Wn.run (tab := tb_m_image) rfl 3 (c' := (5, [(0, .ref 114), (1, .int (nI 0))], [], (mI M 114 (upd (M.1 114) 0 (nI 0))))) (o := [shp 114 = (0, 10)]) rfl rfl ?_
  generalize hM2 : (mI M 114 (upd (M.1 114) 0 (nI 0))) = M1
  have hk3 := fI_up hM2 hg
  have hk4 := fI_ne hM2 (by decide) h131
  have hk5 := fI_ne hM2 (by decide) h116
  have hk6 := fJ_oI hM2 h132
  have hk7 := fJ_oI hM2 h119
  have hk8 := fI_ne hM2 (by decide) h133
  have hF9 := fr_sI hF hM2 (by decide)
  show Wn _ 148 _ (5, [(0, .ref 114), (1, .int (nI 0))], [], M1)
  refine Wn.run (tab := tb_m_image) rfl 3 (c' := (8, [(0, .ref 114), (1, .int (nI 0))], [.int (nI 1), .int (nI 0), .int (nI 0)], M1)) (o := []) rfl trivial ?_
  refine Wn.callS (n := 3) (ix := 194) (fun r0 M0 => r0 = some (.int (b2 (0 ≤ 0 ∧ 0 ≤ 1))) ∧ M1 = M0) [.int (nI 0), .int (nI 0), .int (nI 1)] [] rfl rfl rfl (Nat.le_of_ble_eq_true rfl) (Nat.le_of_ble_eq_true rfl) (w_m_isInN _ 0 0 1 (by omega) (by omega) (by omega) M1 _ ⟨rfl, rfl⟩) ?_
  rintro _ _ ⟨rfl, rfl⟩
  show Wn _ 148 _ (11, [(0, .ref 114), (1, .int (nI 0))], [.int (b2 (0 ≤ 0 ∧ 0 ≤ 1))], M1)
  refine Wn.run (tab := tb_m_image) rfl 1 (c' := (if ¬ (b2 (0 ≤ 0 ∧ 0 ≤ 1)) = 0 then 16 else 14, [(0, .ref 114), (1, .int (nI 0))], [], M1)) (o := []) rfl trivial ?_
  rw [if_pos (b2_n0.mpr (by decide))]
  show Wn _ 148 _ (16, [(0, .ref 114), (1, .int (nI 0))], [], M1)
  refine Wn.run (tab := tb_m_image) rfl 2 (c' := (18, [(2, .int (nI 0)), (0, .ref 114), (1, .int (nI 0))], [], M1)) (o := []) rfl trivial ?_
  have loop : ∀ (m z : Nat) (N : Mm), 359 - z = m → z ≤ 359 → (N.1 114 = (upd g 0 (nI 0))) → (N.1 131 = (cpB P F (359 * 0) z)) → (N.1 116 = F) → (N.2.1 132 = PJ) → (N.2.1 119 = J) → (N.1 133 = K) → (Fr [114, 131, 132, 133] M N) → Wn (d + 1) 148 (PMi M 0 g) (18, [(2, .int (nI z)), (0, .ref 114), (1, .int (nI 0))], [], N) := by
    intro m
    induction m using Nat.strongRecOn with
    | _ m ih =>
      intro z N hm hz loop_0 loop_1 loop_2 loop_3 loop_4 loop_5 loop_6
      refine Wn.run (tab := tb_m_image) rfl 3 (c' := (if (nI 359) ≤ (nI z) then 49 else 25, [(2, .int (nI z)), (0, .ref 114), (1, .int (nI 0))], [], N)) (o := []) rfl trivial ?_
      refine Wn.br (fun h1 => ?_) (fun h1 => ?_)
      · show Wn _ 148 _ (49, [(2, .int (nI z)), (0, .ref 114), (1, .int (nI 0))], [], N)
        have h1 := (n_le rfl rfl (by omega) (by omega)).mp h1
        have e9 : z = 359 := by omega
        subst e9
        refine Wn.run (tab := tb_m_image) rfl 2 (c' := (51, [(2, .int (nI 0)), (0, .ref 114), (1, .int (nI 0))], [], N)) (o := []) rfl trivial ?_
        have lp2 : ∀ (m y : Nat) (N : Mm), 6 - y = m → y ≤ 6 → (N.1 114 = (upd g 0 (nI 0))) → (N.1 131 = (cpB P F (359 * 0) 359)) → (N.1 116 = F) → (N.2.1 132 = (cpB PJ J (6 * 0) y)) → (N.2.1 119 = J) → (N.1 133 = K) → (Fr [114, 131, 132, 133] M N) → Wn (d + 1) 148 (PMi M 0 g) (51, [(2, .int (nI y)), (0, .ref 114), (1, .int (nI 0))], [], N) := by
          intro m
          induction m using Nat.strongRecOn with
          | _ m_lp2 ih_lp2 =>
            intro y N hm_lp2 hy lp2_0 lp2_1 lp2_2 lp2_3 lp2_4 lp2_5 lp2_6
            refine Wn.run (tab := tb_m_image) rfl 3 (c' := (if (nI 6) ≤ (nI y) then 80 else 57, [(2, .int (nI y)), (0, .ref 114), (1, .int (nI 0))], [], N)) (o := []) rfl trivial ?_
            refine Wn.br (fun h2 => ?_) (fun h2 => ?_)
            · show Wn _ 148 _ (80, [(2, .int (nI y)), (0, .ref 114), (1, .int (nI 0))], [], N)
              have h2 := (n_le rfl rfl (by omega) (by omega)).mp h2
              have e9 : y = 6 := by omega
              subst e9
              refine Wn.run (tab := tb_m_image) rfl 5 (c' := (87, [(2, .int (nI 6)), (0, .ref 114), (1, .int (nI 0))], [], (mI N 133 (upd (N.1 133) 0 (nI 1))))) (o := [shp 114 = (0, 10), aok shp 133 2 (nI 0), is01 (nI 1)]) rfl ⟨rfl, ⟨rfl, vp_in_nI (by decide) (by decide)⟩, (Or.inr rfl)⟩ ?_
              generalize hM12 : (mI N 133 (upd (N.1 133) 0 (nI 1))) = M11
              have hk13 := fI_ne hM12 (by decide) lp2_0
              have hk14 := fI_ne hM12 (by decide) lp2_1
              have hk15 := fI_ne hM12 (by decide) lp2_2
              have hk16 := fJ_oI hM12 lp2_3
              have hk17 := fJ_oI hM12 lp2_4
              have hk18 := fI_up hM12 lp2_5
              have hF19 := fr_sI lp2_6 hM12 (by decide)
              show Wn _ 148 _ (87, [(2, .int (nI 6)), (0, .ref 114), (1, .int (nI 0))], [], M11)
              refine Wn.run (tab := tb_m_image) rfl 1 (c' := (88, [(2, .int (nI 6)), (0, .ref 114), (1, .int (nI 0))], [.int (nI 1)], M11)) (o := []) rfl trivial ?_
              exact Wn.zret rfl (Or.inr rfl) ⟨rfl, hk13, by rw [h131, h116]; exact hk14, by rw [h132, h119]; exact hk16, by rw [h133]; exact hk18, hF19⟩
            · show Wn _ 148 _ (57, [(2, .int (nI y)), (0, .ref 114), (1, .int (nI 0))], [], N)
              have h2 := mt (n_le rfl rfl (by omega) (by omega)).mpr h2
              refine Wn.run (tab := tb_m_image) rfl 12 (c' := (74, [(2, .int (nI y)), (0, .ref 114), (1, .int (nI 0))], [], (mJ N 132 (vp_updL (N.2.1 132) ((((nI 6) * (nI 0)) + (nI y))).toNatClampNeg (N.2.1 119 ((nI y)).toNatClampNeg))))) (o := [shp 114 = (0, 10), shp 114 = (0, 10), aok shp 119 3 (nI y), aok shp 132 3 (((nI 6) * (nI 0)) + (nI y))]) rfl ⟨rfl, rfl, (ak1 (n := 12) rfl rfl rfl (by omega)), (ak1 (n := 12) rfl rfl (n_add (n_mul rfl rfl) rfl) (by omega))⟩ ?_
              rw [show (N.2.1 119 ((nI y)).toNatClampNeg) = (J y) from (fr_rdxJ lp2_4 rfl (by omega))]
              generalize hM21 : (mJ N 132 (vp_updL (N.2.1 132) ((((nI 6) * (nI 0)) + (nI y))).toNatClampNeg (J y))) = M20
              have hk22 := fI_oJ hM21 lp2_0
              have hk23 := fI_oJ hM21 lp2_1
              have hk24 := fI_oJ hM21 lp2_2
              have hk25 := fJ_upx hM21 lp2_3 (cl1 (n_add (n_mul rfl rfl) rfl) (by omega))
              have hk26 := fJ_ne hM21 (by decide) lp2_4
              have hk27 := fI_oJ hM21 lp2_5
              have hF28 := fr_sJ lp2_6 hM21 (by decide)
              show Wn _ 148 _ (74, [(2, .int (nI y)), (0, .ref 114), (1, .int (nI 0))], [], M20)
              refine Wn.run (tab := tb_m_image) rfl 2 (c' := (51, [(2, .int ((nI y) + (nI 1))), (0, .ref 114), (1, .int (nI 0))], [], M20)) (o := []) rfl trivial ?_
              rw [show ((nI y) + (nI 1)) = (nI (y + 1)) from (n_add rfl rfl)]
              exact ih_lp2 (6 - (y + 1)) (by omega) (y + 1) M20 rfl (by omega) hk22 hk23 hk24 (by rw [← cpBJ_s]; exact hk25) hk26 hk27 hF28
        exact lp2 (6 - 0) 0 N rfl (by omega) loop_0 loop_1 loop_2 (by rw [cpB_0]; exact loop_3) loop_4 loop_5 loop_6
      · show Wn _ 148 _ (25, [(2, .int (nI z)), (0, .ref 114), (1, .int (nI 0))], [], N)
        have h1 := mt (n_le rfl rfl (by omega) (by omega)).mpr h1
        refine Wn.run (tab := tb_m_image) rfl 12 (c' := (43, [(2, .int (nI z)), (0, .ref 114), (1, .int (nI 0))], [], (mI N 131 (upd (N.1 131) ((((nI 359) * (nI 0)) + (nI z))).toNatClampNeg (N.1 116 ((nI z)).toNatClampNeg))))) (o := [shp 114 = (0, 10), shp 114 = (0, 10), aok shp 116 0 (nI z), aok shp 131 0 (((nI 359) * (nI 0)) + (nI z))]) rfl ⟨rfl, rfl, (ak1 (n := 359) rfl rfl rfl (by omega)), (ak1 (n := 718) rfl rfl (n_add (n_mul rfl rfl) rfl) (by omega))⟩ ?_
        rw [show (N.1 116 ((nI z)).toNatClampNeg) = (F z) from (fr_rdx loop_2 rfl (by omega))]
        generalize hM30 : (mI N 131 (upd (N.1 131) ((((nI 359) * (nI 0)) + (nI z))).toNatClampNeg (F z))) = M29
        have hk31 := fI_ne hM30 (by decide) loop_0
        have hk32 := fI_upx hM30 loop_1 (cl1 (n_add (n_mul rfl rfl) rfl) (by omega))
        have hk33 := fI_ne hM30 (by decide) loop_2
        have hk34 := fJ_oI hM30 loop_3
        have hk35 := fJ_oI hM30 loop_4
        have hk36 := fI_ne hM30 (by decide) loop_5
        have hF37 := fr_sI loop_6 hM30 (by decide)
        show Wn _ 148 _ (43, [(2, .int (nI z)), (0, .ref 114), (1, .int (nI 0))], [], M29)
        refine Wn.run (tab := tb_m_image) rfl 2 (c' := (18, [(2, .int ((nI z) + (nI 1))), (0, .ref 114), (1, .int (nI 0))], [], M29)) (o := []) rfl trivial ?_
        rw [show ((nI z) + (nI 1)) = (nI (z + 1)) from (n_add rfl rfl)]
        exact ih (359 - (z + 1)) (by omega) (z + 1) M29 rfl (by omega) hk31 (by rw [← cpBI_s]; exact hk32) hk33 hk34 hk35 hk36 hF37
  exact loop (359 - 0) 0 M1 rfl (by omega) hk3 (by rw [cpB_0]; exact hk4) hk5 hk6 hk7 hk8 hF9
set_option maxRecDepth 20000 in
theorem c_m_restore_0 (d : Nat) (M : Mm) (g : Nat → Int32) (hg : M.1 114 = g) (hk : M.1 133 0 = nI 1) : Wn (d + 1) 149 (PMs M 0 g) (0, lv_args 0 [.ref 114, .int (nI 0)], [], M) := by
  have hF := fr_rf [114, 116, 119] M
  obtain ⟨P, h131⟩ : ∃ g, M.1 131 = g := ⟨_, rfl⟩
  obtain ⟨F, h116⟩ : ∃ g, M.1 116 = g := ⟨_, rfl⟩
  obtain ⟨PJ, h132⟩ : ∃ g, M.2.1 132 = g := ⟨_, rfl⟩
  obtain ⟨J, h119⟩ : ∃ g, M.2.1 119 = g := ⟨_, rfl⟩
  obtain ⟨K, h133⟩ : ∃ g, M.1 133 = g := ⟨_, rfl⟩
  have hk1 : K 0 = nI 1 := by rw [← h133]; exact hk
  refine Wn.run (tab := tb_m_restore) rfl 3 (c' := (5, [(0, .ref 114), (1, .int (nI 0))], [], (mI M 114 (upd (M.1 114) 0 (nI 0))))) (o := [shp 114 = (0, 10)]) rfl rfl ?_
  generalize hM2 : (mI M 114 (upd (M.1 114) 0 (nI 0))) = M1
  have hk3 := fI_up hM2 hg
  have hk4 := fI_ne hM2 (by decide) h131
  have hk5 := fI_ne hM2 (by decide) h116
  have hk6 := fJ_oI hM2 h132
  have hk7 := fJ_oI hM2 h119
  have hk8 := fI_ne hM2 (by decide) h133
  have hF9 := fr_sI hF hM2 (by decide)
  show Wn _ 149 _ (5, [(0, .ref 114), (1, .int (nI 0))], [], M1)
  refine Wn.run (tab := tb_m_restore) rfl 3 (c' := (8, [(0, .ref 114), (1, .int (nI 0))], [.int (nI 1), .int (nI 0), .int (nI 0)], M1)) (o := []) rfl trivial ?_
  refine Wn.callS (n := 3) (ix := 194) (fun r0 M0 => r0 = some (.int (b2 (0 ≤ 0 ∧ 0 ≤ 1))) ∧ M1 = M0) [.int (nI 0), .int (nI 0), .int (nI 1)] [] rfl rfl rfl (Nat.le_of_ble_eq_true rfl) (Nat.le_of_ble_eq_true rfl) (w_m_isInN _ 0 0 1 (by omega) (by omega) (by omega) M1 _ ⟨rfl, rfl⟩) ?_
  rintro _ _ ⟨rfl, rfl⟩
  show Wn _ 149 _ (11, [(0, .ref 114), (1, .int (nI 0))], [.int (b2 (0 ≤ 0 ∧ 0 ≤ 1))], M1)
  refine Wn.run (tab := tb_m_restore) rfl 1 (c' := (if (b2 (0 ≤ 0 ∧ 0 ≤ 1)) = 0 then 23 else 14, [(0, .ref 114), (1, .int (nI 0))], [], M1)) (o := []) rfl trivial ?_
  rw [if_neg (b2_n0.mpr (by decide))]
  show Wn _ 149 _ (14, [(0, .ref 114), (1, .int (nI 0))], [], M1)
  refine Wn.run (tab := tb_m_restore) rfl 5 (c' := (if ¬ (M1.1 133 0) = 0 then 25 else 23, [(0, .ref 114), (1, .int (nI 0))], [], M1)) (o := [shp 114 = (0, 10), aok shp 133 2 (nI 0)]) rfl ⟨rfl, ⟨rfl, vp_in_nI (by decide) (by decide)⟩⟩ ?_
  rw [if_pos (by rw [show (M1.1 133 0) = (nI 1) from (fr_eq hk8 (show K 0 = (nI 1) from hk1))]; decide)]
  show Wn _ 149 _ (25, [(0, .ref 114), (1, .int (nI 0))], [], M1)
  refine Wn.run (tab := tb_m_restore) rfl 2 (c' := (27, [(2, .int (nI 0)), (0, .ref 114), (1, .int (nI 0))], [], M1)) (o := []) rfl trivial ?_
  have loop : ∀ (m z : Nat) (N : Mm), 359 - z = m → z ≤ 359 → (N.1 114 = (upd g 0 (nI 0))) → (N.1 131 = P) → (N.1 116 = (cpG F (fun i => P (359 * 0 + i)) z)) → (N.2.1 132 = PJ) → (N.2.1 119 = J) → (N.1 133 = K) → (Fr [114, 116, 119] M N) → Wn (d + 1) 149 (PMs M 0 g) (27, [(2, .int (nI z)), (0, .ref 114), (1, .int (nI 0))], [], N) := by
    intro m
    induction m using Nat.strongRecOn with
    | _ m ih =>
      intro z N hm hz loop_0 loop_1 loop_2 loop_3 loop_4 loop_5 loop_6
      refine Wn.run (tab := tb_m_restore) rfl 3 (c' := (if (nI 359) ≤ (nI z) then 58 else 34, [(2, .int (nI z)), (0, .ref 114), (1, .int (nI 0))], [], N)) (o := []) rfl trivial ?_
      refine Wn.br (fun h1 => ?_) (fun h1 => ?_)
      · show Wn _ 149 _ (58, [(2, .int (nI z)), (0, .ref 114), (1, .int (nI 0))], [], N)
        have h1 := (n_le rfl rfl (by omega) (by omega)).mp h1
        have e9 : z = 359 := by omega
        subst e9
        refine Wn.run (tab := tb_m_restore) rfl 2 (c' := (60, [(2, .int (nI 0)), (0, .ref 114), (1, .int (nI 0))], [], N)) (o := []) rfl trivial ?_
        have lp2 : ∀ (m y : Nat) (N : Mm), 6 - y = m → y ≤ 6 → (N.1 114 = (upd g 0 (nI 0))) → (N.1 131 = P) → (N.1 116 = (cpG F (fun i => P (359 * 0 + i)) 359)) → (N.2.1 132 = PJ) → (N.2.1 119 = (cpG J (fun i => PJ (6 * 0 + i)) y)) → (N.1 133 = K) → (Fr [114, 116, 119] M N) → Wn (d + 1) 149 (PMs M 0 g) (60, [(2, .int (nI y)), (0, .ref 114), (1, .int (nI 0))], [], N) := by
          intro m
          induction m using Nat.strongRecOn with
          | _ m_lp2 ih_lp2 =>
            intro y N hm_lp2 hy lp2_0 lp2_1 lp2_2 lp2_3 lp2_4 lp2_5 lp2_6
            refine Wn.run (tab := tb_m_restore) rfl 3 (c' := (if (nI 6) ≤ (nI y) then 89 else 66, [(2, .int (nI y)), (0, .ref 114), (1, .int (nI 0))], [], N)) (o := []) rfl trivial ?_
            refine Wn.br (fun h2 => ?_) (fun h2 => ?_)
            · show Wn _ 149 _ (89, [(2, .int (nI y)), (0, .ref 114), (1, .int (nI 0))], [], N)
              have h2 := (n_le rfl rfl (by omega) (by omega)).mp h2
              have e9 : y = 6 := by omega
              subst e9
              refine Wn.run (tab := tb_m_restore) rfl 3 (c' := (94, [(2, .int (nI 6)), (0, .ref 114), (1, .int (nI 0))], [], (mI N 114 (upd (N.1 114) 25 (nI 0))))) (o := [shp 114 = (0, 10)]) rfl rfl ?_
              generalize hM12 : (mI N 114 (upd (N.1 114) 25 (nI 0))) = M11
              have hk13 := fI_up hM12 lp2_0
              have hk14 := fI_ne hM12 (by decide) lp2_1
              have hk15 := fI_ne hM12 (by decide) lp2_2
              have hk16 := fJ_oI hM12 lp2_3
              have hk17 := fJ_oI hM12 lp2_4
              have hk18 := fI_ne hM12 (by decide) lp2_5
              have hF19 := fr_sI lp2_6 hM12 (by decide)
              show Wn _ 149 _ (94, [(2, .int (nI 6)), (0, .ref 114), (1, .int (nI 0))], [], M11)
              refine Wn.run (tab := tb_m_restore) rfl 1 (c' := (95, [(2, .int (nI 6)), (0, .ref 114), (1, .int (nI 0))], [.int (nI 1)], M11)) (o := []) rfl trivial ?_
              exact Wn.zret rfl (Or.inr rfl) ⟨rfl, hk13, by rw [h131, h116]; exact hk15, by rw [h132, h119]; exact hk17, hF19⟩
            · show Wn _ 149 _ (66, [(2, .int (nI y)), (0, .ref 114), (1, .int (nI 0))], [], N)
              have h2 := mt (n_le rfl rfl (by omega) (by omega)).mpr h2
              refine Wn.run (tab := tb_m_restore) rfl 12 (c' := (83, [(2, .int (nI y)), (0, .ref 114), (1, .int (nI 0))], [], (mJ N 119 (vp_updL (N.2.1 119) ((nI y)).toNatClampNeg (N.2.1 132 ((((nI 6) * (nI 0)) + (nI y))).toNatClampNeg))))) (o := [shp 114 = (0, 10), shp 114 = (0, 10), aok shp 132 3 (((nI 6) * (nI 0)) + (nI y)), aok shp 119 3 (nI y)]) rfl ⟨rfl, rfl, (ak1 (n := 12) rfl rfl (n_add (n_mul rfl rfl) rfl) (by omega)), (ak1 (n := 12) rfl rfl rfl (by omega))⟩ ?_
              rw [show (N.2.1 132 ((((nI 6) * (nI 0)) + (nI y))).toNatClampNeg) = (PJ ((6 * 0) + y)) from (fr_rdxJ lp2_3 (n_add (n_mul rfl rfl) rfl) (by omega))]
              generalize hM21 : (mJ N 119 (vp_updL (N.2.1 119) ((nI y)).toNatClampNeg (PJ ((6 * 0) + y)))) = M20
              have hk22 := fI_oJ hM21 lp2_0
              have hk23 := fI_oJ hM21 lp2_1
              have hk24 := fI_oJ hM21 lp2_2
              have hk25 := fJ_ne hM21 (by decide) lp2_3
              have hk26 := fJ_upx hM21 lp2_4 (cl1 rfl (by omega))
              have hk27 := fI_oJ hM21 lp2_5
              have hF28 := fr_sJ lp2_6 hM21 (by decide)
              show Wn _ 149 _ (83, [(2, .int (nI y)), (0, .ref 114), (1, .int (nI 0))], [], M20)
              refine Wn.run (tab := tb_m_restore) rfl 2 (c' := (60, [(2, .int ((nI y) + (nI 1))), (0, .ref 114), (1, .int (nI 0))], [], M20)) (o := []) rfl trivial ?_
              rw [show ((nI y) + (nI 1)) = (nI (y + 1)) from (n_add rfl rfl)]
              exact ih_lp2 (6 - (y + 1)) (by omega) (y + 1) M20 rfl (by omega) hk22 hk23 hk24 hk25 (by rw [← cpJ_sg]; exact hk26) hk27 hF28
        exact lp2 (6 - 0) 0 N rfl (by omega) loop_0 loop_1 loop_2 loop_3 (by rw [cpG_0]; exact loop_4) loop_5 loop_6
      · show Wn _ 149 _ (34, [(2, .int (nI z)), (0, .ref 114), (1, .int (nI 0))], [], N)
        have h1 := mt (n_le rfl rfl (by omega) (by omega)).mpr h1
        refine Wn.run (tab := tb_m_restore) rfl 12 (c' := (52, [(2, .int (nI z)), (0, .ref 114), (1, .int (nI 0))], [], (mI N 116 (upd (N.1 116) ((nI z)).toNatClampNeg (N.1 131 ((((nI 359) * (nI 0)) + (nI z))).toNatClampNeg))))) (o := [shp 114 = (0, 10), shp 114 = (0, 10), aok shp 131 0 (((nI 359) * (nI 0)) + (nI z)), aok shp 116 0 (nI z)]) rfl ⟨rfl, rfl, (ak1 (n := 718) rfl rfl (n_add (n_mul rfl rfl) rfl) (by omega)), (ak1 (n := 359) rfl rfl rfl (by omega))⟩ ?_
        rw [show (N.1 131 ((((nI 359) * (nI 0)) + (nI z))).toNatClampNeg) = (P ((359 * 0) + z)) from (fr_rdx loop_1 (n_add (n_mul rfl rfl) rfl) (by omega))]
        generalize hM30 : (mI N 116 (upd (N.1 116) ((nI z)).toNatClampNeg (P ((359 * 0) + z)))) = M29
        have hk31 := fI_ne hM30 (by decide) loop_0
        have hk32 := fI_ne hM30 (by decide) loop_1
        have hk33 := fI_upx hM30 loop_2 (cl1 rfl (by omega))
        have hk34 := fJ_oI hM30 loop_3
        have hk35 := fJ_oI hM30 loop_4
        have hk36 := fI_ne hM30 (by decide) loop_5
        have hF37 := fr_sI loop_6 hM30 (by decide)
        show Wn _ 149 _ (52, [(2, .int (nI z)), (0, .ref 114), (1, .int (nI 0))], [], M29)
        refine Wn.run (tab := tb_m_restore) rfl 2 (c' := (27, [(2, .int ((nI z) + (nI 1))), (0, .ref 114), (1, .int (nI 0))], [], M29)) (o := []) rfl trivial ?_
        rw [show ((nI z) + (nI 1)) = (nI (z + 1)) from (n_add rfl rfl)]
        exact ih (359 - (z + 1)) (by omega) (z + 1) M29 rfl (by omega) hk31 hk32 (by rw [← cpI_s]; exact hk33) hk34 hk35 hk36 hF37
  exact loop (359 - 0) 0 M1 rfl (by omega) hk3 hk4 (by rw [cpG_0]; exact hk5) hk6 hk7 hk8 hF9
set_option maxRecDepth 20000 in
theorem c_m_restore_0_u (d : Nat) (M : Mm) (g : Nat → Int32) (hg : M.1 114 = g) (hk : M.1 133 0 = nI 0) : Wn (d + 1) 149 (PMn M g) (0, lv_args 0 [.ref 114, .int (nI 0)], [], M) := by
  have hF := fr_rf [114] M
  obtain ⟨K, h133⟩ : ∃ g, M.1 133 = g := ⟨_, rfl⟩
  have hk1 : K 0 = nI 0 := by rw [← h133]; exact hk
  refine Wn.run (tab := tb_m_restore) rfl 3 (c' := (5, [(0, .ref 114), (1, .int (nI 0))], [], (mI M 114 (upd (M.1 114) 0 (nI 0))))) (o := [shp 114 = (0, 10)]) rfl rfl ?_
  generalize hM2 : (mI M 114 (upd (M.1 114) 0 (nI 0))) = M1
  have hk3 := fI_up hM2 hg
  have hk4 := fI_ne hM2 (by decide) h133
  have hF5 := fr_sI hF hM2 (by decide)
  show Wn _ 149 _ (5, [(0, .ref 114), (1, .int (nI 0))], [], M1)
  refine Wn.run (tab := tb_m_restore) rfl 3 (c' := (8, [(0, .ref 114), (1, .int (nI 0))], [.int (nI 1), .int (nI 0), .int (nI 0)], M1)) (o := []) rfl trivial ?_
  refine Wn.callS (n := 3) (ix := 194) (fun r0 M0 => r0 = some (.int (b2 (0 ≤ 0 ∧ 0 ≤ 1))) ∧ M1 = M0) [.int (nI 0), .int (nI 0), .int (nI 1)] [] rfl rfl rfl (Nat.le_of_ble_eq_true rfl) (Nat.le_of_ble_eq_true rfl) (w_m_isInN _ 0 0 1 (by omega) (by omega) (by omega) M1 _ ⟨rfl, rfl⟩) ?_
  rintro _ _ ⟨rfl, rfl⟩
  show Wn _ 149 _ (11, [(0, .ref 114), (1, .int (nI 0))], [.int (b2 (0 ≤ 0 ∧ 0 ≤ 1))], M1)
  refine Wn.run (tab := tb_m_restore) rfl 1 (c' := (if (b2 (0 ≤ 0 ∧ 0 ≤ 1)) = 0 then 23 else 14, [(0, .ref 114), (1, .int (nI 0))], [], M1)) (o := []) rfl trivial ?_
  rw [if_neg (b2_n0.mpr (by decide))]
  show Wn _ 149 _ (14, [(0, .ref 114), (1, .int (nI 0))], [], M1)
  refine Wn.run (tab := tb_m_restore) rfl 5 (c' := (if ¬ (M1.1 133 0) = 0 then 25 else 23, [(0, .ref 114), (1, .int (nI 0))], [], M1)) (o := [shp 114 = (0, 10), aok shp 133 2 (nI 0)]) rfl ⟨rfl, ⟨rfl, vp_in_nI (by decide) (by decide)⟩⟩ ?_
  rw [if_neg (by rw [show (M1.1 133 0) = (nI 0) from (fr_eq hk4 (show K 0 = (nI 0) from hk1))]; decide)]
  show Wn _ 149 _ (23, [(0, .ref 114), (1, .int (nI 0))], [], M1)
  refine Wn.run (tab := tb_m_restore) rfl 1 (c' := (24, [(0, .ref 114), (1, .int (nI 0))], [.int (nI 0)], M1)) (o := []) rfl trivial ?_
  exact Wn.zret rfl (Or.inl rfl) ⟨rfl, hk3, by rw [← hM2]; rfl, hF5⟩
set_option maxRecDepth 20000 in
theorem c_m_image_1 (d : Nat) (M : Mm) (g : Nat → Int32) (hg : M.1 114 = g) : Wn (d + 1) 148 (PMi M 1 g) (0, lv_args 0 [.ref 114, .int (nI 1)], [], M) := by
  have hF := fr_rf [114, 131, 132, 133] M
  obtain ⟨P, h131⟩ : ∃ g, M.1 131 = g := ⟨_, rfl⟩
  obtain ⟨F, h116⟩ : ∃ g, M.1 116 = g := ⟨_, rfl⟩
  obtain ⟨PJ, h132⟩ : ∃ g, M.2.1 132 = g := ⟨_, rfl⟩
  obtain ⟨J, h119⟩ : ∃ g, M.2.1 119 = g := ⟨_, rfl⟩
  obtain ⟨K, h133⟩ : ∃ g, M.1 133 = g := ⟨_, rfl⟩
  refine Wn.run (tab := tb_m_image) rfl 3 (c' := (5, [(0, .ref 114), (1, .int (nI 1))], [], (mI M 114 (upd (M.1 114) 0 (nI 0))))) (o := [shp 114 = (0, 10)]) rfl rfl ?_
  generalize hM2 : (mI M 114 (upd (M.1 114) 0 (nI 0))) = M1
  have hk3 := fI_up hM2 hg
  have hk4 := fI_ne hM2 (by decide) h131
  have hk5 := fI_ne hM2 (by decide) h116
  have hk6 := fJ_oI hM2 h132
  have hk7 := fJ_oI hM2 h119
  have hk8 := fI_ne hM2 (by decide) h133
  have hF9 := fr_sI hF hM2 (by decide)
  show Wn _ 148 _ (5, [(0, .ref 114), (1, .int (nI 1))], [], M1)
  refine Wn.run (tab := tb_m_image) rfl 3 (c' := (8, [(0, .ref 114), (1, .int (nI 1))], [.int (nI 1), .int (nI 0), .int (nI 1)], M1)) (o := []) rfl trivial ?_
  refine Wn.callS (n := 3) (ix := 194) (fun r0 M0 => r0 = some (.int (b2 (0 ≤ 1 ∧ 1 ≤ 1))) ∧ M1 = M0) [.int (nI 1), .int (nI 0), .int (nI 1)] [] rfl rfl rfl (Nat.le_of_ble_eq_true rfl) (Nat.le_of_ble_eq_true rfl) (w_m_isInN _ 1 0 1 (by omega) (by omega) (by omega) M1 _ ⟨rfl, rfl⟩) ?_
  rintro _ _ ⟨rfl, rfl⟩
  show Wn _ 148 _ (11, [(0, .ref 114), (1, .int (nI 1))], [.int (b2 (0 ≤ 1 ∧ 1 ≤ 1))], M1)
  refine Wn.run (tab := tb_m_image) rfl 1 (c' := (if ¬ (b2 (0 ≤ 1 ∧ 1 ≤ 1)) = 0 then 16 else 14, [(0, .ref 114), (1, .int (nI 1))], [], M1)) (o := []) rfl trivial ?_
  rw [if_pos (b2_n0.mpr (by decide))]
  show Wn _ 148 _ (16, [(0, .ref 114), (1, .int (nI 1))], [], M1)
  refine Wn.run (tab := tb_m_image) rfl 2 (c' := (18, [(2, .int (nI 0)), (0, .ref 114), (1, .int (nI 1))], [], M1)) (o := []) rfl trivial ?_
  have loop : ∀ (m z : Nat) (N : Mm), 359 - z = m → z ≤ 359 → (N.1 114 = (upd g 0 (nI 0))) → (N.1 131 = (cpB P F (359 * 1) z)) → (N.1 116 = F) → (N.2.1 132 = PJ) → (N.2.1 119 = J) → (N.1 133 = K) → (Fr [114, 131, 132, 133] M N) → Wn (d + 1) 148 (PMi M 1 g) (18, [(2, .int (nI z)), (0, .ref 114), (1, .int (nI 1))], [], N) := by
    intro m
    induction m using Nat.strongRecOn with
    | _ m ih =>
      intro z N hm hz loop_0 loop_1 loop_2 loop_3 loop_4 loop_5 loop_6
      refine Wn.run (tab := tb_m_image) rfl 3 (c' := (if (nI 359) ≤ (nI z) then 49 else 25, [(2, .int (nI z)), (0, .ref 114), (1, .int (nI 1))], [], N)) (o := []) rfl trivial ?_
      refine Wn.br (fun h1 => ?_) (fun h1 => ?_)
      · show Wn _ 148 _ (49, [(2, .int (nI z)), (0, .ref 114), (1, .int (nI 1))], [], N)
        have h1 := (n_le rfl rfl (by omega) (by omega)).mp h1
        have e9 : z = 359 := by omega
        subst e9
        refine Wn.run (tab := tb_m_image) rfl 2 (c' := (51, [(2, .int (nI 0)), (0, .ref 114), (1, .int (nI 1))], [], N)) (o := []) rfl trivial ?_
        have lp2 : ∀ (m y : Nat) (N : Mm), 6 - y = m → y ≤ 6 → (N.1 114 = (upd g 0 (nI 0))) → (N.1 131 = (cpB P F (359 * 1) 359)) → (N.1 116 = F) → (N.2.1 132 = (cpB PJ J (6 * 1) y)) → (N.2.1 119 = J) → (N.1 133 = K) → (Fr [114, 131, 132, 133] M N) → Wn (d + 1) 148 (PMi M 1 g) (51, [(2, .int (nI y)), (0, .ref 114), (1, .int (nI 1))], [], N) := by
          intro m
          induction m using Nat.strongRecOn with
          | _ m_lp2 ih_lp2 =>
            intro y N hm_lp2 hy lp2_0 lp2_1 lp2_2 lp2_3 lp2_4 lp2_5 lp2_6
            refine Wn.run (tab := tb_m_image) rfl 3 (c' := (if (nI 6) ≤ (nI y) then 80 else 57, [(2, .int (nI y)), (0, .ref 114), (1, .int (nI 1))], [], N)) (o := []) rfl trivial ?_
            refine Wn.br (fun h2 => ?_) (fun h2 => ?_)
            · show Wn _ 148 _ (80, [(2, .int (nI y)), (0, .ref 114), (1, .int (nI 1))], [], N)
              have h2 := (n_le rfl rfl (by omega) (by omega)).mp h2
              have e9 : y = 6 := by omega
              subst e9
              refine Wn.run (tab := tb_m_image) rfl 5 (c' := (87, [(2, .int (nI 6)), (0, .ref 114), (1, .int (nI 1))], [], (mI N 133 (upd (N.1 133) 1 (nI 1))))) (o := [shp 114 = (0, 10), aok shp 133 2 (nI 1), is01 (nI 1)]) rfl ⟨rfl, ⟨rfl, vp_in_nI (by decide) (by decide)⟩, (Or.inr rfl)⟩ ?_
              generalize hM12 : (mI N 133 (upd (N.1 133) 1 (nI 1))) = M11
              have hk13 := fI_ne hM12 (by decide) lp2_0
              have hk14 := fI_ne hM12 (by decide) lp2_1
              have hk15 := fI_ne hM12 (by decide) lp2_2
              have hk16 := fJ_oI hM12 lp2_3
              have hk17 := fJ_oI hM12 lp2_4
              have hk18 := fI_up hM12 lp2_5
              have hF19 := fr_sI lp2_6 hM12 (by decide)
              show Wn _ 148 _ (87, [(2, .int (nI 6)), (0, .ref 114), (1, .int (nI 1))], [], M11)
              refine Wn.run (tab := tb_m_image) rfl 1 (c' := (88, [(2, .int (nI 6)), (0, .ref 114), (1, .int (nI 1))], [.int (nI 1)], M11)) (o := []) rfl trivial ?_
              exact Wn.zret rfl (Or.inr rfl) ⟨rfl, hk13, by rw [h131, h116]; exact hk14, by rw [h132, h119]; exact hk16, by rw [h133]; exact hk18, hF19⟩
            · show Wn _ 148 _ (57, [(2, .int (nI y)), (0, .ref 114), (1, .int (nI 1))], [], N)
              have h2 := mt (n_le rfl rfl (by omega) (by omega)).mpr h2
              refine Wn.run (tab := tb_m_image) rfl 12 (c' := (74, [(2, .int (nI y)), (0, .ref 114), (1, .int (nI 1))], [], (mJ N 132 (vp_updL (N.2.1 132) ((((nI 6) * (nI 1)) + (nI y))).toNatClampNeg (N.2.1 119 ((nI y)).toNatClampNeg))))) (o := [shp 114 = (0, 10), shp 114 = (0, 10), aok shp 119 3 (nI y), aok shp 132 3 (((nI 6) * (nI 1)) + (nI y))]) rfl ⟨rfl, rfl, (ak1 (n := 12) rfl rfl rfl (by omega)), (ak1 (n := 12) rfl rfl (n_add (n_mul rfl rfl) rfl) (by omega))⟩ ?_
              rw [show (N.2.1 119 ((nI y)).toNatClampNeg) = (J y) from (fr_rdxJ lp2_4 rfl (by omega))]
              generalize hM21 : (mJ N 132 (vp_updL (N.2.1 132) ((((nI 6) * (nI 1)) + (nI y))).toNatClampNeg (J y))) = M20
              have hk22 := fI_oJ hM21 lp2_0
              have hk23 := fI_oJ hM21 lp2_1
              have hk24 := fI_oJ hM21 lp2_2
              have hk25 := fJ_upx hM21 lp2_3 (cl1 (n_add (n_mul rfl rfl) rfl) (by omega))
              have hk26 := fJ_ne hM21 (by decide) lp2_4
              have hk27 := fI_oJ hM21 lp2_5
              have hF28 := fr_sJ lp2_6 hM21 (by decide)
              show Wn _ 148 _ (74, [(2, .int (nI y)), (0, .ref 114), (1, .int (nI 1))], [], M20)
              refine Wn.run (tab := tb_m_image) rfl 2 (c' := (51, [(2, .int ((nI y) + (nI 1))), (0, .ref 114), (1, .int (nI 1))], [], M20)) (o := []) rfl trivial ?_
              rw [show ((nI y) + (nI 1)) = (nI (y + 1)) from (n_add rfl rfl)]
              exact ih_lp2 (6 - (y + 1)) (by omega) (y + 1) M20 rfl (by omega) hk22 hk23 hk24 (by rw [← cpBJ_s]; exact hk25) hk26 hk27 hF28
        exact lp2 (6 - 0) 0 N rfl (by omega) loop_0 loop_1 loop_2 (by rw [cpB_0]; exact loop_3) loop_4 loop_5 loop_6
      · show Wn _ 148 _ (25, [(2, .int (nI z)), (0, .ref 114), (1, .int (nI 1))], [], N)
        have h1 := mt (n_le rfl rfl (by omega) (by omega)).mpr h1
        refine Wn.run (tab := tb_m_image) rfl 12 (c' := (43, [(2, .int (nI z)), (0, .ref 114), (1, .int (nI 1))], [], (mI N 131 (upd (N.1 131) ((((nI 359) * (nI 1)) + (nI z))).toNatClampNeg (N.1 116 ((nI z)).toNatClampNeg))))) (o := [shp 114 = (0, 10), shp 114 = (0, 10), aok shp 116 0 (nI z), aok shp 131 0 (((nI 359) * (nI 1)) + (nI z))]) rfl ⟨rfl, rfl, (ak1 (n := 359) rfl rfl rfl (by omega)), (ak1 (n := 718) rfl rfl (n_add (n_mul rfl rfl) rfl) (by omega))⟩ ?_
        rw [show (N.1 116 ((nI z)).toNatClampNeg) = (F z) from (fr_rdx loop_2 rfl (by omega))]
        generalize hM30 : (mI N 131 (upd (N.1 131) ((((nI 359) * (nI 1)) + (nI z))).toNatClampNeg (F z))) = M29
        have hk31 := fI_ne hM30 (by decide) loop_0
        have hk32 := fI_upx hM30 loop_1 (cl1 (n_add (n_mul rfl rfl) rfl) (by omega))
        have hk33 := fI_ne hM30 (by decide) loop_2
        have hk34 := fJ_oI hM30 loop_3
        have hk35 := fJ_oI hM30 loop_4
        have hk36 := fI_ne hM30 (by decide) loop_5
        have hF37 := fr_sI loop_6 hM30 (by decide)
        show Wn _ 148 _ (43, [(2, .int (nI z)), (0, .ref 114), (1, .int (nI 1))], [], M29)
        refine Wn.run (tab := tb_m_image) rfl 2 (c' := (18, [(2, .int ((nI z) + (nI 1))), (0, .ref 114), (1, .int (nI 1))], [], M29)) (o := []) rfl trivial ?_
        rw [show ((nI z) + (nI 1)) = (nI (z + 1)) from (n_add rfl rfl)]
        exact ih (359 - (z + 1)) (by omega) (z + 1) M29 rfl (by omega) hk31 (by rw [← cpBI_s]; exact hk32) hk33 hk34 hk35 hk36 hF37
  exact loop (359 - 0) 0 M1 rfl (by omega) hk3 (by rw [cpB_0]; exact hk4) hk5 hk6 hk7 hk8 hF9
set_option maxRecDepth 20000 in
theorem c_m_restore_1 (d : Nat) (M : Mm) (g : Nat → Int32) (hg : M.1 114 = g) (hk : M.1 133 1 = nI 1) : Wn (d + 1) 149 (PMs M 1 g) (0, lv_args 0 [.ref 114, .int (nI 1)], [], M) := by
  have hF := fr_rf [114, 116, 119] M
  obtain ⟨P, h131⟩ : ∃ g, M.1 131 = g := ⟨_, rfl⟩
  obtain ⟨F, h116⟩ : ∃ g, M.1 116 = g := ⟨_, rfl⟩
  obtain ⟨PJ, h132⟩ : ∃ g, M.2.1 132 = g := ⟨_, rfl⟩
  obtain ⟨J, h119⟩ : ∃ g, M.2.1 119 = g := ⟨_, rfl⟩
  obtain ⟨K, h133⟩ : ∃ g, M.1 133 = g := ⟨_, rfl⟩
  have hk1 : K 1 = nI 1 := by rw [← h133]; exact hk
  refine Wn.run (tab := tb_m_restore) rfl 3 (c' := (5, [(0, .ref 114), (1, .int (nI 1))], [], (mI M 114 (upd (M.1 114) 0 (nI 0))))) (o := [shp 114 = (0, 10)]) rfl rfl ?_
  generalize hM2 : (mI M 114 (upd (M.1 114) 0 (nI 0))) = M1
  have hk3 := fI_up hM2 hg
  have hk4 := fI_ne hM2 (by decide) h131
  have hk5 := fI_ne hM2 (by decide) h116
  have hk6 := fJ_oI hM2 h132
  have hk7 := fJ_oI hM2 h119
  have hk8 := fI_ne hM2 (by decide) h133
  have hF9 := fr_sI hF hM2 (by decide)
  show Wn _ 149 _ (5, [(0, .ref 114), (1, .int (nI 1))], [], M1)
  refine Wn.run (tab := tb_m_restore) rfl 3 (c' := (8, [(0, .ref 114), (1, .int (nI 1))], [.int (nI 1), .int (nI 0), .int (nI 1)], M1)) (o := []) rfl trivial ?_
  refine Wn.callS (n := 3) (ix := 194) (fun r0 M0 => r0 = some (.int (b2 (0 ≤ 1 ∧ 1 ≤ 1))) ∧ M1 = M0) [.int (nI 1), .int (nI 0), .int (nI 1)] [] rfl rfl rfl (Nat.le_of_ble_eq_true rfl) (Nat.le_of_ble_eq_true rfl) (w_m_isInN _ 1 0 1 (by omega) (by omega) (by omega) M1 _ ⟨rfl, rfl⟩) ?_
  rintro _ _ ⟨rfl, rfl⟩
  show Wn _ 149 _ (11, [(0, .ref 114), (1, .int (nI 1))], [.int (b2 (0 ≤ 1 ∧ 1 ≤ 1))], M1)
  refine Wn.run (tab := tb_m_restore) rfl 1 (c' := (if (b2 (0 ≤ 1 ∧ 1 ≤ 1)) = 0 then 23 else 14, [(0, .ref 114), (1, .int (nI 1))], [], M1)) (o := []) rfl trivial ?_
  rw [if_neg (b2_n0.mpr (by decide))]
  show Wn _ 149 _ (14, [(0, .ref 114), (1, .int (nI 1))], [], M1)
  refine Wn.run (tab := tb_m_restore) rfl 5 (c' := (if ¬ (M1.1 133 1) = 0 then 25 else 23, [(0, .ref 114), (1, .int (nI 1))], [], M1)) (o := [shp 114 = (0, 10), aok shp 133 2 (nI 1)]) rfl ⟨rfl, ⟨rfl, vp_in_nI (by decide) (by decide)⟩⟩ ?_
  rw [if_pos (by rw [show (M1.1 133 1) = (nI 1) from (fr_eq hk8 (show K 1 = (nI 1) from hk1))]; decide)]
  show Wn _ 149 _ (25, [(0, .ref 114), (1, .int (nI 1))], [], M1)
  refine Wn.run (tab := tb_m_restore) rfl 2 (c' := (27, [(2, .int (nI 0)), (0, .ref 114), (1, .int (nI 1))], [], M1)) (o := []) rfl trivial ?_
  have loop : ∀ (m z : Nat) (N : Mm), 359 - z = m → z ≤ 359 → (N.1 114 = (upd g 0 (nI 0))) → (N.1 131 = P) → (N.1 116 = (cpG F (fun i => P (359 * 1 + i)) z)) → (N.2.1 132 = PJ) → (N.2.1 119 = J) → (N.1 133 = K) → (Fr [114, 116, 119] M N) → Wn (d + 1) 149 (PMs M 1 g) (27, [(2, .int (nI z)), (0, .ref 114), (1, .int (nI 1))], [], N) := by
    intro m
    induction m using Nat.strongRecOn with
    | _ m ih =>
      intro z N hm hz loop_0 loop_1 loop_2 loop_3 loop_4 loop_5 loop_6
      refine Wn.run (tab := tb_m_restore) rfl 3 (c' := (if (nI 359) ≤ (nI z) then 58 else 34, [(2, .int (nI z)), (0, .ref 114), (1, .int (nI 1))], [], N)) (o := []) rfl trivial ?_
      refine Wn.br (fun h1 => ?_) (fun h1 => ?_)
      · show Wn _ 149 _ (58, [(2, .int (nI z)), (0, .ref 114), (1, .int (nI 1))], [], N)
        have h1 := (n_le rfl rfl (by omega) (by omega)).mp h1
        have e9 : z = 359 := by omega
        subst e9
        refine Wn.run (tab := tb_m_restore) rfl 2 (c' := (60, [(2, .int (nI 0)), (0, .ref 114), (1, .int (nI 1))], [], N)) (o := []) rfl trivial ?_
        have lp2 : ∀ (m y : Nat) (N : Mm), 6 - y = m → y ≤ 6 → (N.1 114 = (upd g 0 (nI 0))) → (N.1 131 = P) → (N.1 116 = (cpG F (fun i => P (359 * 1 + i)) 359)) → (N.2.1 132 = PJ) → (N.2.1 119 = (cpG J (fun i => PJ (6 * 1 + i)) y)) → (N.1 133 = K) → (Fr [114, 116, 119] M N) → Wn (d + 1) 149 (PMs M 1 g) (60, [(2, .int (nI y)), (0, .ref 114), (1, .int (nI 1))], [], N) := by
          intro m
          induction m using Nat.strongRecOn with
          | _ m_lp2 ih_lp2 =>
            intro y N hm_lp2 hy lp2_0 lp2_1 lp2_2 lp2_3 lp2_4 lp2_5 lp2_6
            refine Wn.run (tab := tb_m_restore) rfl 3 (c' := (if (nI 6) ≤ (nI y) then 89 else 66, [(2, .int (nI y)), (0, .ref 114), (1, .int (nI 1))], [], N)) (o := []) rfl trivial ?_
            refine Wn.br (fun h2 => ?_) (fun h2 => ?_)
            · show Wn _ 149 _ (89, [(2, .int (nI y)), (0, .ref 114), (1, .int (nI 1))], [], N)
              have h2 := (n_le rfl rfl (by omega) (by omega)).mp h2
              have e9 : y = 6 := by omega
              subst e9
              refine Wn.run (tab := tb_m_restore) rfl 3 (c' := (94, [(2, .int (nI 6)), (0, .ref 114), (1, .int (nI 1))], [], (mI N 114 (upd (N.1 114) 25 (nI 0))))) (o := [shp 114 = (0, 10)]) rfl rfl ?_
              generalize hM12 : (mI N 114 (upd (N.1 114) 25 (nI 0))) = M11
              have hk13 := fI_up hM12 lp2_0
              have hk14 := fI_ne hM12 (by decide) lp2_1
              have hk15 := fI_ne hM12 (by decide) lp2_2
              have hk16 := fJ_oI hM12 lp2_3
              have hk17 := fJ_oI hM12 lp2_4
              have hk18 := fI_ne hM12 (by decide) lp2_5
              have hF19 := fr_sI lp2_6 hM12 (by decide)
              show Wn _ 149 _ (94, [(2, .int (nI 6)), (0, .ref 114), (1, .int (nI 1))], [], M11)
              refine Wn.run (tab := tb_m_restore) rfl 1 (c' := (95, [(2, .int (nI 6)), (0, .ref 114), (1, .int (nI 1))], [.int (nI 1)], M11)) (o := []) rfl trivial ?_
              exact Wn.zret rfl (Or.inr rfl) ⟨rfl, hk13, by rw [h131, h116]; exact hk15, by rw [h132, h119]; exact hk17, hF19⟩
            · show Wn _ 149 _ (66, [(2, .int (nI y)), (0, .ref 114), (1, .int (nI 1))], [], N)
              have h2 := mt (n_le rfl rfl (by omega) (by omega)).mpr h2
              refine Wn.run (tab := tb_m_restore) rfl 12 (c' := (83, [(2, .int (nI y)), (0, .ref 114), (1, .int (nI 1))], [], (mJ N 119 (vp_updL (N.2.1 119) ((nI y)).toNatClampNeg (N.2.1 132 ((((nI 6) * (nI 1)) + (nI y))).toNatClampNeg))))) (o := [shp 114 = (0, 10), shp 114 = (0, 10), aok shp 132 3 (((nI 6) * (nI 1)) + (nI y)), aok shp 119 3 (nI y)]) rfl ⟨rfl, rfl, (ak1 (n := 12) rfl rfl (n_add (n_mul rfl rfl) rfl) (by omega)), (ak1 (n := 12) rfl rfl rfl (by omega))⟩ ?_
              rw [show (N.2.1 132 ((((nI 6) * (nI 1)) + (nI y))).toNatClampNeg) = (PJ ((6 * 1) + y)) from (fr_rdxJ lp2_3 (n_add (n_mul rfl rfl) rfl) (by omega))]
              generalize hM21 : (mJ N 119 (vp_updL (N.2.1 119) ((nI y)).toNatClampNeg (PJ ((6 * 1) + y)))) = M20
              have hk22 := fI_oJ hM21 lp2_0
              have hk23 := fI_oJ hM21 lp2_1
              have hk24 := fI_oJ hM21 lp2_2
              have hk25 := fJ_ne hM21 (by decide) lp2_3
              have hk26 := fJ_upx hM21 lp2_4 (cl1 rfl (by omega))
              have hk27 := fI_oJ hM21 lp2_5
              have hF28 := fr_sJ lp2_6 hM21 (by decide)
              show Wn _ 149 _ (83, [(2, .int (nI y)), (0, .ref 114), (1, .int (nI 1))], [], M20)
              refine Wn.run (tab := tb_m_restore) rfl 2 (c' := (60, [(2, .int ((nI y) + (nI 1))), (0, .ref 114), (1, .int (nI 1))], [], M20)) (o := []) rfl trivial ?_
              rw [show ((nI y) + (nI 1)) = (nI (y + 1)) from (n_add rfl rfl)]
              exact ih_lp2 (6 - (y + 1)) (by omega) (y + 1) M20 rfl (by omega) hk22 hk23 hk24 hk25 (by rw [← cpJ_sg]; exact hk26) hk27 hF28
        exact lp2 (6 - 0) 0 N rfl (by omega) loop_0 loop_1 loop_2 loop_3 (by rw [cpG_0]; exact loop_4) loop_5 loop_6
      · show Wn _ 149 _ (34, [(2, .int (nI z)), (0, .ref 114), (1, .int (nI 1))], [], N)
        have h1 := mt (n_le rfl rfl (by omega) (by omega)).mpr h1
        refine Wn.run (tab := tb_m_restore) rfl 12 (c' := (52, [(2, .int (nI z)), (0, .ref 114), (1, .int (nI 1))], [], (mI N 116 (upd (N.1 116) ((nI z)).toNatClampNeg (N.1 131 ((((nI 359) * (nI 1)) + (nI z))).toNatClampNeg))))) (o := [shp 114 = (0, 10), shp 114 = (0, 10), aok shp 131 0 (((nI 359) * (nI 1)) + (nI z)), aok shp 116 0 (nI z)]) rfl ⟨rfl, rfl, (ak1 (n := 718) rfl rfl (n_add (n_mul rfl rfl) rfl) (by omega)), (ak1 (n := 359) rfl rfl rfl (by omega))⟩ ?_
        rw [show (N.1 131 ((((nI 359) * (nI 1)) + (nI z))).toNatClampNeg) = (P ((359 * 1) + z)) from (fr_rdx loop_1 (n_add (n_mul rfl rfl) rfl) (by omega))]
        generalize hM30 : (mI N 116 (upd (N.1 116) ((nI z)).toNatClampNeg (P ((359 * 1) + z)))) = M29
        have hk31 := fI_ne hM30 (by decide) loop_0
        have hk32 := fI_ne hM30 (by decide) loop_1
        have hk33 := fI_upx hM30 loop_2 (cl1 rfl (by omega))
        have hk34 := fJ_oI hM30 loop_3
        have hk35 := fJ_oI hM30 loop_4
        have hk36 := fI_ne hM30 (by decide) loop_5
        have hF37 := fr_sI loop_6 hM30 (by decide)
        show Wn _ 149 _ (52, [(2, .int (nI z)), (0, .ref 114), (1, .int (nI 1))], [], M29)
        refine Wn.run (tab := tb_m_restore) rfl 2 (c' := (27, [(2, .int ((nI z) + (nI 1))), (0, .ref 114), (1, .int (nI 1))], [], M29)) (o := []) rfl trivial ?_
        rw [show ((nI z) + (nI 1)) = (nI (z + 1)) from (n_add rfl rfl)]
        exact ih (359 - (z + 1)) (by omega) (z + 1) M29 rfl (by omega) hk31 hk32 (by rw [← cpI_s]; exact hk33) hk34 hk35 hk36 hF37
  exact loop (359 - 0) 0 M1 rfl (by omega) hk3 hk4 (by rw [cpG_0]; exact hk5) hk6 hk7 hk8 hF9
set_option maxRecDepth 20000 in
theorem c_m_restore_1_u (d : Nat) (M : Mm) (g : Nat → Int32) (hg : M.1 114 = g) (hk : M.1 133 1 = nI 0) : Wn (d + 1) 149 (PMn M g) (0, lv_args 0 [.ref 114, .int (nI 1)], [], M) := by
  have hF := fr_rf [114] M
  obtain ⟨K, h133⟩ : ∃ g, M.1 133 = g := ⟨_, rfl⟩
  have hk1 : K 1 = nI 0 := by rw [← h133]; exact hk
  refine Wn.run (tab := tb_m_restore) rfl 3 (c' := (5, [(0, .ref 114), (1, .int (nI 1))], [], (mI M 114 (upd (M.1 114) 0 (nI 0))))) (o := [shp 114 = (0, 10)]) rfl rfl ?_
  generalize hM2 : (mI M 114 (upd (M.1 114) 0 (nI 0))) = M1
  have hk3 := fI_up hM2 hg
  have hk4 := fI_ne hM2 (by decide) h133
  have hF5 := fr_sI hF hM2 (by decide)
  show Wn _ 149 _ (5, [(0, .ref 114), (1, .int (nI 1))], [], M1)
  refine Wn.run (tab := tb_m_restore) rfl 3 (c' := (8, [(0, .ref 114), (1, .int (nI 1))], [.int (nI 1), .int (nI 0), .int (nI 1)], M1)) (o := []) rfl trivial ?_
  refine Wn.callS (n := 3) (ix := 194) (fun r0 M0 => r0 = some (.int (b2 (0 ≤ 1 ∧ 1 ≤ 1))) ∧ M1 = M0) [.int (nI 1), .int (nI 0), .int (nI 1)] [] rfl rfl rfl (Nat.le_of_ble_eq_true rfl) (Nat.le_of_ble_eq_true rfl) (w_m_isInN _ 1 0 1 (by omega) (by omega) (by omega) M1 _ ⟨rfl, rfl⟩) ?_
  rintro _ _ ⟨rfl, rfl⟩
  show Wn _ 149 _ (11, [(0, .ref 114), (1, .int (nI 1))], [.int (b2 (0 ≤ 1 ∧ 1 ≤ 1))], M1)
  refine Wn.run (tab := tb_m_restore) rfl 1 (c' := (if (b2 (0 ≤ 1 ∧ 1 ≤ 1)) = 0 then 23 else 14, [(0, .ref 114), (1, .int (nI 1))], [], M1)) (o := []) rfl trivial ?_
  rw [if_neg (b2_n0.mpr (by decide))]
  show Wn _ 149 _ (14, [(0, .ref 114), (1, .int (nI 1))], [], M1)
  refine Wn.run (tab := tb_m_restore) rfl 5 (c' := (if ¬ (M1.1 133 1) = 0 then 25 else 23, [(0, .ref 114), (1, .int (nI 1))], [], M1)) (o := [shp 114 = (0, 10), aok shp 133 2 (nI 1)]) rfl ⟨rfl, ⟨rfl, vp_in_nI (by decide) (by decide)⟩⟩ ?_
  rw [if_neg (by rw [show (M1.1 133 1) = (nI 0) from (fr_eq hk4 (show K 1 = (nI 0) from hk1))]; decide)]
  show Wn _ 149 _ (23, [(0, .ref 114), (1, .int (nI 1))], [], M1)
  refine Wn.run (tab := tb_m_restore) rfl 1 (c' := (24, [(0, .ref 114), (1, .int (nI 1))], [.int (nI 0)], M1)) (o := []) rfl trivial ?_
  exact Wn.zret rfl (Or.inl rfl) ⟨rfl, hk3, by rw [← hM2]; rfl, hF5⟩
set_option maxRecDepth 20000 in
theorem c_m_image_no (d : Nat) (M : Mm) (g : Nat → Int32) (hg : M.1 114 = g) (k : Int32) (hk : ¬ ((nI 0).toInt ≤ k.toInt ∧ k.toInt ≤ (nI 1).toInt)) : Wn (d + 1) 148 (PMn M g) (0, lv_args 0 [.ref 114, .int k], [], M) := by
  have hF := fr_rf [114] M
  refine Wn.run (tab := tb_m_image) rfl 3 (c' := (5, [(0, .ref 114), (1, .int k)], [], (mI M 114 (upd (M.1 114) 0 (nI 0))))) (o := [shp 114 = (0, 10)]) rfl rfl ?_
  generalize hM2 : (mI M 114 (upd (M.1 114) 0 (nI 0))) = M1
  have hk3 := fI_up hM2 hg
  have hF4 := fr_sI hF hM2 (by decide)
  show Wn _ 148 _ (5, [(0, .ref 114), (1, .int k)], [], M1)
  refine Wn.run (tab := tb_m_image) rfl 3 (c' := (8, [(0, .ref 114), (1, .int k)], [.int (nI 1), .int (nI 0), .int k], M1)) (o := []) rfl trivial ?_
  refine Wn.callS (n := 3) (ix := 194) (fun r0 M0 => r0 = some (.int (b2 ((nI 0).toInt ≤ k.toInt ∧ k.toInt ≤ (nI 1).toInt))) ∧ M1 = M0) [.int k, .int (nI 0), .int (nI 1)] [] rfl rfl rfl (Nat.le_of_ble_eq_true rfl) (Nat.le_of_ble_eq_true rfl) (w_m_isInT _ k (nI 0) (nI 1) M1 _ ⟨rfl, rfl⟩) ?_
  rintro _ _ ⟨rfl, rfl⟩
  show Wn _ 148 _ (11, [(0, .ref 114), (1, .int k)], [.int (b2 ((nI 0).toInt ≤ k.toInt ∧ k.toInt ≤ (nI 1).toInt))], M1)
  refine Wn.run (tab := tb_m_image) rfl 1 (c' := (if ¬ (b2 ((nI 0).toInt ≤ k.toInt ∧ k.toInt ≤ (nI 1).toInt)) = 0 then 16 else 14, [(0, .ref 114), (1, .int k)], [], M1)) (o := []) rfl trivial ?_
  rw [if_neg (fun q9 => q9 (b2_e0.mpr hk))]
  show Wn _ 148 _ (14, [(0, .ref 114), (1, .int k)], [], M1)
  refine Wn.run (tab := tb_m_image) rfl 1 (c' := (15, [(0, .ref 114), (1, .int k)], [.int (nI 0)], M1)) (o := []) rfl trivial ?_
  exact Wn.zret rfl (Or.inl rfl) ⟨rfl, hk3, by rw [← hM2]; rfl, hF4⟩
set_option maxRecDepth 20000 in
theorem c_m_restore_no (d : Nat) (M : Mm) (g : Nat → Int32) (hg : M.1 114 = g) (k : Int32) (hk : ¬ ((nI 0).toInt ≤ k.toInt ∧ k.toInt ≤ (nI 1).toInt)) : Wn (d + 1) 149 (PMn M g) (0, lv_args 0 [.ref 114, .int k], [], M) := by
  have hF := fr_rf [114] M
  refine Wn.run (tab := tb_m_restore) rfl 3 (c' := (5, [(0, .ref 114), (1, .int k)], [], (mI M 114 (upd (M.1 114) 0 (nI 0))))) (o := [shp 114 = (0, 10)]) rfl rfl ?_
  generalize hM2 : (mI M 114 (upd (M.1 114) 0 (nI 0))) = M1
  have hk3 := fI_up hM2 hg
  have hF4 := fr_sI hF hM2 (by decide)
  show Wn _ 149 _ (5, [(0, .ref 114), (1, .int k)], [], M1)
  refine Wn.run (tab := tb_m_restore) rfl 3 (c' := (8, [(0, .ref 114), (1, .int k)], [.int (nI 1), .int (nI 0), .int k], M1)) (o := []) rfl trivial ?_
  refine Wn.callS (n := 3) (ix := 194) (fun r0 M0 => r0 = some (.int (b2 ((nI 0).toInt ≤ k.toInt ∧ k.toInt ≤ (nI 1).toInt))) ∧ M1 = M0) [.int k, .int (nI 0), .int (nI 1)] [] rfl rfl rfl (Nat.le_of_ble_eq_true rfl) (Nat.le_of_ble_eq_true rfl) (w_m_isInT _ k (nI 0) (nI 1) M1 _ ⟨rfl, rfl⟩) ?_
  rintro _ _ ⟨rfl, rfl⟩
  show Wn _ 149 _ (11, [(0, .ref 114), (1, .int k)], [.int (b2 ((nI 0).toInt ≤ k.toInt ∧ k.toInt ≤ (nI 1).toInt))], M1)
  refine Wn.run (tab := tb_m_restore) rfl 1 (c' := (if (b2 ((nI 0).toInt ≤ k.toInt ∧ k.toInt ≤ (nI 1).toInt)) = 0 then 23 else 14, [(0, .ref 114), (1, .int k)], [], M1)) (o := []) rfl trivial ?_
  rw [if_pos (b2_e0.mpr hk)]
  show Wn _ 149 _ (23, [(0, .ref 114), (1, .int k)], [], M1)
  refine Wn.run (tab := tb_m_restore) rfl 1 (c' := (24, [(0, .ref 114), (1, .int k)], [.int (nI 0)], M1)) (o := []) rfl trivial ?_
  exact Wn.zret rfl (Or.inl rfl) ⟨rfl, hk3, by rw [← hM2]; rfl, hF4⟩
