/-! The reference's lake, behind the lines: the state of a told lake. -/
def e1S (δ a : Nat → Nat) (z : Nat) : Nat → Nat := fun k => if k < z then (if k < 90 then δ k else 0) else a k
def e2S (a : Nat → Nat) (z : Nat) : Nat → Nat := fun k => if 96 ≤ k ∧ k < 96 + z then a (k - 88) else a k
def e3S (a : Nat → Nat) (z : Nat) : Nat → Nat := fun k => if 160 ≤ k ∧ k < 160 + z then a (k - 88) else if 166 ≤ k ∧ k < 166 + z then a (k - 82) else a k
def cpJ (J : Nat → Int64) (z : Nat) : Nat → Int64 := fun q => if q < z then J (6 + q) else J q
/-- the state that a told lake begins with -/
def lkS (δ : Nat → Nat) : Nat → Nat := e3S (e2S (fun k => if k < 90 then δ k else 0) 64) 6
theorem e1S_0 (δ a : Nat → Nat) : e1S δ a 0 = a := by funext k; unfold e1S; rw [if_neg (by omega)]
theorem e1S_s (δ a : Nat → Nat) (z v : Nat) (hv : v = if z < 90 then δ z else 0) : su (e1S δ a z) z v = e1S δ a (z + 1) := by
  funext k; unfold su e1S
  by_cases e : k = z
  · rw [if_pos e, if_pos (by omega), e]; exact hv
  · rw [if_neg e]
    by_cases h2 : k < z
    · rw [if_pos h2, if_pos (show k < z + 1 by omega)]
    · rw [if_neg h2, if_neg (show ¬ k < z + 1 by omega)]
theorem e2S_0 (a : Nat → Nat) : e2S a 0 = a := by funext k; unfold e2S; rw [if_neg (by omega)]
theorem e2S_s (a : Nat → Nat) (z : Nat) (hz : z < 64) : su (e2S a z) (96 + z) (e2S a z (8 + z)) = e2S a (z + 1) := by
  have e : e2S a z (8 + z) = a (8 + z) := by unfold e2S; rw [if_neg (by omega)]
  rw [e]
  funext k; unfold su e2S
  by_cases e : k = 96 + z
  · rw [if_pos e, if_pos (by omega), e]; congr 1; omega
  · rw [if_neg e]
    by_cases h2 : 96 ≤ k ∧ k < 96 + z
    · rw [if_pos h2, if_pos (show 96 ≤ k ∧ k < 96 + (z + 1) by omega)]
    · rw [if_neg h2, if_neg (show ¬ (96 ≤ k ∧ k < 96 + (z + 1)) by omega)]
theorem e3S_0 (a : Nat → Nat) : e3S a 0 = a := by funext k; unfold e3S; rw [if_neg (by omega), if_neg (by omega)]
theorem e3S_a (a : Nat → Nat) (z : Nat) (hz : z < 6) : e3S a z (72 + z) = a (72 + z) := by unfold e3S; rw [if_neg (by omega), if_neg (by omega)]
theorem e3S_b (a : Nat → Nat) (z : Nat) (hz : z < 6) : e3S a z (84 + z) = a (84 + z) := by unfold e3S; rw [if_neg (by omega), if_neg (by omega)]
theorem e3S_s (a : Nat → Nat) (z : Nat) (hz : z < 6) : su (su (e3S a z) (160 + z) (e3S a z (72 + z))) (166 + z) (e3S a z (84 + z)) = e3S a (z + 1) := by
  rw [e3S_a a z hz, e3S_b a z hz]
  funext k; unfold su e3S
  by_cases e : k = 166 + z
  · rw [if_pos e, if_neg (by omega), if_pos (by omega), e]; congr 1; omega
  · rw [if_neg e]
    by_cases e2 : k = 160 + z
    · rw [if_pos e2, if_pos (by omega), e2]; congr 1; omega
    · rw [if_neg e2]
      by_cases h2 : 160 ≤ k ∧ k < 160 + z
      · rw [if_pos h2, if_pos (show 160 ≤ k ∧ k < 160 + (z + 1) by omega)]
      · rw [if_neg h2, if_neg (show ¬ (160 ≤ k ∧ k < 160 + (z + 1)) by omega)]
        by_cases h3 : 166 ≤ k ∧ k < 166 + z
        · rw [if_pos h3, if_pos (show 166 ≤ k ∧ k < 166 + (z + 1) by omega)]
        · rw [if_neg h3, if_neg (show ¬ (166 ≤ k ∧ k < 166 + (z + 1)) by omega)]
theorem cpJ_0 (J : Nat → Int64) : cpJ J 0 = J := by funext k; unfold cpJ; rw [if_neg (by omega)]
theorem cpJ_s (J : Nat → Int64) (z : Nat) (hz : z < 6) : vp_updL (cpJ J z) z (cpJ J z (6 + z)) = cpJ J (z + 1) := by
  have e : cpJ J z (6 + z) = J (6 + z) := by unfold cpJ; rw [if_neg (by omega)]
  rw [e]
  funext k
  by_cases e : k = z
  · rw [e, pk_uLs]; unfold cpJ; rw [if_pos (by omega)]
  · rw [pk_uLn e]; unfold cpJ
    by_cases h2 : k < z
    · rw [if_pos h2, if_pos (show k < z + 1 by omega)]
    · rw [if_neg h2, if_neg (show ¬ k < z + 1 by omega)]
def PLk (M0 : Mm) (g : Nat → Int32) (J : Nat → Int64) (δ : Nat → Nat) (r : Int32) : Po := fun r0 M' => r0 = some (.int r) ∧ M'.1 114 = upd g 25 (nI 0) ∧ (∀ k, k < 359 → M'.1 116 k = nI (lkS δ k)) ∧ M'.2.1 119 = cpJ J 6 ∧ Fr [114, 116, 119] M0 M'
set_option maxRecDepth 20000 in
theorem c_m_lake_83 (d : Nat) (M : Mm) (g : Nat → Int32) (hg : M.1 114 = g) (n : Nat) (h19 : g 19 = nI n) (δ : Nat → Nat) (hh : ∀ k, k < 90 → M.1 117 k = nI (δ k)) (J : Nat → Int64) (hJ : M.2.1 119 = J) : Wn (d + 0) 72 (PLk M g J δ (nI n)) (83, [(0, .ref 114)], [], M) := by
  have hF := fr_rf [114, 116, 119] M
  obtain ⟨a, ha0⟩ := Row_any (f := M.1 116)
  have ha : ∀ k, k < 359 → M.1 116 k = nI (a k) := fun k _ => ha0 k
  refine Wn.run (tab := tb_m_lake) rfl 2 (c' := (85, [(1, .int (nI 0)), (0, .ref 114)], [], M)) (o := []) rfl trivial ?_
  have loop : ∀ (m z : Nat) (N : Mm), 359 - z = m → z ≤ 359 → (N.1 114 = g) → (∀ k, k < 90 → N.1 117 k = nI (δ k)) → (∀ k, k < 359 → N.1 116 k = nI ((e1S δ a z) k)) → (N.2.1 119 = J) → (Fr [114, 116, 119] M N) → Wn (d + 0) 72 (PLk M g J δ (nI n)) (85, [(1, .int (nI z)), (0, .ref 114)], [], N) := by
    intro m
    induction m using Nat.strongRecOn with
    | _ m ih =>
      intro z N hm hz loop_0 loop_1 loop_2 loop_3 loop_4
      refine Wn.run (tab := tb_m_lake) rfl 3 (c' := (if (nI 359) ≤ (nI z) then 120 else 92, [(1, .int (nI z)), (0, .ref 114)], [], N)) (o := []) rfl trivial ?_
      refine Wn.br (fun h1 => ?_) (fun h1 => ?_)
      · show Wn _ 72 _ (120, [(1, .int (nI z)), (0, .ref 114)], [], N)
        have h1 := (n_le rfl rfl (by omega) (by omega)).mp h1
        have e9 : z = 359 := by omega
        subst e9
        have hz9 : ∀ k, k < 359 → N.1 116 k = nI ((fun k => if k < 90 then δ k else 0 : Nat → Nat) k) := row_cg loop_2 (fun k hk => by unfold e1S; rw [if_pos (by omega)])
        refine Wn.run (tab := tb_m_lake) rfl 2 (c' := (122, [(1, .int (nI 0)), (0, .ref 114)], [], N)) (o := []) rfl trivial ?_
        have lp2 : ∀ (m x : Nat) (N : Mm), 64 - x = m → x ≤ 64 → (N.1 114 = g) → (∀ k, k < 90 → N.1 117 k = nI (δ k)) → (∀ k, k < 359 → N.1 116 k = nI ((e2S (fun k => if k < 90 then δ k else 0) x) k)) → (N.2.1 119 = J) → (Fr [114, 116, 119] M N) → Wn (d + 0) 72 (PLk M g J δ (nI n)) (122, [(1, .int (nI x)), (0, .ref 114)], [], N) := by
          intro m
          induction m using Nat.strongRecOn with
          | _ m_lp2 ih_lp2 =>
            intro x N hm_lp2 hx lp2_0 lp2_1 lp2_2 lp2_3 lp2_4
            refine Wn.run (tab := tb_m_lake) rfl 3 (c' := (if (nI 64) ≤ (nI x) then 152 else 128, [(1, .int (nI x)), (0, .ref 114)], [], N)) (o := []) rfl trivial ?_
            refine Wn.br (fun h2 => ?_) (fun h2 => ?_)
            · show Wn _ 72 _ (152, [(1, .int (nI x)), (0, .ref 114)], [], N)
              have h2 := (n_le rfl rfl (by omega) (by omega)).mp h2
              have e9 : x = 64 := by omega
              subst e9
              refine Wn.run (tab := tb_m_lake) rfl 2 (c' := (154, [(1, .int (nI 0)), (0, .ref 114)], [], N)) (o := []) rfl trivial ?_
              have lp3 : ∀ (m y : Nat) (N : Mm), 6 - y = m → y ≤ 6 → (N.1 114 = g) → (∀ k, k < 90 → N.1 117 k = nI (δ k)) → (∀ k, k < 359 → N.1 116 k = nI ((e3S (e2S (fun k => if k < 90 then δ k else 0) 64) y) k)) → (N.2.1 119 = (cpJ J y)) → (Fr [114, 116, 119] M N) → Wn (d + 0) 72 (PLk M g J δ (nI n)) (154, [(1, .int (nI y)), (0, .ref 114)], [], N) := by
                intro m
                induction m using Nat.strongRecOn with
                | _ m_lp3 ih_lp3 =>
                  intro y N hm_lp3 hy lp3_0 lp3_1 lp3_2 lp3_3 lp3_4
                  refine Wn.run (tab := tb_m_lake) rfl 3 (c' := (if (nI 6) ≤ (nI y) then 219 else 160, [(1, .int (nI y)), (0, .ref 114)], [], N)) (o := []) rfl trivial ?_
                  refine Wn.br (fun h3 => ?_) (fun h3 => ?_)
                  · show Wn _ 72 _ (219, [(1, .int (nI y)), (0, .ref 114)], [], N)
                    have h3 := (n_le rfl rfl (by omega) (by omega)).mp h3
                    have e9 : y = 6 := by omega
                    subst e9
                    refine Wn.run (tab := tb_m_lake) rfl 3 (c' := (224, [(1, .int (nI 6)), (0, .ref 114)], [], (mI N 114 (upd (N.1 114) 25 (nI 0))))) (o := [shp 114 = (0, 10)]) rfl rfl ?_
                    generalize hM2 : (mI N 114 (upd (N.1 114) 25 (nI 0))) = M1
                    have hk3 := fI_up hM2 lp3_0
                    have hk4 := row_ne hM2 (by decide) lp3_1
                    have hk5 := row_ne hM2 (by decide) lp3_2
                    have hk6 := fJ_oI hM2 lp3_3
                    have hF7 := fr_sI lp3_4 hM2 (by decide)
                    show Wn _ 72 _ (224, [(1, .int (nI 6)), (0, .ref 114)], [], M1)
                    refine Wn.run (tab := tb_m_lake) rfl 2 (c' := (228, [(1, .int (nI 6)), (0, .ref 114)], [.int (M1.1 114 19)], M1)) (o := [shp 114 = (0, 10)]) rfl rfl ?_
                    rw [show (M1.1 114 19) = (nI n) from (fr_eq hk3 (show (upd g 25 (nI 0)) 19 = (nI n) from ((pk_un (by decide)).trans h19)))]
                    exact Wn.iret rfl ⟨rfl, hk3, hk5, hk6, hF7⟩
                  · show Wn _ 72 _ (160, [(1, .int (nI y)), (0, .ref 114)], [], N)
                    have h3 := mt (n_le rfl rfl (by omega) (by omega)).mpr h3
                    refine Wn.run (tab := tb_m_lake) rfl 10 (c' := (175, [(1, .int (nI y)), (0, .ref 114)], [], (mJ N 119 (vp_updL (N.2.1 119) ((nI y)).toNatClampNeg (N.2.1 119 (((nI 6) + (nI y))).toNatClampNeg))))) (o := [shp 114 = (0, 10), shp 114 = (0, 10), aok shp 119 3 ((nI 6) + (nI y)), aok shp 119 3 (nI y)]) rfl ⟨rfl, rfl, (ak1 (n := 12) rfl rfl (n_add rfl rfl) (by omega)), (ak1 (n := 12) rfl rfl rfl (by omega))⟩ ?_
                    rw [show (N.2.1 119 (((nI 6) + (nI y))).toNatClampNeg) = ((cpJ J y) (6 + y)) from (fr_rdxJ lp3_3 (n_add rfl rfl) (by omega))]
                    generalize hM9 : (mJ N 119 (vp_updL (N.2.1 119) ((nI y)).toNatClampNeg ((cpJ J y) (6 + y)))) = M8
                    have hk10 := fI_oJ hM9 lp3_0
                    have hk11 := row_oJ hM9 lp3_1
                    have hk12 := row_oJ hM9 lp3_2
                    have hk13 := fJ_upx hM9 lp3_3 (cl1 rfl (by omega))
                    have hF14 := fr_sJ lp3_4 hM9 (by decide)
                    show Wn _ 72 _ (175, [(1, .int (nI y)), (0, .ref 114)], [], M8)
                    refine Wn.run (tab := tb_m_lake) rfl 12 (c' := (194, [(1, .int (nI y)), (0, .ref 114)], [], (mI M8 116 (upd (M8.1 116) (((nI 160) + (nI y))).toNatClampNeg (M8.1 116 (((nI 72) + (nI y))).toNatClampNeg))))) (o := [shp 114 = (0, 10), shp 114 = (0, 10), aok shp 116 0 ((nI 72) + (nI y)), aok shp 116 0 ((nI 160) + (nI y))]) rfl ⟨rfl, rfl, (ak1 (n := 359) rfl rfl (n_add rfl rfl) (by omega)), (ak1 (n := 359) rfl rfl (n_add rfl rfl) (by omega))⟩ ?_
                    rw [show (M8.1 116 (((nI 72) + (nI y))).toNatClampNeg) = (nI ((e3S (e2S (fun k => if k < 90 then δ k else 0) 64) y) (72 + y))) from (rd1 hk12 (n_add rfl rfl) (by omega) (by omega))]
                    generalize hM16 : (mI M8 116 (upd (M8.1 116) (((nI 160) + (nI y))).toNatClampNeg (nI ((e3S (e2S (fun k => if k < 90 then δ k else 0) 64) y) (72 + y))))) = M15
                    have hk17 := fI_ne hM16 (by decide) hk10
                    have hk18 := row_ne hM16 (by decide) hk11
                    have hk19 : ∀ k, k < 359 → M15.1 116 k = nI ((su (e3S (e2S (fun k => if k < 90 then δ k else 0) 64) y) (160 + y) ((e3S (e2S (fun k => if k < 90 then δ k else 0) 64) y) (72 + y))) k) := row_up hM16 hk12 (cl1 (n_add rfl rfl) (by omega)) rfl
                    have hk20 := fJ_oI hM16 hk13
                    have hF21 := fr_sI hF14 hM16 (by decide)
                    show Wn _ 72 _ (194, [(1, .int (nI y)), (0, .ref 114)], [], M15)
                    refine Wn.run (tab := tb_m_lake) rfl 12 (c' := (213, [(1, .int (nI y)), (0, .ref 114)], [], (mI M15 116 (upd (M15.1 116) (((nI 166) + (nI y))).toNatClampNeg (M15.1 116 (((nI 84) + (nI y))).toNatClampNeg))))) (o := [shp 114 = (0, 10), shp 114 = (0, 10), aok shp 116 0 ((nI 84) + (nI y)), aok shp 116 0 ((nI 166) + (nI y))]) rfl ⟨rfl, rfl, (ak1 (n := 359) rfl rfl (n_add rfl rfl) (by omega)), (ak1 (n := 359) rfl rfl (n_add rfl rfl) (by omega))⟩ ?_
                    rw [show (M15.1 116 (((nI 84) + (nI y))).toNatClampNeg) = (nI ((e3S (e2S (fun k => if k < 90 then δ k else 0) 64) y) (84 + y))) from (r_ne (rd1 hk19 (n_add rfl rfl) (by omega) (by omega)) (by omega))]
                    generalize hM23 : (mI M15 116 (upd (M15.1 116) (((nI 166) + (nI y))).toNatClampNeg (nI ((e3S (e2S (fun k => if k < 90 then δ k else 0) 64) y) (84 + y))))) = M22
                    have hk24 := fI_ne hM23 (by decide) hk17
                    have hk25 := row_ne hM23 (by decide) hk18
                    have hk26 : ∀ k, k < 359 → M22.1 116 k = nI ((su (su (e3S (e2S (fun k => if k < 90 then δ k else 0) 64) y) (160 + y) ((e3S (e2S (fun k => if k < 90 then δ k else 0) 64) y) (72 + y))) (166 + y) ((e3S (e2S (fun k => if k < 90 then δ k else 0) 64) y) (84 + y))) k) := row_up hM23 hk19 (cl1 (n_add rfl rfl) (by omega)) rfl
                    have hk27 := fJ_oI hM23 hk20
                    have hF28 := fr_sI hF21 hM23 (by decide)
                    show Wn _ 72 _ (213, [(1, .int (nI y)), (0, .ref 114)], [], M22)
                    refine Wn.run (tab := tb_m_lake) rfl 2 (c' := (154, [(1, .int ((nI y) + (nI 1))), (0, .ref 114)], [], M22)) (o := []) rfl trivial ?_
                    rw [show ((nI y) + (nI 1)) = (nI (y + 1)) from (n_add rfl rfl)]
                    have e3 := e3S_s (e2S (fun k => if k < 90 then δ k else 0) 64) y (by omega)
                    have e4 := cpJ_s J y (by omega)
                    exact ih_lp3 (6 - (y + 1)) (by omega) (y + 1) M22 rfl (by omega) hk24 hk25 (by rw [← e3]; exact hk26) (by rw [← e4]; exact hk27) hF28
              exact lp3 (6 - 0) 0 N rfl (by omega) lp2_0 lp2_1 (by rw [e3S_0]; exact lp2_2) (by rw [cpJ_0]; exact lp2_3) lp2_4
            · show Wn _ 72 _ (128, [(1, .int (nI x)), (0, .ref 114)], [], N)
              have h2 := mt (n_le rfl rfl (by omega) (by omega)).mpr h2
              refine Wn.run (tab := tb_m_lake) rfl 12 (c' := (146, [(1, .int (nI x)), (0, .ref 114)], [], (mI N 116 (upd (N.1 116) (((nI 96) + (nI x))).toNatClampNeg (N.1 116 (((nI 8) + (nI x))).toNatClampNeg))))) (o := [shp 114 = (0, 10), shp 114 = (0, 10), aok shp 116 0 ((nI 8) + (nI x)), aok shp 116 0 ((nI 96) + (nI x))]) rfl ⟨rfl, rfl, (ak1 (n := 359) rfl rfl (n_add rfl rfl) (by omega)), (ak1 (n := 359) rfl rfl (n_add rfl rfl) (by omega))⟩ ?_
              rw [show (N.1 116 (((nI 8) + (nI x))).toNatClampNeg) = (nI ((e2S (fun k => if k < 90 then δ k else 0) x) (8 + x))) from (rd1 lp2_2 (n_add rfl rfl) (by omega) (by omega))]
              generalize hM30 : (mI N 116 (upd (N.1 116) (((nI 96) + (nI x))).toNatClampNeg (nI ((e2S (fun k => if k < 90 then δ k else 0) x) (8 + x))))) = M29
              have hk31 := fI_ne hM30 (by decide) lp2_0
              have hk32 := row_ne hM30 (by decide) lp2_1
              have hk33 : ∀ k, k < 359 → M29.1 116 k = nI ((su (e2S (fun k => if k < 90 then δ k else 0) x) (96 + x) ((e2S (fun k => if k < 90 then δ k else 0) x) (8 + x))) k) := row_up hM30 lp2_2 (cl1 (n_add rfl rfl) (by omega)) rfl
              have hk34 := fJ_oI hM30 lp2_3
              have hF35 := fr_sI lp2_4 hM30 (by decide)
              show Wn _ 72 _ (146, [(1, .int (nI x)), (0, .ref 114)], [], M29)
              refine Wn.run (tab := tb_m_lake) rfl 2 (c' := (122, [(1, .int ((nI x) + (nI 1))), (0, .ref 114)], [], M29)) (o := []) rfl trivial ?_
              rw [show ((nI x) + (nI 1)) = (nI (x + 1)) from (n_add rfl rfl)]
              have e3 := e2S_s (fun k => if k < 90 then δ k else 0) x (by omega)
              exact ih_lp2 (64 - (x + 1)) (by omega) (x + 1) M29 rfl (by omega) hk31 hk32 (by rw [← e3]; exact hk33) hk34 hF35
        exact lp2 (64 - 0) 0 N rfl (by omega) loop_0 loop_1 (by rw [e2S_0]; exact hz9) loop_3 loop_4
      · show Wn _ 72 _ (92, [(1, .int (nI z)), (0, .ref 114)], [], N)
        have h1 := mt (n_le rfl rfl (by omega) (by omega)).mpr h1
        refine Wn.run (tab := tb_m_lake) rfl 6 (c' := (if (nI 90) ≤ (nI z) then 112 else 103, [(1, .int (nI z)), (0, .ref 114)], [.int (nI z), .ref 116], N)) (o := [shp 114 = (0, 10)]) rfl rfl ?_
        refine Wn.br (fun h4 => ?_) (fun h4 => ?_)
        · show Wn _ 72 _ (112, [(1, .int (nI z)), (0, .ref 114)], [.int (nI z), .ref 116], N)
          have h4 := (n_le rfl rfl (by omega) (by omega)).mp h4
          refine Wn.run (tab := tb_m_lake) rfl 2 (c' := (114, [(1, .int (nI z)), (0, .ref 114)], [], (mI N 116 (upd (N.1 116) ((nI z)).toNatClampNeg (nI 0))))) (o := [aok shp 116 0 (nI z)]) rfl (ak1 (n := 359) rfl rfl rfl (by omega)) ?_
          generalize hM37 : (mI N 116 (upd (N.1 116) ((nI z)).toNatClampNeg (nI 0))) = M36
          have hk38 := fI_ne hM37 (by decide) loop_0
          have hk39 := row_ne hM37 (by decide) loop_1
          have hk40 : ∀ k, k < 359 → M36.1 116 k = nI ((su (e1S δ a z) z 0) k) := row_up hM37 loop_2 (cl1 rfl (by omega)) rfl
          have hk41 := fJ_oI hM37 loop_3
          have hF42 := fr_sI loop_4 hM37 (by decide)
          show Wn _ 72 _ (114, [(1, .int (nI z)), (0, .ref 114)], [], M36)
          refine Wn.run (tab := tb_m_lake) rfl 2 (c' := (85, [(1, .int ((nI z) + (nI 1))), (0, .ref 114)], [], M36)) (o := []) rfl trivial ?_
          rw [show ((nI z) + (nI 1)) = (nI (z + 1)) from (n_add rfl rfl)]
          have e3 := e1S_s δ a z 0 (by rw [if_neg (by omega)])
          exact ih (359 - (z + 1)) (by omega) (z + 1) M36 rfl (by omega) hk38 hk39 (by rw [← e3]; exact hk40) hk41 hF42
        · show Wn _ 72 _ (103, [(1, .int (nI z)), (0, .ref 114)], [.int (nI z), .ref 116], N)
          have h4 := mt (n_le rfl rfl (by omega) (by omega)).mpr h4
          refine Wn.run (tab := tb_m_lake) rfl 6 (c' := (114, [(1, .int (nI z)), (0, .ref 114)], [], (mI N 116 (upd (N.1 116) ((nI z)).toNatClampNeg (N.1 117 ((nI z)).toNatClampNeg))))) (o := [shp 114 = (0, 10), aok shp 117 0 (nI z), aok shp 116 0 (nI z)]) rfl ⟨rfl, (ak1 (n := 90) rfl rfl rfl (by omega)), (ak1 (n := 359) rfl rfl rfl (by omega))⟩ ?_
          rw [show (N.1 117 ((nI z)).toNatClampNeg) = (nI (δ z)) from (rd1 loop_1 rfl (by omega) (by omega))]
          generalize hM44 : (mI N 116 (upd (N.1 116) ((nI z)).toNatClampNeg (nI (δ z)))) = M43
          have hk45 := fI_ne hM44 (by decide) loop_0
          have hk46 := row_ne hM44 (by decide) loop_1
          have hk47 : ∀ k, k < 359 → M43.1 116 k = nI ((su (e1S δ a z) z (δ z)) k) := row_up hM44 loop_2 (cl1 rfl (by omega)) rfl
          have hk48 := fJ_oI hM44 loop_3
          have hF49 := fr_sI loop_4 hM44 (by decide)
          show Wn _ 72 _ (114, [(1, .int (nI z)), (0, .ref 114)], [], M43)
          refine Wn.run (tab := tb_m_lake) rfl 2 (c' := (85, [(1, .int ((nI z) + (nI 1))), (0, .ref 114)], [], M43)) (o := []) rfl trivial ?_
          rw [show ((nI z) + (nI 1)) = (nI (z + 1)) from (n_add rfl rfl)]
          have e3 := e1S_s δ a z (δ z) (by rw [if_pos (by omega)])
          exact ih (359 - (z + 1)) (by omega) (z + 1) M43 rfl (by omega) hk45 hk46 (by rw [← e3]; exact hk47) hk48 hF49
  exact loop (359 - 0) 0 M rfl (by omega) hg hh (by rw [e1S_0]; exact ha) hJ hF
