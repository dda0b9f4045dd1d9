/-! The reference's draft of a lake. -/
def fzP (δ : Nat → Nat) (w h i z : Nat) : Nat → Nat := fun k => if 8 ≤ k ∧ k < 8 + z then (if (k - 8) % 8 < w ∧ (k - 8) / 8 < h then i else 0) else δ k
abbrev fz (δ : Nat → Nat) (w h i : Nat) : Nat → Nat := fzP (su (su δ 0 w) 1 h) w h i 64
theorem fzP_0 (δ : Nat → Nat) (w h i : Nat) : fzP δ w h i 0 = δ := by funext k; unfold fzP; rw [if_neg (by omega)]
theorem fzP_s (δ : Nat → Nat) (w h i z : Nat) : su (fzP δ w h i z) (8 + z) (if z % 8 < w ∧ z / 8 < h then i else 0) = fzP δ w h i (z + 1) := by
  funext k
  unfold su fzP
  by_cases e : k = 8 + z
  · subst e
    rw [if_pos rfl, if_pos (show 8 ≤ 8 + z ∧ 8 + z < 8 + (z + 1) by omega), show 8 + z - 8 = z by omega]
  · rw [if_neg e]
    by_cases h2 : 8 ≤ k ∧ k < 8 + z
    · rw [if_pos h2, if_pos (show 8 ≤ k ∧ k < 8 + (z + 1) by omega)]
    · rw [if_neg h2, if_neg (show ¬ (8 ≤ k ∧ k < 8 + (z + 1)) by omega)]
def zrN (δ : Nat → Nat) (z : Nat) : Nat → Nat := fun k => if k < z then 0 else δ k
theorem zrN_s (δ : Nat → Nat) (z : Nat) : su (zrN δ z) z 0 = zrN δ (z + 1) := by
  funext k
  unfold su zrN
  by_cases e : k = z
  · rw [if_pos e, if_pos (by omega)]
  · rw [if_neg e]
    by_cases h2 : k < z
    · rw [if_pos h2, if_pos (by omega)]
    · rw [if_neg h2, if_neg (by omega)]
/-- a lake without a text -/
def dl0 : Nat → Nat := fz (su (su (su (su (su (fun _ => 0) 3 2) 4 1) 5 5) 6 3) 7 6) 5 5 5
def PH (M0 : Mm) (δ : Nat → Nat) : Po := fun r0 M' => r0 = none ∧ (∀ k, k < 90 → M'.1 117 k = nI (δ k)) ∧ Fr [117] M0 M'
theorem row_cg {f : Nat → Int32} {n : Nat} {δ ε : Nat → Nat} (h : ∀ k, k < n → f k = nI (δ k)) (e : ∀ k, k < n → δ k = ε k) : ∀ k, k < n → f k = nI (ε k) := fun k hk => by rw [h k hk, e k hk]
theorem Row_any {f : Nat → Int32} : ∃ δ : Nat → Nat, ∀ k, f k = nI (δ k) := by
  refine ⟨fun k => (f k).toUInt32.toNat, fun k => ?_⟩
  apply Int32.toBitVec_inj.mp
  apply BitVec.eq_of_toNat_eq
  show (f k).toBitVec.toNat = (BitVec.ofNat 32 (f k).toUInt32.toNat).toNat
  rw [BitVec.toNat_ofNat, Nat.mod_eq_of_lt (UInt32.toNat_lt _)]
  rfl
set_option maxRecDepth 20000 in
theorem c_m_freezes (d : Nat) (M : Mm) (δ : Nat → Nat) (hh : ∀ k, k < 90 → M.1 117 k = nI (δ k)) (w h i : Nat) (hw : w < 100) (hh9 : h < 100) (hi : i < 100) : Wn (d + 0) 53 (PH M (fz δ w h i)) (0, lv_args 0 [.ref 114, .int (nI w), .int (nI h), .int (nI i)], [], M) := by
  have hF := fr_rf [117] M
  refine Wn.run (tab := tb_m_freezes) rfl 5 (c' := (7, [(0, .ref 114), (1, .int (nI w)), (2, .int (nI h)), (3, .int (nI i))], [], (mI M 117 (upd (M.1 117) 0 (nI w))))) (o := [shp 114 = (0, 10), aok shp 117 0 (nI 0)]) rfl ⟨rfl, ⟨rfl, vp_in_nI (by decide) (by decide)⟩⟩ ?_
  generalize hM2 : (mI M 117 (upd (M.1 117) 0 (nI w))) = M1
  have hk3 : ∀ k, k < 90 → M1.1 117 k = nI ((su δ 0 w) k) := row_up hM2 hh rfl rfl
  have hF4 := fr_sI hF hM2 (by decide)
  show Wn _ 53 _ (7, [(0, .ref 114), (1, .int (nI w)), (2, .int (nI h)), (3, .int (nI i))], [], M1)
  refine Wn.run (tab := tb_m_freezes) rfl 5 (c' := (14, [(0, .ref 114), (1, .int (nI w)), (2, .int (nI h)), (3, .int (nI i))], [], (mI M1 117 (upd (M1.1 117) 1 (nI h))))) (o := [shp 114 = (0, 10), aok shp 117 0 (nI 1)]) rfl ⟨rfl, ⟨rfl, vp_in_nI (by decide) (by decide)⟩⟩ ?_
  generalize hM6 : (mI M1 117 (upd (M1.1 117) 1 (nI h))) = M5
  have hk7 : ∀ k, k < 90 → M5.1 117 k = nI ((su (su δ 0 w) 1 h) k) := row_up hM6 hk3 rfl rfl
  have hF8 := fr_sI hF4 hM6 (by decide)
  show Wn _ 53 _ (14, [(0, .ref 114), (1, .int (nI w)), (2, .int (nI h)), (3, .int (nI i))], [], M5)
  refine Wn.run (tab := tb_m_freezes) rfl 2 (c' := (17, [(4, .int (nI 0)), (0, .ref 114), (1, .int (nI w)), (2, .int (nI h)), (3, .int (nI i))], [], M5)) (o := []) rfl trivial ?_
  have loop : ∀ (m z : Nat) (N : Mm), 64 - z = m → z ≤ 64 → (∀ k, k < 90 → N.1 117 k = nI ((fzP (su (su δ 0 w) 1 h) w h i z) k)) → (Fr [117] M N) → Wn (d + 0) 53 (PH M (fz δ w h i)) (17, [(4, .int (nI z)), (0, .ref 114), (1, .int (nI w)), (2, .int (nI h)), (3, .int (nI i))], [], N) := by
    intro m
    induction m using Nat.strongRecOn with
    | _ m ih =>
      intro z N hm hz loop_0 loop_1
      refine Wn.run (tab := tb_m_freezes) rfl 3 (c' := (if (nI 64) ≤ (nI z) then 63 else 24, [(4, .int (nI z)), (0, .ref 114), (1, .int (nI w)), (2, .int (nI h)), (3, .int (nI i))], [], N)) (o := []) rfl trivial ?_
      refine Wn.br (fun h1 => ?_) (fun h1 => ?_)
      · show Wn _ 53 _ (63, [(4, .int (nI z)), (0, .ref 114), (1, .int (nI w)), (2, .int (nI h)), (3, .int (nI i))], [], N)
        have h1 := (n_le rfl rfl (by omega) (by omega)).mp h1
        have e9 : z = 64 := by omega
        rw [e9] at loop_0
        exact Wn.vret rfl ⟨rfl, loop_0, loop_1⟩
      · show Wn _ 53 _ (24, [(4, .int (nI z)), (0, .ref 114), (1, .int (nI w)), (2, .int (nI h)), (3, .int (nI i))], [], N)
        have h1 := mt (n_le rfl rfl (by omega) (by omega)).mpr h1
        refine Wn.run (tab := tb_m_freezes) rfl 10 (c' := (if (nI w) ≤ ((nI z) - (nI z) / (nI 8) * (nI 8)) then 55 else 42, [(4, .int (nI z)), (0, .ref 114), (1, .int (nI w)), (2, .int (nI h)), (3, .int (nI i))], [.int ((nI 8) + (nI z)), .ref 117], N)) (o := [shp 114 = (0, 10), ¬ (nI 8) = 0]) rfl ⟨rfl, (show ¬ (nI 8) = 0 by decide)⟩ ?_
        refine Wn.br (fun h2 => ?_) (fun h2 => ?_)
        · show Wn _ 53 _ (55, [(4, .int (nI z)), (0, .ref 114), (1, .int (nI w)), (2, .int (nI h)), (3, .int (nI i))], [.int ((nI 8) + (nI z)), .ref 117], N)
          have h2 := (n_le rfl (n_rem rfl rfl (by omega) (by omega) (by omega)) (by omega) (by omega)).mp h2
          rw [show ((nI 8) + (nI z)) = (nI (8 + z)) from (n_add rfl rfl)]
          refine Wn.run (tab := tb_m_freezes) rfl 2 (c' := (57, [(4, .int (nI z)), (0, .ref 114), (1, .int (nI w)), (2, .int (nI h)), (3, .int (nI i))], [], (mI N 117 (upd (N.1 117) ((nI (8 + z))).toNatClampNeg (nI 0))))) (o := [aok shp 117 0 (nI (8 + z))]) rfl (ak1 (n := 90) rfl rfl rfl (by omega)) ?_
          generalize hM10 : (mI N 117 (upd (N.1 117) ((nI (8 + z))).toNatClampNeg (nI 0))) = M9
          have hk11 : ∀ k, k < 90 → M9.1 117 k = nI ((su (fzP (su (su δ 0 w) 1 h) w h i z) (8 + z) 0) k) := row_up hM10 loop_0 (cl1 rfl (by omega)) rfl
          have hF12 := fr_sI loop_1 hM10 (by decide)
          show Wn _ 53 _ (57, [(4, .int (nI z)), (0, .ref 114), (1, .int (nI w)), (2, .int (nI h)), (3, .int (nI i))], [], M9)
          refine Wn.run (tab := tb_m_freezes) rfl 2 (c' := (17, [(4, .int ((nI z) + (nI 1))), (0, .ref 114), (1, .int (nI w)), (2, .int (nI h)), (3, .int (nI i))], [], M9)) (o := []) rfl trivial ?_
          rw [show ((nI z) + (nI 1)) = (nI (z + 1)) from (n_add rfl rfl)]
          have on9 : ¬ (z % 8 < w ∧ z / 8 < h) := by omega
          have e9 := fzP_s (su (su δ 0 w) 1 h) w h i z
          rw [if_neg on9] at e9
          exact ih (64 - (z + 1)) (by omega) (z + 1) M9 rfl (by omega) (by rw [← e9]; exact hk11) hF12
        · show Wn _ 53 _ (42, [(4, .int (nI z)), (0, .ref 114), (1, .int (nI w)), (2, .int (nI h)), (3, .int (nI i))], [.int ((nI 8) + (nI z)), .ref 117], N)
          have h2 := mt (n_le rfl (n_rem rfl rfl (by omega) (by omega) (by omega)) (by omega) (by omega)).mpr h2
          rw [show ((nI 8) + (nI z)) = (nI (8 + z)) from (n_add rfl rfl)]
          refine Wn.run (tab := tb_m_freezes) rfl 5 (c' := (if (nI h) ≤ ((nI z) / (nI 8)) then 55 else 51, [(4, .int (nI z)), (0, .ref 114), (1, .int (nI w)), (2, .int (nI h)), (3, .int (nI i))], [.int (nI (8 + z)), .ref 117], N)) (o := [¬ (nI 8) = 0]) rfl (show ¬ (nI 8) = 0 by decide) ?_
          refine Wn.br (fun h3 => ?_) (fun h3 => ?_)
          · show Wn _ 53 _ (55, [(4, .int (nI z)), (0, .ref 114), (1, .int (nI w)), (2, .int (nI h)), (3, .int (nI i))], [.int (nI (8 + z)), .ref 117], N)
            have h3 := (n_le rfl (n_div rfl rfl (by omega) (by omega) (by omega)) (by omega) (by omega)).mp h3
            refine Wn.run (tab := tb_m_freezes) rfl 2 (c' := (57, [(4, .int (nI z)), (0, .ref 114), (1, .int (nI w)), (2, .int (nI h)), (3, .int (nI i))], [], (mI N 117 (upd (N.1 117) ((nI (8 + z))).toNatClampNeg (nI 0))))) (o := [aok shp 117 0 (nI (8 + z))]) rfl (ak1 (n := 90) rfl rfl rfl (by omega)) ?_
            generalize hM14 : (mI N 117 (upd (N.1 117) ((nI (8 + z))).toNatClampNeg (nI 0))) = M13
            have hk15 : ∀ k, k < 90 → M13.1 117 k = nI ((su (fzP (su (su δ 0 w) 1 h) w h i z) (8 + z) 0) k) := row_up hM14 loop_0 (cl1 rfl (by omega)) rfl
            have hF16 := fr_sI loop_1 hM14 (by decide)
            show Wn _ 53 _ (57, [(4, .int (nI z)), (0, .ref 114), (1, .int (nI w)), (2, .int (nI h)), (3, .int (nI i))], [], M13)
            refine Wn.run (tab := tb_m_freezes) rfl 2 (c' := (17, [(4, .int ((nI z) + (nI 1))), (0, .ref 114), (1, .int (nI w)), (2, .int (nI h)), (3, .int (nI i))], [], M13)) (o := []) rfl trivial ?_
            rw [show ((nI z) + (nI 1)) = (nI (z + 1)) from (n_add rfl rfl)]
            have on9 : ¬ (z % 8 < w ∧ z / 8 < h) := by omega
            have e9 := fzP_s (su (su δ 0 w) 1 h) w h i z
            rw [if_neg on9] at e9
            exact ih (64 - (z + 1)) (by omega) (z + 1) M13 rfl (by omega) (by rw [← e9]; exact hk15) hF16
          · show Wn _ 53 _ (51, [(4, .int (nI z)), (0, .ref 114), (1, .int (nI w)), (2, .int (nI h)), (3, .int (nI i))], [.int (nI (8 + z)), .ref 117], N)
            have h3 := mt (n_le rfl (n_div rfl rfl (by omega) (by omega) (by omega)) (by omega) (by omega)).mpr h3
            refine Wn.run (tab := tb_m_freezes) rfl 3 (c' := (57, [(4, .int (nI z)), (0, .ref 114), (1, .int (nI w)), (2, .int (nI h)), (3, .int (nI i))], [], (mI N 117 (upd (N.1 117) ((nI (8 + z))).toNatClampNeg (nI i))))) (o := [aok shp 117 0 (nI (8 + z))]) rfl (ak1 (n := 90) rfl rfl rfl (by omega)) ?_
            generalize hM18 : (mI N 117 (upd (N.1 117) ((nI (8 + z))).toNatClampNeg (nI i))) = M17
            have hk19 : ∀ k, k < 90 → M17.1 117 k = nI ((su (fzP (su (su δ 0 w) 1 h) w h i z) (8 + z) i) k) := row_up hM18 loop_0 (cl1 rfl (by omega)) rfl
            have hF20 := fr_sI loop_1 hM18 (by decide)
            show Wn _ 53 _ (57, [(4, .int (nI z)), (0, .ref 114), (1, .int (nI w)), (2, .int (nI h)), (3, .int (nI i))], [], M17)
            refine Wn.run (tab := tb_m_freezes) rfl 2 (c' := (17, [(4, .int ((nI z) + (nI 1))), (0, .ref 114), (1, .int (nI w)), (2, .int (nI h)), (3, .int (nI i))], [], M17)) (o := []) rfl trivial ?_
            rw [show ((nI z) + (nI 1)) = (nI (z + 1)) from (n_add rfl rfl)]
            have on9 : (z % 8 < w ∧ z / 8 < h) := by omega
            have e9 := fzP_s (su (su δ 0 w) 1 h) w h i z
            rw [if_pos on9] at e9
            exact ih (64 - (z + 1)) (by omega) (z + 1) M17 rfl (by omega) (by rw [← e9]; exact hk19) hF20
  exact loop (64 - 0) 0 M5 rfl (by omega) (by rw [fzP_0]; exact hk7) hF8
set_option maxRecDepth 20000 in
theorem c_m_clears (d : Nat) (M : Mm) : Wn (d + 1) 52 (PH M dl0) (0, lv_args 0 [.ref 114], [], M) := by
  have hF := fr_rf [117] M
  obtain ⟨δ, hh0⟩ := Row_any (f := M.1 117)
  have hh : ∀ k, k < 90 → M.1 117 k = nI (δ k) := fun k _ => hh0 k
  refine Wn.run (tab := tb_m_clears) rfl 2 (c' := (2, [(1, .int (nI 0)), (0, .ref 114)], [], M)) (o := []) rfl trivial ?_
  have loop : ∀ (m z : Nat) (N : Mm), 90 - z = m → z ≤ 90 → (∀ k, k < 90 → N.1 117 k = nI ((zrN δ z) k)) → (Fr [117] M N) → Wn (d + 1) 52 (PH M dl0) (2, [(1, .int (nI z)), (0, .ref 114)], [], N) := by
    intro m
    induction m using Nat.strongRecOn with
    | _ m ih =>
      intro z N hm hz loop_0 loop_1
      refine Wn.run (tab := tb_m_clears) rfl 3 (c' := (if (nI 90) ≤ (nI z) then 21 else 8, [(1, .int (nI z)), (0, .ref 114)], [], N)) (o := []) rfl trivial ?_
      refine Wn.br (fun h1 => ?_) (fun h1 => ?_)
      · show Wn _ 52 _ (21, [(1, .int (nI z)), (0, .ref 114)], [], N)
        have h1 := (n_le rfl rfl (by omega) (by omega)).mp h1
        have e9 : z = 90 := by omega
        have hz9 : ∀ k, k < 90 → N.1 117 k = nI ((fun _ => 0 : Nat → Nat) k) := row_cg loop_0 (fun k hk => by unfold zrN; rw [if_pos (by omega)])
        refine Wn.run (tab := tb_m_clears) rfl 5 (c' := (28, [(1, .int (nI z)), (0, .ref 114)], [], (mI N 117 (upd (N.1 117) 3 (nI 2))))) (o := [shp 114 = (0, 10), aok shp 117 0 (nI 3)]) rfl ⟨rfl, ⟨rfl, vp_in_nI (by decide) (by decide)⟩⟩ ?_
        generalize hM2 : (mI N 117 (upd (N.1 117) 3 (nI 2))) = M1
        have hk3 : ∀ k, k < 90 → M1.1 117 k = nI ((su (fun _ => 0 : Nat → Nat) 3 2) k) := row_up hM2 hz9 rfl rfl
        have hF4 := fr_sI loop_1 hM2 (by decide)
        show Wn _ 52 _ (28, [(1, .int (nI z)), (0, .ref 114)], [], M1)
        refine Wn.run (tab := tb_m_clears) rfl 5 (c' := (35, [(1, .int (nI z)), (0, .ref 114)], [], (mI M1 117 (upd (M1.1 117) 4 (nI 1))))) (o := [shp 114 = (0, 10), aok shp 117 0 (nI 4)]) rfl ⟨rfl, ⟨rfl, vp_in_nI (by decide) (by decide)⟩⟩ ?_
        generalize hM6 : (mI M1 117 (upd (M1.1 117) 4 (nI 1))) = M5
        have hk7 : ∀ k, k < 90 → M5.1 117 k = nI ((su (su (fun _ => 0 : Nat → Nat) 3 2) 4 1) k) := row_up hM6 hk3 rfl rfl
        have hF8 := fr_sI hF4 hM6 (by decide)
        show Wn _ 52 _ (35, [(1, .int (nI z)), (0, .ref 114)], [], M5)
        refine Wn.run (tab := tb_m_clears) rfl 5 (c' := (42, [(1, .int (nI z)), (0, .ref 114)], [], (mI M5 117 (upd (M5.1 117) 5 (nI 5))))) (o := [shp 114 = (0, 10), aok shp 117 0 (nI 5)]) rfl ⟨rfl, ⟨rfl, vp_in_nI (by decide) (by decide)⟩⟩ ?_
        generalize hM10 : (mI M5 117 (upd (M5.1 117) 5 (nI 5))) = M9
        have hk11 : ∀ k, k < 90 → M9.1 117 k = nI ((su (su (su (fun _ => 0 : Nat → Nat) 3 2) 4 1) 5 5) k) := row_up hM10 hk7 rfl rfl
        have hF12 := fr_sI hF8 hM10 (by decide)
        show Wn _ 52 _ (42, [(1, .int (nI z)), (0, .ref 114)], [], M9)
        refine Wn.run (tab := tb_m_clears) rfl 5 (c' := (50, [(1, .int (nI z)), (0, .ref 114)], [], (mI M9 117 (upd (M9.1 117) 6 (nI 3))))) (o := [shp 114 = (0, 10), aok shp 117 0 (nI 6)]) rfl ⟨rfl, ⟨rfl, vp_in_nI (by decide) (by decide)⟩⟩ ?_
        generalize hM14 : (mI M9 117 (upd (M9.1 117) 6 (nI 3))) = M13
        have hk15 : ∀ k, k < 90 → M13.1 117 k = nI ((su (su (su (su (fun _ => 0 : Nat → Nat) 3 2) 4 1) 5 5) 6 3) k) := row_up hM14 hk11 rfl rfl
        have hF16 := fr_sI hF12 hM14 (by decide)
        show Wn _ 52 _ (50, [(1, .int (nI z)), (0, .ref 114)], [], M13)
        refine Wn.run (tab := tb_m_clears) rfl 5 (c' := (59, [(1, .int (nI z)), (0, .ref 114)], [], (mI M13 117 (upd (M13.1 117) 7 (nI 6))))) (o := [shp 114 = (0, 10), aok shp 117 0 (nI 7)]) rfl ⟨rfl, ⟨rfl, vp_in_nI (by decide) (by decide)⟩⟩ ?_
        generalize hM18 : (mI M13 117 (upd (M13.1 117) 7 (nI 6))) = M17
        have hk19 : ∀ k, k < 90 → M17.1 117 k = nI ((su (su (su (su (su (fun _ => 0 : Nat → Nat) 3 2) 4 1) 5 5) 6 3) 7 6) k) := row_up hM18 hk15 rfl rfl
        have hF20 := fr_sI hF16 hM18 (by decide)
        show Wn _ 52 _ (59, [(1, .int (nI z)), (0, .ref 114)], [], M17)
        refine Wn.run (tab := tb_m_clears) rfl 4 (c' := (63, [(1, .int (nI z)), (0, .ref 114)], [.int (nI 5), .int (nI 5), .int (nI 5), .ref 114], M17)) (o := []) rfl trivial ?_
        refine Wn.callV (p := 114) (n := 4) (ix := 148) (ci := (10)) (PH M17 (fz (su (su (su (su (su (fun _ => 0 : Nat → Nat) 3 2) 4 1) 5 5) 6 3) 7 6) 5 5 5)) [.int (nI 5), .int (nI 5), .int (nI 5)] [] rfl rfl rfl rfl (Nat.le_of_ble_eq_true rfl) (Nat.le_of_ble_eq_true rfl) (c_m_freezes _ M17 (su (su (su (su (su (fun _ => 0 : Nat → Nat) 3 2) 4 1) 5 5) 6 3) 7 6) hk19 5 5 5 (by omega) (by omega) (by omega)) ?_
        rintro _ M21 ⟨rfl, hh22, hF23⟩
        show Wn _ 52 _ (66, [(1, .int (nI z)), (0, .ref 114)], [], M21)
        have hF24 := fr_tr hF20 hF23 (by decide)
        exact Wn.vret rfl ⟨rfl, hh22, hF24⟩
      · show Wn _ 52 _ (8, [(1, .int (nI z)), (0, .ref 114)], [], N)
        have h1 := mt (n_le rfl rfl (by omega) (by omega)).mpr h1
        refine Wn.run (tab := tb_m_clears) rfl 5 (c' := (15, [(1, .int (nI z)), (0, .ref 114)], [], (mI N 117 (upd (N.1 117) ((nI z)).toNatClampNeg (nI 0))))) (o := [shp 114 = (0, 10), aok shp 117 0 (nI z)]) rfl ⟨rfl, (ak1 (n := 90) rfl rfl rfl (by omega))⟩ ?_
        generalize hM26 : (mI N 117 (upd (N.1 117) ((nI z)).toNatClampNeg (nI 0))) = M25
        have hk27 : ∀ k, k < 90 → M25.1 117 k = nI ((su (zrN δ z) z 0) k) := row_up hM26 loop_0 (cl1 rfl (by omega)) rfl
        have hF28 := fr_sI loop_1 hM26 (by decide)
        show Wn _ 52 _ (15, [(1, .int (nI z)), (0, .ref 114)], [], M25)
        refine Wn.run (tab := tb_m_clears) rfl 2 (c' := (2, [(1, .int ((nI z) + (nI 1))), (0, .ref 114)], [], M25)) (o := []) rfl trivial ?_
        rw [show ((nI z) + (nI 1)) = (nI (z + 1)) from (n_add rfl rfl)]
        exact ih (90 - (z + 1)) (by omega) (z + 1) M25 rfl (by omega) (by rw [← zrN_s]; exact hk27) hF28
  exact loop (90 - 0) 0 M rfl (by omega) (row_cg hh (fun k hk => by unfold zrN; rw [if_neg (by omega)])) hF
theorem or_ok5 : ∀ q, q < 5 → ∀ a, a < 32 → nI a ||| nI (2 ^ q) = nI (a ||| 2 ^ q) := by decide +kernel
theorem or_lt5 : ∀ q, q < 5 → ∀ a, a < 32 → a ||| 2 ^ q < 32 := by decide +kernel
def PO1 (M0 : Mm) (g : Nat → Int32) (T : Nat → Nat) (L mo p o : Nat) : Po := fun r0 M' => r0 = some (.int (nI 1)) ∧ TkM M' T L mo p ∧ M'.1 114 20 = nI o ∧ Gx [4, 11, 12, 13, 14, 20] g (M'.1 114) ∧ (∀ k, ¬ k = 17 → M'.2.1 114 k = M0.2.1 114 k) ∧ Fr [114] M0 M'
set_option maxRecDepth 20000 in
theorem c_m_once_ok (d : Nat) (M : Mm) (g : Nat → Int32) (T : Nat → Nat) (L mo p : Nat) (hg : M.1 114 = g) (hK : TkM M T L mo p) (o k : Nat) (ho : g 20 = nI o) (ho5 : o < 32) (hk5 : k < 5) (hb : ¬ o.testBit k = true) (h0 : ¬ tKd T L mo p = 0) (h36 : ¬ tKd T L mo p = 36) : Wn (d + 2) 67 (PO1 M g T L mo (tNx T L p) (o ||| 2 ^ k)) (0, lv_args 0 [.ref 114, .int (nI k)], [], M) := by
  have hF := fr_rf [114] M
  have hO : ∀ k, ¬ k = 17 → M.2.1 114 k = M.2.1 114 k := fun _ _ => rfl
  have kl := tKd_le T L mo p
  have hL9 := hK.2.2.2.2.2.2.2.2.2.1
  have p9 := pow_lt6 (q := k) (by omega)
  have ol := or_lt5 k hk5 o ho5
  refine Wn.run (tab := tb_m_once) rfl 3 (c' := (5, [(0, .ref 114), (1, .int (nI k))], [.int (nI k), .int (M.1 114 20)], M)) (o := [shp 114 = (0, 10)]) rfl rfl ?_
  rw [show (M.1 114 20) = (nI o) from (fr_eq hg (show g 20 = (nI o) from ho))]
  refine Wn.callS (n := 2) (ix := 216) (fun r0 M0 => r0 = some (.int (b2 (o.testBit k = true))) ∧ M = M0) [.int (nI o), .int (nI k)] [] rfl rfl rfl (Nat.le_of_ble_eq_true rfl) (Nat.le_of_ble_eq_true rfl) (w_m_bitN _ o k (by omega) (by omega) M _ ⟨rfl, rfl⟩) ?_
  rintro _ _ ⟨rfl, rfl⟩
  show Wn _ 67 _ (8, [(0, .ref 114), (1, .int (nI k))], [.int (b2 (o.testBit k = true))], M)
  refine Wn.run (tab := tb_m_once) rfl 1 (c' := (if (b2 (o.testBit k = true)) = 0 then 17 else 11, [(0, .ref 114), (1, .int (nI k))], [], M)) (o := []) rfl trivial ?_
  rw [if_pos (b2_e0.mpr hb)]
  show Wn _ 67 _ (17, [(0, .ref 114), (1, .int (nI k))], [], M)
  refine Wn.run (tab := tb_m_once) rfl 8 (c' := (29, [(0, .ref 114), (1, .int (nI k))], [], (mI M 114 (upd (M.1 114) 20 ((M.1 114 20) ||| ((nI 1) <<< ((nI k) &&& 31))))))) (o := [shp 114 = (0, 10), shp 114 = (0, 10)]) rfl ⟨rfl, rfl⟩ ?_
  rw [show (M.1 114 20) = (nI o) from (fr_eq hg (show g 20 = (nI o) from ho))]
  have p9 := pow_lt6 (q := k) (by omega)
  rw [show ((nI o) ||| ((nI 1) <<< ((nI k) &&& 31))) = (nI (o ||| (2 ^ k))) from (n_or rfl (n_shl rfl (by omega)) (by omega) (by omega))]
  generalize hM2 : (mI M 114 (upd (M.1 114) 20 (nI (o ||| (2 ^ k))))) = M1
  have ht3 := TkM_up hM2 (by decide) hK
  have hk4 := fI_up hM2 hg
  have ho5 := jo_stI hM2 hO
  have hF6 := fr_sI hF hM2 (by decide)
  show Wn _ 67 _ (29, [(0, .ref 114), (1, .int (nI k))], [], M1)
  refine Wn.run (tab := tb_m_once) rfl 1 (c' := (30, [(0, .ref 114), (1, .int (nI k))], [.ref 114], M1)) (o := []) rfl trivial ?_
  refine Wn.callV (p := 114) (n := 1) (ix := 191) (ci := (10)) (PNx M1 (upd g 20 (nI (o ||| (2 ^ k)))) T L mo (tNx T L p)) [] [] rfl rfl rfl rfl (Nat.le_of_ble_eq_true rfl) (Nat.le_of_ble_eq_true rfl) (c_m_nx _ M1 (upd g 20 (nI (o ||| (2 ^ k)))) T L mo p hk4 ht3 (by omega) (by omega)) ?_
  rintro _ M7 ⟨rfl, ht8, hx9, hj10, hF11⟩
  show Wn _ 67 _ (33, [(0, .ref 114), (1, .int (nI k))], [], M7)
  obtain ⟨g12, hg13⟩ : ∃ g9, M7.1 114 = g9 := ⟨_, rfl⟩
  have hx14 := hx9
  rw [hg13] at hx14
  have hf15 : g12 18 = (g 18) := (hx14 18 (by decide)).trans (show (upd g 20 (nI (o ||| (2 ^ k)))) 18 = (g 18) from ((pk_un (by decide)).trans rfl))
  have hf16 : g12 20 = (nI (o ||| (2 ^ k))) := (hx14 20 (by decide)).trans (show (upd g 20 (nI (o ||| (2 ^ k)))) 20 = (nI (o ||| (2 ^ k))) from pk_us)
  have ho17 := jo_tr ho5 hj10
  have hF18 := fr_tr hF6 hF11 (by decide)
  refine Wn.run (tab := tb_m_once) rfl 1 (c' := (34, [(0, .ref 114), (1, .int (nI k))], [.int (nI 1)], M7)) (o := []) rfl trivial ?_
  exact Wn.zret rfl (Or.inr rfl) ⟨rfl, ht8, by rw [hg13]; exact hf16, by rw [hg13]; exact (Gx_tr (Gx_up (Gx_rf _ _) (by decide)) (Gx_mono hx14 (by decide))), ho17, hF18⟩
set_option maxRecDepth 20000 in
theorem c_m_once_no (d : Nat) (M : Mm) (g : Nat → Int32) (T : Nat → Nat) (L mo p : Nat) (hg : M.1 114 = g) (hK : TkM M T L mo p) (o k : Nat) (ho : g 20 = nI o) (ho5 : o < 32) (hk5 : k < 5) (hb : o.testBit k = true) : Wn (d + 1) 67 (PFm M g 3 (tAt T L mo p) (some (.int (nI 0)))) (0, lv_args 0 [.ref 114, .int (nI k)], [], M) := by
  have hF := fr_rf [114] M
  have hO : ∀ k, ¬ k = 17 → M.2.1 114 k = M.2.1 114 k := fun _ _ => rfl
  have kl := tKd_le T L mo p
  have hL9 := hK.2.2.2.2.2.2.2.2.2.1
  have p9 := pow_lt6 (q := k) (by omega)
  have ol := or_lt5 k hk5 o ho5
  refine Wn.run (tab := tb_m_once) rfl 3 (c' := (5, [(0, .ref 114), (1, .int (nI k))], [.int (nI k), .int (M.1 114 20)], M)) (o := [shp 114 = (0, 10)]) rfl rfl ?_
  rw [show (M.1 114 20) = (nI o) from (fr_eq hg (show g 20 = (nI o) from ho))]
  refine Wn.callS (n := 2) (ix := 216) (fun r0 M0 => r0 = some (.int (b2 (o.testBit k = true))) ∧ M = M0) [.int (nI o), .int (nI k)] [] rfl rfl rfl (Nat.le_of_ble_eq_true rfl) (Nat.le_of_ble_eq_true rfl) (w_m_bitN _ o k (by omega) (by omega) M _ ⟨rfl, rfl⟩) ?_
  rintro _ _ ⟨rfl, rfl⟩
  show Wn _ 67 _ (8, [(0, .ref 114), (1, .int (nI k))], [.int (b2 (o.testBit k = true))], M)
  refine Wn.run (tab := tb_m_once) rfl 1 (c' := (if (b2 (o.testBit k = true)) = 0 then 17 else 11, [(0, .ref 114), (1, .int (nI k))], [], M)) (o := []) rfl trivial ?_
  rw [if_neg (b2_n0.mpr hb)]
  show Wn _ 67 _ (11, [(0, .ref 114), (1, .int (nI k))], [], M)
  refine Wn.run (tab := tb_m_once) rfl 2 (c' := (13, [(0, .ref 114), (1, .int (nI k))], [.int (nI 3), .ref 114], M)) (o := []) rfl trivial ?_
  refine Wn.callV (p := 114) (n := 2) (ix := 188) (ci := (10)) (PBd M g (nI 3) (nI (tAt T L mo p))) [.int (nI 3)] [] rfl rfl rfl rfl (Nat.le_of_ble_eq_true rfl) (Nat.le_of_ble_eq_true rfl) (c_m_bad _ M g T L mo p hg hK (nI 3)) ?_
  rintro _ M1 ⟨rfl, hg2, hs3, hF4⟩
  show Wn _ 67 _ (16, [(0, .ref 114), (1, .int (nI k))], [.int (nI 0)], M1)
  have hF5 := fr_tr hF hF4 (by decide)
  exact Wn.zret rfl (Or.inl rfl) ⟨rfl, by rw [hg2]; exact ((pk_un (by decide)).trans pk_us), by rw [hg2]; exact pk_us, by rw [hg2]; exact (Gx_up (Gx_up (Gx_rf _ _) (by decide)) (by decide)), hF5⟩
