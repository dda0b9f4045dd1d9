/-! The reference: hours, draws, what would be. -/
def sft (τ : Nat → Nat) : Nat → Nat := fun i => τ (90 + i)
def mrgN (σ τ : Nat → Nat) (z : Nat) : Nat → Nat := fun k => if 90 ≤ k ∧ k < 90 + z then τ k else σ k
abbrev mrg (σ τ : Nat → Nat) : Nat → Nat := mrgN σ τ 88
theorem mrg_0 (σ τ : Nat → Nat) : mrgN σ τ 0 = σ := by funext k; unfold mrgN; rw [if_neg (by omega)]
theorem mrg_s (σ τ : Nat → Nat) (z : Nat) : su (mrgN σ τ z) (90 + z) (sft τ z) = mrgN σ τ (z + 1) := by
  funext k
  unfold su mrgN sft
  by_cases h : k = 90 + z
  · subst h; rw [if_pos rfl, if_pos (by omega)]
  · rw [if_neg h]
    by_cases h2 : 90 ≤ k ∧ k < 90 + z
    · rw [if_pos h2, if_pos (by omega)]
    · rw [if_neg h2, if_neg (by omega)]
theorem mrg_eq {σ τ : Nat → Nat} (h : ∀ k, k < 90 → σ k = τ k) {k : Nat} (hk : k < 178) : mrg σ τ k = τ k := by
  show mrgN σ τ 88 k = _
  unfold mrgN
  by_cases h2 : 90 ≤ k
  · rw [if_pos (by omega)]
  · rw [if_neg (by omega)]; exact h k (by omega)
theorem Rs_cg {f0 f : Nat → Int32} {σ τ : Nat → Nat} (h : Rs f0 f σ) (e : ∀ k, k < 178 → σ k = τ k) : Rs f0 f τ := ⟨fun k hk => by rw [h.1 k hk, e k hk], h.2⟩
theorem row0 {f u : Nat → Int32} {v : Nat → Nat} (h : f = cpr u 0 v 88) : ∀ i, i < 88 → f i = nI (sft v i) := by
  intro i hi
  rw [h]
  unfold cpr sft
  rw [if_pos (by omega)]
  congr 3
/-- the first number from k on, of n, that P says -/
def til (P : Nat → Bool) : Nat → Nat → Option Nat
  | 0, _ => none
  | n + 1, k => if P k = true then some k else til P n (k + 1)
def PT (M0 : Mm) (v : Nat → Nat) : Po := fun r0 M' => r0 = none ∧ (∀ i, i < 88 → M'.1 122 i = nI (sft v i)) ∧ Fr [122] M0 M'
def PB (M0 : Mm) (f0 : Nat → Int32) (σ : Nat → Nat) : Po := fun r0 M' => r0 = none ∧ Rs f0 (M'.1 116) σ ∧ Fr [116] M0 M'
def PG (M0 : Mm) (f0 g : Nat → Int32) (K : List Nat) (σ : Nat → Nat) (r : Option Value) : Po := fun r0 M' => r0 = r ∧ Rs f0 (M'.1 116) σ ∧ Gx K g (M'.1 114) ∧ Fr [114, 116] M0 M'
set_option maxRecDepth 20000 in
theorem c_m_tries (d : Nat) (M : Mm) (f0 : Nat → Int32) (σ : Nat → Nat) (hR : Rs f0 (M.1 116) σ) : Wn (d + 0) 105 (PT M σ) (0, lv_args 0 [.ref 114], [], M) := by
  have hF := fr_rf [122] M
  obtain ⟨u, hu⟩ : ∃ u, M.1 122 = u := ⟨_, rfl⟩
  refine Wn.run (tab := tb_m_tries) rfl 2 (c' := (2, [(1, .int (nI 0)), (0, .ref 114)], [], M)) (o := []) rfl trivial ?_
  have loop : ∀ (m z : Nat) (N : Mm), 88 - z = m → z ≤ 88 → (Rs f0 (N.1 116) σ) → (N.1 122 = (cpr u 0 σ z)) → (Fr [122] M N) → Wn (d + 0) 105 (PT M σ) (2, [(1, .int (nI z)), (0, .ref 114)], [], N) := by
    intro m
    induction m using Nat.strongRecOn with
    | _ m ih =>
      intro z N hm hz loop_0 loop_1 loop_2
      refine Wn.run (tab := tb_m_tries) rfl 3 (c' := (if (nI 88) ≤ (nI z) then 29 else 8, [(1, .int (nI z)), (0, .ref 114)], [], N)) (o := []) rfl trivial ?_
      refine Wn.br (fun h1 => ?_) (fun h1 => ?_)
      · show Wn _ 105 _ (29, [(1, .int (nI z)), (0, .ref 114)], [], N)
        have h1 := (n_le rfl rfl (by omega) (by omega)).mp h1
        have e9 : z = 88 := by omega
        rw [e9] at loop_1
        exact Wn.vret rfl ⟨rfl, row0 loop_1, loop_2⟩
      · show Wn _ 105 _ (8, [(1, .int (nI z)), (0, .ref 114)], [], N)
        have h1 := mt (n_le rfl rfl (by omega) (by omega)).mpr h1
        refine Wn.run (tab := tb_m_tries) rfl 10 (c' := (23, [(1, .int (nI z)), (0, .ref 114)], [], (mI N 122 (upd (N.1 122) ((nI z)).toNatClampNeg (N.1 116 (((nI 90) + (nI z))).toNatClampNeg))))) (o := [shp 114 = (0, 10), shp 114 = (0, 10), aok shp 116 0 ((nI 90) + (nI z)), aok shp 122 0 (nI z)]) rfl ⟨rfl, rfl, (ak1 (n := 359) rfl rfl (n_add rfl rfl) (by omega)), (ak1 (n := 88) rfl rfl rfl (by omega))⟩ ?_
        rw [show (N.1 116 (((nI 90) + (nI z))).toNatClampNeg) = (nI (σ (90 + z))) from (rd1 loop_0.1 (n_add rfl rfl) (by omega) (by omega))]
        generalize hM2 : (mI N 122 (upd (N.1 122) ((nI z)).toNatClampNeg (nI (σ (90 + z))))) = M1
        have hk3 := rs_ne hM2 (by decide) loop_0
        have hk4 := fI_upx hM2 loop_1 (cl1 rfl (by omega))
        have hF5 := fr_sI loop_2 hM2 (by decide)
        show Wn _ 105 _ (23, [(1, .int (nI z)), (0, .ref 114)], [], M1)
        refine Wn.run (tab := tb_m_tries) rfl 2 (c' := (2, [(1, .int ((nI z) + (nI 1))), (0, .ref 114)], [], M1)) (o := []) rfl trivial ?_
        rw [show ((nI z) + (nI 1)) = (nI (z + 1)) from (n_add rfl rfl)]
        exact ih (88 - (z + 1)) (by omega) (z + 1) M1 rfl (by omega) hk3 (by rw [← cpr_s, Nat.mul_zero, Nat.zero_add]; exact hk4) hF5
  exact loop (88 - 0) 0 M rfl (by omega) hR (by rw [cpr_0]; exact hu) hF
set_option maxRecDepth 20000 in
theorem c_m_back (d : Nat) (M : Mm) (f0 : Nat → Int32) (σ τ : Nat → Nat) (hR : Rs f0 (M.1 116) σ) (hb : ∀ i, i < 88 → M.1 122 i = nI (sft τ i)) : Wn (d + 0) 106 (PB M f0 (mrg σ τ)) (0, lv_args 0 [.ref 114], [], M) := by
  have hF := fr_rf [116] M
  refine Wn.run (tab := tb_m_back) rfl 2 (c' := (2, [(1, .int (nI 0)), (0, .ref 114)], [], M)) (o := []) rfl trivial ?_
  have loop : ∀ (m z : Nat) (N : Mm), 88 - z = m → z ≤ 88 → (Rs f0 (N.1 116) (mrgN σ τ z)) → (∀ k, k < 88 → N.1 122 k = nI ((sft τ) k)) → (Fr [116] M N) → Wn (d + 0) 106 (PB M f0 (mrg σ τ)) (2, [(1, .int (nI z)), (0, .ref 114)], [], N) := by
    intro m
    induction m using Nat.strongRecOn with
    | _ m ih =>
      intro z N hm hz loop_0 loop_1 loop_2
      refine Wn.run (tab := tb_m_back) rfl 3 (c' := (if (nI 88) ≤ (nI z) then 29 else 8, [(1, .int (nI z)), (0, .ref 114)], [], N)) (o := []) rfl trivial ?_
      refine Wn.br (fun h1 => ?_) (fun h1 => ?_)
      · show Wn _ 106 _ (29, [(1, .int (nI z)), (0, .ref 114)], [], N)
        have h1 := (n_le rfl rfl (by omega) (by omega)).mp h1
        have e9 : z = 88 := by omega
        rw [e9] at loop_0
        exact Wn.vret rfl ⟨rfl, loop_0, loop_2⟩
      · show Wn _ 106 _ (8, [(1, .int (nI z)), (0, .ref 114)], [], N)
        have h1 := mt (n_le rfl rfl (by omega) (by omega)).mpr h1
        refine Wn.run (tab := tb_m_back) rfl 10 (c' := (23, [(1, .int (nI z)), (0, .ref 114)], [], (mI N 116 (upd (N.1 116) (((nI 90) + (nI z))).toNatClampNeg (N.1 122 ((nI z)).toNatClampNeg))))) (o := [shp 114 = (0, 10), shp 114 = (0, 10), aok shp 122 0 (nI z), aok shp 116 0 ((nI 90) + (nI z))]) rfl ⟨rfl, rfl, (ak1 (n := 88) rfl rfl rfl (by omega)), (ak1 (n := 359) rfl rfl (n_add rfl rfl) (by omega))⟩ ?_
        rw [show (N.1 122 ((nI z)).toNatClampNeg) = (nI ((sft τ) z)) from (rd1 loop_1 rfl (by omega) (by omega))]
        generalize hM2 : (mI N 116 (upd (N.1 116) (((nI 90) + (nI z))).toNatClampNeg (nI ((sft τ) z)))) = M1
        have hk3 : Rs f0 (M1.1 116) (su (mrgN σ τ z) (90 + z) ((sft τ) z)) := rs_up hM2 loop_0 (cl1 (n_add rfl rfl) (by omega)) (by omega) rfl
        have hk4 := row_ne hM2 (by decide) loop_1
        have hF5 := fr_sI loop_2 hM2 (by decide)
        show Wn _ 106 _ (23, [(1, .int (nI z)), (0, .ref 114)], [], M1)
        refine Wn.run (tab := tb_m_back) rfl 2 (c' := (2, [(1, .int ((nI z) + (nI 1))), (0, .ref 114)], [], M1)) (o := []) rfl trivial ?_
        rw [show ((nI z) + (nI 1)) = (nI (z + 1)) from (n_add rfl rfl)]
        exact ih (88 - (z + 1)) (by omega) (z + 1) M1 rfl (by omega) (by rw [← mrg_s]; exact hk3) hk4 hF5
  exact loop (88 - 0) 0 M rfl (by omega) (by rw [mrg_0]; exact hR) hb hF
set_option maxRecDepth 20000 in
theorem c_m_undo (d : Nat) (M : Mm) (f0 g : Nat → Int32) (σ : Nat → Nat) (n : Nat) (H : Nat → Nat → Nat) (hR : Rs f0 (M.1 116) σ) (hV : Inv σ) (hg : M.1 114 = g) (hn : g 25 = nI n) (hn8 : n ≤ 8) (hH : HMr (M.1 121) n H) : Wn (d + 0) 104 (PA M f0 g [0, 22, 25, 35] [114, 116, 121] (if n = 0 then σ else mrg σ (H (n - 1))) (n - 1) H (some (.int (if n = 0 then -1 else nI (n - 1))))) (0, lv_args 0 [.ref 114], [], M) := by
  have hF := fr_rf [114, 116, 121] M
  obtain ⟨u, hu⟩ : ∃ u, M.1 121 = u := ⟨_, rfl⟩
  rw [hu] at hH
  refine Wn.run (tab := tb_m_undo) rfl 3 (c' := (5, [(0, .ref 114)], [], (mI M 114 (upd (M.1 114) 0 (nI 0))))) (o := [shp 114 = (0, 10)]) rfl rfl ?_
  generalize hM2 : (mI M 114 (upd (M.1 114) 0 (nI 0))) = M1
  have hk3 := rs_ne hM2 (by decide) hR
  have hk4 := fI_up hM2 hg
  have hk5 := fI_ne hM2 (by decide) hu
  have hF6 := fr_sI hF hM2 (by decide)
  show Wn _ 104 _ (5, [(0, .ref 114)], [], M1)
  refine Wn.run (tab := tb_m_undo) rfl 3 (c' := (if ¬ (M1.1 114 25) = 0 then 14 else 12, [(0, .ref 114)], [], M1)) (o := [shp 114 = (0, 10)]) rfl rfl ?_
  refine Wn.br (fun h1 => ?_) (fun h1 => ?_)
  · show Wn _ 104 _ (14, [(0, .ref 114)], [], M1)
    have h1 := mt (n_eq (fr_eq hk4 (show (upd g 0 (nI 0)) 25 = (nI n) from ((pk_un (by decide)).trans hn))) nI_0.symm (by omega) (by omega)).mpr h1
    refine Wn.run (tab := tb_m_undo) rfl 6 (c' := (24, [(0, .ref 114)], [], (mI M1 114 (upd (M1.1 114) 25 ((M1.1 114 25) - (nI 1)))))) (o := [shp 114 = (0, 10), shp 114 = (0, 10)]) rfl ⟨rfl, rfl⟩ ?_
    rw [show (M1.1 114 25) = (nI n) from (fr_eq hk4 (show (upd g 0 (nI 0)) 25 = (nI n) from ((pk_un (by decide)).trans hn)))]
    rw [show ((nI n) - (nI 1)) = (nI (n - 1)) from (n_sub rfl rfl (by omega))]
    generalize hM8 : (mI M1 114 (upd (M1.1 114) 25 (nI (n - 1)))) = M7
    have hk9 := rs_ne hM8 (by decide) hk3
    have hk10 := fI_up hM8 hk4
    have hk11 := fI_ne hM8 (by decide) hk5
    have hF12 := fr_sI hF6 hM8 (by decide)
    show Wn _ 104 _ (24, [(0, .ref 114)], [], M7)
    refine Wn.run (tab := tb_m_undo) rfl 2 (c' := (26, [(1, .int (nI 0)), (0, .ref 114)], [], M7)) (o := []) rfl trivial ?_
    have loop : ∀ (m z : Nat) (N : Mm), 88 - z = m → z ≤ 88 → (Rs f0 (N.1 116) (mrgN σ (H (n - 1)) z)) → (N.1 114 = (upd (upd g 0 (nI 0)) 25 (nI (n - 1)))) → (N.1 121 = u) → (Fr [114, 116, 121] M N) → Wn (d + 0) 104 (PA M f0 g [0, 22, 25, 35] [114, 116, 121] (if n = 0 then σ else mrg σ (H (n - 1))) (n - 1) H (some (.int (if n = 0 then -1 else nI (n - 1))))) (26, [(1, .int (nI z)), (0, .ref 114)], [], N) := by
      intro m
      induction m using Nat.strongRecOn with
      | _ m ih =>
        intro z N hm hz loop_0 loop_1 loop_2 loop_3
        refine Wn.run (tab := tb_m_undo) rfl 3 (c' := (if (nI 88) ≤ (nI z) then 61 else 32, [(1, .int (nI z)), (0, .ref 114)], [], N)) (o := []) rfl trivial ?_
        refine Wn.br (fun h2 => ?_) (fun h2 => ?_)
        · show Wn _ 104 _ (61, [(1, .int (nI z)), (0, .ref 114)], [], N)
          have h2 := (n_le rfl rfl (by omega) (by omega)).mp h2
          refine Wn.run (tab := tb_m_undo) rfl 2 (c' := (65, [(1, .int (nI z)), (0, .ref 114)], [.int (N.1 114 25)], N)) (o := [shp 114 = (0, 10)]) rfl rfl ?_
          rw [show (N.1 114 25) = (nI (n - 1)) from (fr_eq loop_1 (show (upd (upd g 0 (nI 0)) 25 (nI (n - 1))) 25 = (nI (n - 1)) from rfl))]
          have e9 : z = 88 := by omega
          rw [e9] at loop_0
          rw [if_neg h1, if_neg h1]
          exact Wn.iret rfl ⟨rfl, loop_0, by rw [loop_2]; exact fun k hk => hH k (by omega), by rw [loop_1]; rfl, by rw [loop_1]; rfl, by rw [loop_1]; exact Gx_up (Gx_up (Gx_rf _ _) (by decide)) (by decide), loop_3⟩
        · show Wn _ 104 _ (32, [(1, .int (nI z)), (0, .ref 114)], [], N)
          have h2 := mt (n_le rfl rfl (by omega) (by omega)).mpr h2
          refine Wn.run (tab := tb_m_undo) rfl 15 (c' := (55, [(1, .int (nI z)), (0, .ref 114)], [], (mI N 116 (upd (N.1 116) (((nI 90) + (nI z))).toNatClampNeg (N.1 121 ((((nI 88) * (N.1 114 25)) + (nI z))).toNatClampNeg))))) (o := [shp 114 = (0, 10), shp 114 = (0, 10), shp 114 = (0, 10), aok shp 121 0 (((nI 88) * (N.1 114 25)) + (nI z)), aok shp 116 0 ((nI 90) + (nI z))]) rfl ⟨rfl, rfl, rfl, (ak1 (n := 704) rfl rfl (n_add (n_mul rfl (fr_eq loop_1 (show (upd (upd g 0 (nI 0)) 25 (nI (n - 1))) 25 = (nI (n - 1)) from rfl))) rfl) (by omega)), (ak1 (n := 359) rfl rfl (n_add rfl rfl) (by omega))⟩ ?_
          rw [show (N.1 114 25) = (nI (n - 1)) from (fr_eq loop_1 (show (upd (upd g 0 (nI 0)) 25 (nI (n - 1))) 25 = (nI (n - 1)) from rfl))]
          rw [show (N.1 121 ((((nI 88) * (nI (n - 1))) + (nI z))).toNatClampNeg) = (u ((88 * (n - 1)) + z)) from (fr_rdx loop_2 (n_add (n_mul rfl rfl) rfl) (by omega))]
          rw [show (u ((88 * (n - 1)) + z)) = (nI (sft (H (n - 1)) z)) from (hH (n - 1) (by omega) z (by omega))]
          generalize hM14 : (mI N 116 (upd (N.1 116) (((nI 90) + (nI z))).toNatClampNeg (nI (sft (H (n - 1)) z)))) = M13
          have hk15 : Rs f0 (M13.1 116) (su (mrgN σ (H (n - 1)) z) (90 + z) (sft (H (n - 1)) z)) := rs_up hM14 loop_0 (cl1 (n_add rfl rfl) (by omega)) (by omega) rfl
          have hk16 := fI_ne hM14 (by decide) loop_1
          have hk17 := fI_ne hM14 (by decide) loop_2
          have hF18 := fr_sI loop_3 hM14 (by decide)
          show Wn _ 104 _ (55, [(1, .int (nI z)), (0, .ref 114)], [], M13)
          refine Wn.run (tab := tb_m_undo) rfl 2 (c' := (26, [(1, .int ((nI z) + (nI 1))), (0, .ref 114)], [], M13)) (o := []) rfl trivial ?_
          rw [show ((nI z) + (nI 1)) = (nI (z + 1)) from (n_add rfl rfl)]
          exact ih (88 - (z + 1)) (by omega) (z + 1) M13 rfl (by omega) (by rw [← mrg_s]; exact hk15) hk16 hk17 hF18
    exact loop (88 - 0) 0 M7 rfl (by omega) (by rw [mrg_0]; exact hk9) hk10 hk11 hF12
  · show Wn _ 104 _ (12, [(0, .ref 114)], [], M1)
    have h1 := (n_eq (fr_eq hk4 (show (upd g 0 (nI 0)) 25 = (nI n) from ((pk_un (by decide)).trans hn))) nI_0.symm (by omega) (by omega)).mp (Classical.not_not.mp h1)
    refine Wn.run (tab := tb_m_undo) rfl 1 (c' := (13, [(0, .ref 114)], [.int (-1 : Int32)], M1)) (o := []) rfl trivial ?_
    rw [if_pos h1, if_pos h1]
    exact Wn.iret rfl ⟨rfl, hk3, by rw [hk5]; exact fun k hk => absurd hk (by omega), by rw [hk4, show n - 1 = n by omega]; exact hn, by rw [hk4]; rfl, by rw [hk4]; exact Gx_up (Gx_rf _ _) (by decide), hF6⟩
def mn (a b : Nat) : Nat := if a < b then a else b
theorem mn_le (a b : Nat) : mn a b ≤ a ∧ mn a b ≤ b := by unfold mn; split <;> omega
theorem mn_or (a b : Nat) : mn a b = a ∨ mn a b = b := by unfold mn; split <;> omega
set_option maxRecDepth 20000 in
theorem c_m_goesOn (d : Nat) (M : Mm) (f0 g : Nat → Int32) (σ : Nat → Nat) (hR : Rs f0 (M.1 116) σ) (hV : Inv σ) (hg : M.1 114 = g) (n : Nat) (hn : n < 1000) : Wn (d + 7) 97 (PG M f0 g [22] (hK σ (mn n (400 - σ 90))) (some (.int (nI (mn n (400 - σ 90)))))) (0, lv_args 0 [.ref 114, .int (nI n)], [], M) := by
  have hF := fr_rf [114, 116] M
  have c9_2 := Bd_2 hV.1
  have k90 := Bd_90 hV.1
  have m9 := mn_le n (400 - σ 90)
  have m8 := mn_or n (400 - σ 90)
  refine Wn.run (tab := tb_m_goesOn) rfl 2 (c' := (2, [(2, .int (nI 0)), (0, .ref 114), (1, .int (nI n))], [], M)) (o := []) rfl trivial ?_
  have loop : ∀ (m z : Nat) (N : Mm), mn n (400 - σ 90) - z = m → z ≤ mn n (400 - σ 90) → (Rs f0 (N.1 116) (hK σ z)) → (Gx [22] g (N.1 114)) → (Fr [114, 116] M N) → Wn (d + 7) 97 (PG M f0 g [22] (hK σ (mn n (400 - σ 90))) (some (.int (nI (mn n (400 - σ 90)))))) (2, [(2, .int (nI z)), (0, .ref 114), (1, .int (nI n))], [], N) := by
    intro m
    induction m using Nat.strongRecOn with
    | _ m ih =>
      intro z N hm hz loop_0 loop_1 loop_2
      have ht9 := hK_90 c9_2 z
      have hV9 := Inv_hK hV z (by omega)
      obtain ⟨τ, hτ⟩ : ∃ τ, hK σ z = τ := ⟨_, rfl⟩
      rw [hτ] at loop_0 ht9 hV9
      have hB := hV9.1
      have k90 := Bd_90 hB
      obtain ⟨g9, hg9⟩ : ∃ g9, N.1 114 = g9 := ⟨_, rfl⟩
      have hx9 := loop_1
      rw [hg9] at hx9
      refine Wn.run (tab := tb_m_goesOn) rfl 3 (c' := (if (nI n) ≤ (nI z) then 30 else 7, [(2, .int (nI z)), (0, .ref 114), (1, .int (nI n))], [], N)) (o := []) rfl trivial ?_
      refine Wn.br (fun h1 => ?_) (fun h1 => ?_)
      · show Wn _ 97 _ (30, [(2, .int (nI z)), (0, .ref 114), (1, .int (nI n))], [], N)
        have h1 := (n_le rfl rfl (by omega) (by omega)).mp h1
        refine Wn.run (tab := tb_m_goesOn) rfl 1 (c' := (31, [(2, .int (nI z)), (0, .ref 114), (1, .int (nI n))], [.int (nI z)], N)) (o := []) rfl trivial ?_
        have e9 : mn n (400 - σ 90) = z := by unfold mn; split <;> omega
        rw [e9, hτ]
        exact Wn.iret rfl ⟨rfl, loop_0, (by rw [hg9]; exact hx9), loop_2⟩
      · show Wn _ 97 _ (7, [(2, .int (nI z)), (0, .ref 114), (1, .int (nI n))], [], N)
        have h1 := mt (n_le rfl rfl (by omega) (by omega)).mpr h1
        refine Wn.run (tab := tb_m_goesOn) rfl 6 (c' := (if (nI 400) ≤ (N.1 116 90) then 30 else 20, [(2, .int (nI z)), (0, .ref 114), (1, .int (nI n))], [], N)) (o := [shp 114 = (0, 10), aok shp 116 0 (nI 90)]) rfl ⟨rfl, ⟨rfl, vp_in_nI (by decide) (by decide)⟩⟩ ?_
        refine Wn.br (fun h2 => ?_) (fun h2 => ?_)
        · show Wn _ 97 _ (30, [(2, .int (nI z)), (0, .ref 114), (1, .int (nI n))], [], N)
          have c9_90 := Bd_90 hB
          have h2 := (n_le rfl (rd0 loop_0.1 (by omega)) (by omega) (by omega)).mp h2
          refine Wn.run (tab := tb_m_goesOn) rfl 1 (c' := (31, [(2, .int (nI z)), (0, .ref 114), (1, .int (nI n))], [.int (nI z)], N)) (o := []) rfl trivial ?_
          have e9 : mn n (400 - σ 90) = z := by unfold mn; split <;> omega
          rw [e9, hτ]
          exact Wn.iret rfl ⟨rfl, loop_0, (by rw [hg9]; exact hx9), loop_2⟩
        · show Wn _ 97 _ (20, [(2, .int (nI z)), (0, .ref 114), (1, .int (nI n))], [], N)
          have c9_90 := Bd_90 hB
          have h2 := mt (n_le rfl (rd0 loop_0.1 (by omega)) (by omega) (by omega)).mpr h2
          refine Wn.run (tab := tb_m_goesOn) rfl 1 (c' := (21, [(2, .int (nI z)), (0, .ref 114), (1, .int (nI n))], [.ref 114], N)) (o := []) rfl trivial ?_
          refine Wn.callV (p := 114) (n := 1) (ix := 318) (ci := (10)) (PM N f0 (upd g9 22 (nI (swN τ (τ 2)))) (hour τ) none) [] [] rfl rfl rfl rfl (Nat.le_of_ble_eq_true rfl) (Nat.le_of_ble_eq_true rfl) (c_m_hour _ N f0 g9 τ loop_0 hB hg9 (by omega)) ?_
          rintro _ M1 ⟨rfl, hR2, hg3, hF4⟩
          show Wn _ 97 _ (24, [(2, .int (nI z)), (0, .ref 114), (1, .int (nI n))], [], M1)
          have hF5 := fr_tr loop_2 hF4 (by decide)
          refine Wn.run (tab := tb_m_goesOn) rfl 2 (c' := (2, [(2, .int ((nI z) + (nI 1))), (0, .ref 114), (1, .int (nI n))], [], M1)) (o := []) rfl trivial ?_
          rw [show ((nI z) + (nI 1)) = (nI (z + 1)) from (n_add rfl rfl)]
          exact ih (mn n (400 - σ 90) - (z + 1)) (by omega) (z + 1) M1 rfl (by omega) (show Rs f0 (M1.1 116) (hour (hK σ z)) by rw [hτ]; exact hR2) (by rw [hg3]; exact (Gx_up hx9 (by decide))) hF5
  exact loop (mn n (400 - σ 90) - 0) 0 M rfl (by omega) hR (by rw [hg]; exact Gx_rf _ _) hF
