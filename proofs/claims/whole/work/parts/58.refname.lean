/-- the words that are no names -/
def Rsv (M : Mm) : Prop := ∀ k, k < 26 → M.2.1 120 k = Int64.ofInt (kcodes.getD (10 + k) 0)
theorem name_iff {T : Nat → Nat} {L mo p : Nat} (hT : ∀ k, k < L → T k < 256) : ((tKd T L mo p = 3 ∨ (10 ≤ tKd T L mo p ∧ tKd T L mo p < 36)) ∧ ∀ j, j < 26 → ¬ tNm T L p = Int64.ofInt (kcodes.getD (10 + j) 0)) ↔ tKd T L mo p = 3 := by
  constructor
  · rintro ⟨h1, h2⟩
    rcases h1 with h1 | h1
    · exact h1
    · exfalso
      have h3 := (tk_code (c := tKd T L mo p) (p := p) hT h1.1 h1.2 (Or.inr h1)).mpr rfl
      have h4 := h2 (tKd T L mo p - 10) (by omega)
      rw [show 10 + (tKd T L mo p - 10) = tKd T L mo p by omega] at h4
      exact h4 h3
  · intro h
    refine ⟨Or.inl h, fun j hj e => ?_⟩
    have := (tk_code (c := 10 + j) (p := p) hT (by omega) (by omega) (Or.inl h)).mp e
    omega
theorem b2_nat {a : Nat} {P : Prop} [Decidable P] (h1 : a ≤ 1) (h : a = 1 ↔ P) : b2 P = nI a := by
  by_cases hp : P
  · rw [b2_t hp, h.mpr hp]; rfl
  · rw [b2_f hp, show a = 0 by have := mt h.mp hp; omega]; rfl
theorem is01_nI {a : Nat} (h : a ≤ 1) : is01 (nI a) := by
  rcases (show a = 0 ∨ a = 1 by omega) with h1 | h1
  · rw [h1]; exact Or.inl rfl
  · rw [h1]; exact Or.inr rfl
set_option maxRecDepth 20000 in
theorem w_m_isName (d : Nat) (M : Mm) (T : Nat → Nat) (L mo p : Nat) (hK : TkM M T L mo p) (hv : Rsv M) (Q : Po) (hQ : Q (some (.int (b2 (tKd T L mo p = 3)))) M) : Wn (d + 0) 62 Q (0, lv_args 0 [.ref 114], [], M) := by
  have kl := tKd_le T L mo p
  have cl := tCd_le (tKd T L mo p)
  have hT := TkM_T hK
  refine Wn.run (tab := tb_m_isName) rfl 4 (c' := (if ¬ (M.1 114 11) = (nI 1) then 12 else 8, [(0, .ref 114)], [], M)) (o := [shp 114 = (0, 10)]) rfl rfl ?_
  refine Wn.br (fun h1 => ?_) (fun h1 => ?_)
  · show Wn _ 62 _ (12, [(0, .ref 114)], [], M)
    have h1 := mt (n_eq hK.2.2.2.1 rfl (by omega) (by omega)).mpr h1
    refine Wn.run (tab := tb_m_isName) rfl 4 (c' := (16, [(2, .int (nI 0)), (1, .int (nI 0)), (0, .ref 114)], [], M)) (o := []) rfl trivial ?_
    have loop : ∀ (m : Nat) (z a : Nat), 26 - z = m → (z ≤ 26) → (a ≤ 1) → (a = 1 ↔ ((tKd T L mo p = 3 ∨ (10 ≤ tKd T L mo p ∧ tKd T L mo p < 36)) ∧ ∀ j, j < z → ¬ tNm T L p = Int64.ofInt (kcodes.getD (10 + j) 0))) → Wn (d + 0) 62 Q (16, [(2, .int (nI z)), (1, .int (nI a)), (0, .ref 114)], [], M) := by
      intro m
      induction m using Nat.strongRecOn with
      | _ m ih =>
        intro z a hm loop_0 loop_1 loop_2
        refine Wn.run (tab := tb_m_isName) rfl 3 (c' := (if (nI 26) ≤ (nI z) then 52 else 22, [(2, .int (nI z)), (1, .int (nI a)), (0, .ref 114)], [], M)) (o := []) rfl trivial ?_
        refine Wn.br (fun h2 => ?_) (fun h2 => ?_)
        · show Wn _ 62 _ (52, [(2, .int (nI z)), (1, .int (nI a)), (0, .ref 114)], [], M)
          have h2 := (n_le rfl rfl (by omega) (by omega)).mp h2
          refine Wn.run (tab := tb_m_isName) rfl 1 (c' := (53, [(2, .int (nI z)), (1, .int (nI a)), (0, .ref 114)], [.int (nI a)], M)) (o := []) rfl trivial ?_
          have e9 : z = 26 := by omega
          rw [e9] at loop_2
          rw [b2_nat loop_1 (loop_2.trans (name_iff hT))] at hQ
          exact Wn.zret rfl (is01_nI loop_1) hQ
        · show Wn _ 62 _ (22, [(2, .int (nI z)), (1, .int (nI a)), (0, .ref 114)], [], M)
          have h2 := mt (n_le rfl rfl (by omega) (by omega)).mpr h2
          refine Wn.run (tab := tb_m_isName) rfl 2 (c' := (if (nI a) = 0 then 44 else 26, [(2, .int (nI z)), (1, .int (nI a)), (0, .ref 114)], [], M)) (o := []) rfl trivial ?_
          refine Wn.br (fun h3 => ?_) (fun h3 => ?_)
          · show Wn _ 62 _ (44, [(2, .int (nI z)), (1, .int (nI a)), (0, .ref 114)], [], M)
            have h3 := (n_eq rfl nI_0.symm (by omega) (by omega)).mp h3
            refine Wn.run (tab := tb_m_isName) rfl 4 (c' := (16, [(2, .int ((nI z) + (nI 1))), (1, .int (nI 0)), (0, .ref 114)], [], M)) (o := []) rfl trivial ?_
            rw [show ((nI z) + (nI 1)) = (nI (z + 1)) from (n_add rfl rfl)]
            exact ih _ (by omega) (z + 1) 0 rfl (by omega) (by omega) ⟨fun q => absurd q (by decide), fun q => absurd (loop_2.mpr ⟨q.1, fun j hj => q.2 j (by omega)⟩) (by omega)⟩
          · show Wn _ 62 _ (26, [(2, .int (nI z)), (1, .int (nI a)), (0, .ref 114)], [], M)
            have h3 := mt (n_eq rfl nI_0.symm (by omega) (by omega)).mpr h3
            have hW := (loop_2.mp (by omega)).1
            refine Wn.run (tab := tb_m_isName) rfl 8 (c' := (if (lg_cmp (M.2.1 114 17) (M.2.1 120 ((nI z)).toNatClampNeg)) = 0 then 44 else 40, [(2, .int (nI z)), (1, .int (nI a)), (0, .ref 114)], [], M)) (o := [shp 114 = (0, 10), shp 114 = (0, 10), aok shp 120 3 (nI z)]) rfl ⟨rfl, rfl, (ak1 (n := 26) rfl rfl rfl (by omega))⟩ ?_
            refine Wn.br (fun h4 => ?_) (fun h4 => ?_)
            · show Wn _ 62 _ (44, [(2, .int (nI z)), (1, .int (nI a)), (0, .ref 114)], [], M)
              rw [show (M.2.1 114 17) = (tNm T L p) from (hK.2.2.2.2.2.2.2.1 (by omega))] at h4
              rw [show (M.2.1 120 ((nI z)).toNatClampNeg) = (Int64.ofInt (kcodes.getD (10 + z) 0)) from (nm_rd (n := 26) (ν := fun k => Int64.ofInt (kcodes.getD (10 + k) 0)) hv rfl (by omega) (by omega))] at h4
              have h4 : tNm T L p = Int64.ofInt (kcodes.getD (10 + z) 0) := (lg_cmp_eq _ _).mp h4
              refine Wn.run (tab := tb_m_isName) rfl 4 (c' := (16, [(2, .int ((nI z) + (nI 1))), (1, .int (nI 0)), (0, .ref 114)], [], M)) (o := []) rfl trivial ?_
              rw [show ((nI z) + (nI 1)) = (nI (z + 1)) from (n_add rfl rfl)]
              exact ih _ (by omega) (z + 1) 0 rfl (by omega) (by omega) ⟨fun q => absurd q (by decide), fun q => absurd h4 (q.2 z (by omega))⟩
            · show Wn _ 62 _ (40, [(2, .int (nI z)), (1, .int (nI a)), (0, .ref 114)], [], M)
              rw [show (M.2.1 114 17) = (tNm T L p) from (hK.2.2.2.2.2.2.2.1 (by omega))] at h4
              rw [show (M.2.1 120 ((nI z)).toNatClampNeg) = (Int64.ofInt (kcodes.getD (10 + z) 0)) from (nm_rd (n := 26) (ν := fun k => Int64.ofInt (kcodes.getD (10 + k) 0)) hv rfl (by omega) (by omega))] at h4
              have h4 : ¬ tNm T L p = Int64.ofInt (kcodes.getD (10 + z) 0) := fun q9 => h4 ((lg_cmp_eq _ _).mpr q9)
              refine Wn.run (tab := tb_m_isName) rfl 5 (c' := (16, [(2, .int ((nI z) + (nI 1))), (1, .int (nI 1)), (0, .ref 114)], [], M)) (o := []) rfl trivial ?_
              rw [show ((nI z) + (nI 1)) = (nI (z + 1)) from (n_add rfl rfl)]
              exact ih _ (by omega) (z + 1) 1 rfl (by omega) (by omega) ⟨fun _ => ⟨hW, fun j hj => if e : j = z then (by rw [e]; exact h4) else (loop_2.mp (by omega)).2 j (by omega)⟩, fun _ => rfl⟩
    exact loop _ 0 0 rfl (by omega) (by omega) ⟨fun q => absurd q (by decide), fun q => absurd ((tCd_1 kl).mpr q.1) h1⟩
  · show Wn _ 62 _ (8, [(0, .ref 114)], [], M)
    have h1 := (n_eq hK.2.2.2.1 rfl (by omega) (by omega)).mp (Classical.not_not.mp h1)
    refine Wn.run (tab := tb_m_isName) rfl 5 (c' := (16, [(2, .int (nI 0)), (1, .int (nI 1)), (0, .ref 114)], [], M)) (o := []) rfl trivial ?_
    have loop : ∀ (m : Nat) (z a : Nat), 26 - z = m → (z ≤ 26) → (a ≤ 1) → (a = 1 ↔ ((tKd T L mo p = 3 ∨ (10 ≤ tKd T L mo p ∧ tKd T L mo p < 36)) ∧ ∀ j, j < z → ¬ tNm T L p = Int64.ofInt (kcodes.getD (10 + j) 0))) → Wn (d + 0) 62 Q (16, [(2, .int (nI z)), (1, .int (nI a)), (0, .ref 114)], [], M) := by
      intro m
      induction m using Nat.strongRecOn with
      | _ m ih =>
        intro z a hm loop_0 loop_1 loop_2
        refine Wn.run (tab := tb_m_isName) rfl 3 (c' := (if (nI 26) ≤ (nI z) then 52 else 22, [(2, .int (nI z)), (1, .int (nI a)), (0, .ref 114)], [], M)) (o := []) rfl trivial ?_
        refine Wn.br (fun h5 => ?_) (fun h5 => ?_)
        · show Wn _ 62 _ (52, [(2, .int (nI z)), (1, .int (nI a)), (0, .ref 114)], [], M)
          have h5 := (n_le rfl rfl (by omega) (by omega)).mp h5
          refine Wn.run (tab := tb_m_isName) rfl 1 (c' := (53, [(2, .int (nI z)), (1, .int (nI a)), (0, .ref 114)], [.int (nI a)], M)) (o := []) rfl trivial ?_
          have e9 : z = 26 := by omega
          rw [e9] at loop_2
          rw [b2_nat loop_1 (loop_2.trans (name_iff hT))] at hQ
          exact Wn.zret rfl (is01_nI loop_1) hQ
        · show Wn _ 62 _ (22, [(2, .int (nI z)), (1, .int (nI a)), (0, .ref 114)], [], M)
          have h5 := mt (n_le rfl rfl (by omega) (by omega)).mpr h5
          refine Wn.run (tab := tb_m_isName) rfl 2 (c' := (if (nI a) = 0 then 44 else 26, [(2, .int (nI z)), (1, .int (nI a)), (0, .ref 114)], [], M)) (o := []) rfl trivial ?_
          refine Wn.br (fun h6 => ?_) (fun h6 => ?_)
          · show Wn _ 62 _ (44, [(2, .int (nI z)), (1, .int (nI a)), (0, .ref 114)], [], M)
            have h6 := (n_eq rfl nI_0.symm (by omega) (by omega)).mp h6
            refine Wn.run (tab := tb_m_isName) rfl 4 (c' := (16, [(2, .int ((nI z) + (nI 1))), (1, .int (nI 0)), (0, .ref 114)], [], M)) (o := []) rfl trivial ?_
            rw [show ((nI z) + (nI 1)) = (nI (z + 1)) from (n_add rfl rfl)]
            exact ih _ (by omega) (z + 1) 0 rfl (by omega) (by omega) ⟨fun q => absurd q (by decide), fun q => absurd (loop_2.mpr ⟨q.1, fun j hj => q.2 j (by omega)⟩) (by omega)⟩
          · show Wn _ 62 _ (26, [(2, .int (nI z)), (1, .int (nI a)), (0, .ref 114)], [], M)
            have h6 := mt (n_eq rfl nI_0.symm (by omega) (by omega)).mpr h6
            have hW := (loop_2.mp (by omega)).1
            refine Wn.run (tab := tb_m_isName) rfl 8 (c' := (if (lg_cmp (M.2.1 114 17) (M.2.1 120 ((nI z)).toNatClampNeg)) = 0 then 44 else 40, [(2, .int (nI z)), (1, .int (nI a)), (0, .ref 114)], [], M)) (o := [shp 114 = (0, 10), shp 114 = (0, 10), aok shp 120 3 (nI z)]) rfl ⟨rfl, rfl, (ak1 (n := 26) rfl rfl rfl (by omega))⟩ ?_
            refine Wn.br (fun h7 => ?_) (fun h7 => ?_)
            · show Wn _ 62 _ (44, [(2, .int (nI z)), (1, .int (nI a)), (0, .ref 114)], [], M)
              rw [show (M.2.1 114 17) = (tNm T L p) from (hK.2.2.2.2.2.2.2.1 (by omega))] at h7
              rw [show (M.2.1 120 ((nI z)).toNatClampNeg) = (Int64.ofInt (kcodes.getD (10 + z) 0)) from (nm_rd (n := 26) (ν := fun k => Int64.ofInt (kcodes.getD (10 + k) 0)) hv rfl (by omega) (by omega))] at h7
              have h7 : tNm T L p = Int64.ofInt (kcodes.getD (10 + z) 0) := (lg_cmp_eq _ _).mp h7
              refine Wn.run (tab := tb_m_isName) rfl 4 (c' := (16, [(2, .int ((nI z) + (nI 1))), (1, .int (nI 0)), (0, .ref 114)], [], M)) (o := []) rfl trivial ?_
              rw [show ((nI z) + (nI 1)) = (nI (z + 1)) from (n_add rfl rfl)]
              exact ih _ (by omega) (z + 1) 0 rfl (by omega) (by omega) ⟨fun q => absurd q (by decide), fun q => absurd h7 (q.2 z (by omega))⟩
            · show Wn _ 62 _ (40, [(2, .int (nI z)), (1, .int (nI a)), (0, .ref 114)], [], M)
              rw [show (M.2.1 114 17) = (tNm T L p) from (hK.2.2.2.2.2.2.2.1 (by omega))] at h7
              rw [show (M.2.1 120 ((nI z)).toNatClampNeg) = (Int64.ofInt (kcodes.getD (10 + z) 0)) from (nm_rd (n := 26) (ν := fun k => Int64.ofInt (kcodes.getD (10 + k) 0)) hv rfl (by omega) (by omega))] at h7
              have h7 : ¬ tNm T L p = Int64.ofInt (kcodes.getD (10 + z) 0) := fun q9 => h7 ((lg_cmp_eq _ _).mpr q9)
              refine Wn.run (tab := tb_m_isName) rfl 5 (c' := (16, [(2, .int ((nI z) + (nI 1))), (1, .int (nI 1)), (0, .ref 114)], [], M)) (o := []) rfl trivial ?_
              rw [show ((nI z) + (nI 1)) = (nI (z + 1)) from (n_add rfl rfl)]
              exact ih _ (by omega) (z + 1) 1 rfl (by omega) (by omega) ⟨fun _ => ⟨hW, fun j hj => if e : j = z then (by rw [e]; exact h7) else (loop_2.mp (by omega)).2 j (by omega)⟩, fun _ => rfl⟩
    exact loop _ 0 1 rfl (by omega) (by omega) ⟨fun _ => ⟨(tCd_1 kl).mp h1, fun j hj => absurd hj (by omega)⟩, fun _ => rfl⟩
theorem nf_rd {f ν : Nat → Int64} {fr n k : Nat} {t : Int32} (h : ∀ q, q < n → f (fr + q) = ν q) (e : t = nI (fr + k)) (hk : k < n) (h31 : fr + k < 2 ^ 31) : f t.toNatClampNeg = ν k := by rw [e, nI_clamp h31]; exact h k hk
theorem nf_fr {L : List Nat} {M M' : Mm} {ν : Nat → Int64} {fr n : Nat} (hF : Fr L M M') (hp : ¬ 119 ∈ L) (h : ∀ q, q < n → M.2.1 119 (fr + q) = ν q) : ∀ q, q < n → M'.2.1 119 (fr + q) = ν q := by rw [(hF 119 hp).2.1]; exact h
set_option maxRecDepth 20000 in
theorem w_m_seek (d : Nat) (M : Mm) (T : Nat → Nat) (L mo p : Nat) (hK : TkM M T L mo p) (hk : tKd T L mo p = 3) (fr n : Nat) (hfr : fr + n ≤ 12) (ν : Nat → Int64) (hN : ∀ q, q < n → M.2.1 119 (fr + q) = ν q) (Q : Po) (hQ : Q (some (.int (oI (pcl ν (tNm T L p) n)))) M) : Wn (d + 0) 65 Q (0, lv_args 0 [.ref 114, .int (nI fr), .int (nI n)], [], M) := by
  refine Wn.run (tab := tb_m_seek) rfl 2 (c' := (2, [(3, .int (nI 0)), (0, .ref 114), (1, .int (nI fr)), (2, .int (nI n))], [], M)) (o := []) rfl trivial ?_
  have loop : ∀ (m : Nat) (z : Nat), n - z = m → (z ≤ n) → (til (fun q => decide (ν q = tNm T L p)) (n - z) z = til (fun q => decide (ν q = tNm T L p)) n 0) → Wn (d + 0) 65 Q (2, [(3, .int (nI z)), (0, .ref 114), (1, .int (nI fr)), (2, .int (nI n))], [], M) := by
    intro m
    induction m using Nat.strongRecOn with
    | _ m ih =>
      intro z hm loop_0 loop_1
      refine Wn.run (tab := tb_m_seek) rfl 3 (c' := (if (nI n) ≤ (nI z) then 31 else 7, [(3, .int (nI z)), (0, .ref 114), (1, .int (nI fr)), (2, .int (nI n))], [], M)) (o := []) rfl trivial ?_
      refine Wn.br (fun h1 => ?_) (fun h1 => ?_)
      · show Wn _ 65 _ (31, [(3, .int (nI z)), (0, .ref 114), (1, .int (nI fr)), (2, .int (nI n))], [], M)
        have h1 := (n_le rfl rfl (by omega) (by omega)).mp h1
        refine Wn.run (tab := tb_m_seek) rfl 1 (c' := (32, [(3, .int (nI z)), (0, .ref 114), (1, .int (nI fr)), (2, .int (nI n))], [.int (-1 : Int32)], M)) (o := []) rfl trivial ?_
        have e9 : pcl ν (tNm T L p) n = none := by unfold pcl; rw [← loop_1, show n - z = 0 by omega]; rfl
        exact Wn.iret rfl (by rw [e9] at hQ; exact hQ)
      · show Wn _ 65 _ (7, [(3, .int (nI z)), (0, .ref 114), (1, .int (nI fr)), (2, .int (nI n))], [], M)
        have h1 := mt (n_le rfl rfl (by omega) (by omega)).mpr h1
        refine Wn.run (tab := tb_m_seek) rfl 10 (c' := (if ¬ (lg_cmp (M.2.1 119 (((nI fr) + (nI z))).toNatClampNeg) (M.2.1 114 17)) = 0 then 25 else 23, [(3, .int (nI z)), (0, .ref 114), (1, .int (nI fr)), (2, .int (nI n))], [], M)) (o := [shp 114 = (0, 10), aok shp 119 3 ((nI fr) + (nI z)), shp 114 = (0, 10)]) rfl ⟨rfl, (ak1 (n := 12) rfl rfl (n_add rfl rfl) (by omega)), rfl⟩ ?_
        refine Wn.br (fun h2 => ?_) (fun h2 => ?_)
        · show Wn _ 65 _ (25, [(3, .int (nI z)), (0, .ref 114), (1, .int (nI fr)), (2, .int (nI n))], [], M)
          rw [show (M.2.1 114 17) = (tNm T L p) from (hK.2.2.2.2.2.2.2.1 (by omega))] at h2
          rw [show (M.2.1 119 (((nI fr) + (nI z))).toNatClampNeg) = (ν z) from (nf_rd hN (n_add rfl rfl) (by omega) (by omega))] at h2
          have h2 : ¬ ν z = tNm T L p := fun q9 => h2 ((lg_cmp_eq _ _).mpr q9)
          refine Wn.run (tab := tb_m_seek) rfl 2 (c' := (2, [(3, .int ((nI z) + (nI 1))), (0, .ref 114), (1, .int (nI fr)), (2, .int (nI n))], [], M)) (o := []) rfl trivial ?_
          rw [show ((nI z) + (nI 1)) = (nI (z + 1)) from (n_add rfl rfl)]
          exact ih _ (by omega) (z + 1) rfl (by omega) (by rw [← loop_1, show n - z = (n - (z + 1)) + 1 by omega]; show _ = (if _ then _ else _); rw [if_neg (by simpa using h2)])
        · show Wn _ 65 _ (23, [(3, .int (nI z)), (0, .ref 114), (1, .int (nI fr)), (2, .int (nI n))], [], M)
          rw [show (M.2.1 114 17) = (tNm T L p) from (hK.2.2.2.2.2.2.2.1 (by omega))] at h2
          rw [show (M.2.1 119 (((nI fr) + (nI z))).toNatClampNeg) = (ν z) from (nf_rd hN (n_add rfl rfl) (by omega) (by omega))] at h2
          have h2 : ν z = tNm T L p := (lg_cmp_eq _ _).mp (Classical.not_not.mp h2)
          refine Wn.run (tab := tb_m_seek) rfl 1 (c' := (24, [(3, .int (nI z)), (0, .ref 114), (1, .int (nI fr)), (2, .int (nI n))], [.int (nI z)], M)) (o := []) rfl trivial ?_
          have e9 : pcl ν (tNm T L p) n = some z := by unfold pcl; rw [← loop_1, show n - z = (n - (z + 1)) + 1 by omega]; unfold til; rw [if_pos (by simpa using h2)]
          exact Wn.iret rfl (by rw [e9] at hQ; exact hQ)
  exact loop _ 0 rfl (by omega) rfl
theorem rv_fr {L : List Nat} {M M' : Mm} (hF : Fr L M M') (hp : ¬ 120 ∈ L) (h : Rsv M) : Rsv M' := by unfold Rsv; rw [(hF 120 hp).2.1]; exact h
set_option maxRecDepth 20000 in
theorem c_m_looksAt_ok (d : Nat) (M : Mm) (g : Nat → Int32) (T : Nat → Nat) (L mo p : Nat) (hg : M.1 114 = g) (hK : TkM M T L mo p) (hv : Rsv M) (fr n : Nat) (hfr : fr + n ≤ 12) (ν : Nat → Int64) (hN : ∀ q, q < n → M.2.1 119 (fr + q) = ν q) (hk : tKd T L mo p = 3) (q : Nat) (hq : q < 12) (hcl : pcl ν (tNm T L p) n = some q) : Wn (d + 1) 66 (PTm M g T L mo p [18] (nI q) (some (.int (nI 1)))) (0, lv_args 0 [.ref 114, .int (nI fr), .int (nI n)], [], M) := by
  have hF := fr_rf [114] M
  have hO : ∀ k, ¬ k = 17 → M.2.1 114 k = M.2.1 114 k := fun _ _ => rfl
  have kl := tKd_le T L mo p
  have hL9 := hK.2.2.2.2.2.2.2.2.2.1
  refine Wn.run (tab := tb_m_looksAt) rfl 1 (c' := (1, [(0, .ref 114), (1, .int (nI fr)), (2, .int (nI n))], [.ref 114], M)) (o := []) rfl trivial ?_
  refine Wn.callV (p := 114) (n := 1) (ix := 205) (ci := (10)) (fun r0 M0 => r0 = some (.int (b2 (tKd T L mo p = 3))) ∧ M = M0) [] [] rfl rfl rfl rfl (Nat.le_of_ble_eq_true rfl) (Nat.le_of_ble_eq_true rfl) (w_m_isName _ M T L mo p hK hv _ ⟨rfl, rfl⟩) ?_
  rintro _ _ ⟨rfl, rfl⟩
  show Wn _ 66 _ (4, [(0, .ref 114), (1, .int (nI fr)), (2, .int (nI n))], [.int (b2 (tKd T L mo p = 3))], M)
  refine Wn.run (tab := tb_m_looksAt) rfl 1 (c' := (if ¬ (b2 (tKd T L mo p = 3)) = 0 then 13 else 7, [(0, .ref 114), (1, .int (nI fr)), (2, .int (nI n))], [], M)) (o := []) rfl trivial ?_
  rw [if_pos (b2_n0.mpr (by omega))]
  show Wn _ 66 _ (13, [(0, .ref 114), (1, .int (nI fr)), (2, .int (nI n))], [], M)
  refine Wn.run (tab := tb_m_looksAt) rfl 4 (c' := (17, [(0, .ref 114), (1, .int (nI fr)), (2, .int (nI n))], [.int (nI n), .int (nI fr), .ref 114, .ref 114], M)) (o := []) rfl trivial ?_
  refine Wn.callV (p := 114) (n := 3) (ix := 209) (ci := (10)) (fun r0 M0 => r0 = some (.int (oI (pcl ν (tNm T L p) n))) ∧ M = M0) [.int (nI fr), .int (nI n)] [.ref 114] rfl rfl rfl rfl (Nat.le_of_ble_eq_true rfl) (Nat.le_of_ble_eq_true rfl) (w_m_seek _ M T L mo p hK (by omega) fr n (by omega) ν hN _ ⟨rfl, rfl⟩) ?_
  rintro _ _ ⟨rfl, rfl⟩
  show Wn _ 66 _ (20, [(0, .ref 114), (1, .int (nI fr)), (2, .int (nI n))], [.int (oI (pcl ν (tNm T L p) n)), .ref 114], M)
  rw [hcl]
  show Wn _ 66 _ (20, [(0, .ref 114), (1, .int (nI fr)), (2, .int (nI n))], [.int (nI q), .ref 114], M)
  refine Wn.run (tab := tb_m_looksAt) rfl 1 (c' := (23, [(0, .ref 114), (1, .int (nI fr)), (2, .int (nI n))], [], (mI M 114 (upd (M.1 114) 18 (nI q))))) (o := [shp 114 = (0, 10)]) rfl rfl ?_
  generalize hM2 : (mI M 114 (upd (M.1 114) 18 (nI q))) = M1
  have ht3 := TkM_up hM2 (by decide) hK
  have hk4 := fI_up hM2 hg
  have ho5 := jo_stI hM2 hO
  have hF6 := fr_sI hF hM2 (by decide)
  have hv7 := rv_fr (fr_1I hM2) (by decide) hv
  have hn8 := nf_fr (fr_1I hM2) (by decide) hN
  show Wn _ 66 _ (23, [(0, .ref 114), (1, .int (nI fr)), (2, .int (nI n))], [], M1)
  refine Wn.run (tab := tb_m_looksAt) rfl 3 (c' := (if 0 ≤ (M1.1 114 18) then 38 else 30, [(0, .ref 114), (1, .int (nI fr)), (2, .int (nI n))], [], M1)) (o := [shp 114 = (0, 10)]) rfl rfl ?_
  rw [if_pos (by rw [show (M1.1 114 18) = (nI q) from (fr_eq hk4 (show (upd g 18 (nI q)) 18 = (nI q) from pk_us))]; exact nI_ge0 (by omega))]
  show Wn _ 66 _ (38, [(0, .ref 114), (1, .int (nI fr)), (2, .int (nI n))], [], M1)
  refine Wn.run (tab := tb_m_looksAt) rfl 2 (c' := (43, [(0, .ref 114), (1, .int (nI fr)), (2, .int (nI n))], [.int (nI 1)], M1)) (o := []) rfl trivial ?_
  exact Wn.zret rfl (Or.inr rfl) ⟨rfl, ht3, by rw [hk4]; exact pk_us, by rw [hk4]; exact (Gx_up (Gx_rf _ _) (by decide)), ho5, hF6⟩
set_option maxRecDepth 20000 in
theorem c_m_looksAt_no1 (d : Nat) (M : Mm) (g : Nat → Int32) (T : Nat → Nat) (L mo p : Nat) (hg : M.1 114 = g) (hK : TkM M T L mo p) (hv : Rsv M) (fr n : Nat) (hfr : fr + n ≤ 12) (ν : Nat → Int64) (hN : ∀ q, q < n → M.2.1 119 (fr + q) = ν q) (hk : ¬ tKd T L mo p = 3) : Wn (d + 1) 66 (PFm M g 1 (tAt T L mo p) (some (.int (nI 0)))) (0, lv_args 0 [.ref 114, .int (nI fr), .int (nI n)], [], M) := by
  have hF := fr_rf [114] M
  have hO : ∀ k, ¬ k = 17 → M.2.1 114 k = M.2.1 114 k := fun _ _ => rfl
  have kl := tKd_le T L mo p
  have hL9 := hK.2.2.2.2.2.2.2.2.2.1
  refine Wn.run (tab := tb_m_looksAt) rfl 1 (c' := (1, [(0, .ref 114), (1, .int (nI fr)), (2, .int (nI n))], [.ref 114], M)) (o := []) rfl trivial ?_
  refine Wn.callV (p := 114) (n := 1) (ix := 205) (ci := (10)) (fun r0 M0 => r0 = some (.int (b2 (tKd T L mo p = 3))) ∧ M = M0) [] [] rfl rfl rfl rfl (Nat.le_of_ble_eq_true rfl) (Nat.le_of_ble_eq_true rfl) (w_m_isName _ M T L mo p hK hv _ ⟨rfl, rfl⟩) ?_
  rintro _ _ ⟨rfl, rfl⟩
  show Wn _ 66 _ (4, [(0, .ref 114), (1, .int (nI fr)), (2, .int (nI n))], [.int (b2 (tKd T L mo p = 3))], M)
  refine Wn.run (tab := tb_m_looksAt) rfl 1 (c' := (if ¬ (b2 (tKd T L mo p = 3)) = 0 then 13 else 7, [(0, .ref 114), (1, .int (nI fr)), (2, .int (nI n))], [], M)) (o := []) rfl trivial ?_
  rw [if_neg (fun h9 => h9 (b2_e0.mpr (by omega)))]
  show Wn _ 66 _ (7, [(0, .ref 114), (1, .int (nI fr)), (2, .int (nI n))], [], M)
  refine Wn.run (tab := tb_m_looksAt) rfl 2 (c' := (9, [(0, .ref 114), (1, .int (nI fr)), (2, .int (nI n))], [.int (nI 1), .ref 114], M)) (o := []) rfl trivial ?_
  refine Wn.callV (p := 114) (n := 2) (ix := 188) (ci := (10)) (PBd M g (nI 1) (nI (tAt T L mo p))) [.int (nI 1)] [] rfl rfl rfl rfl (Nat.le_of_ble_eq_true rfl) (Nat.le_of_ble_eq_true rfl) (c_m_bad _ M g T L mo p hg hK (nI 1)) ?_
  rintro _ M1 ⟨rfl, hg2, hs3, hF4⟩
  show Wn _ 66 _ (12, [(0, .ref 114), (1, .int (nI fr)), (2, .int (nI n))], [.int (nI 0)], M1)
  have hF5 := fr_tr hF hF4 (by decide)
  have hv6 := rv_fr hF4 (by decide) hv
  have hn7 := nf_fr hF4 (by decide) hN
  exact Wn.zret rfl (Or.inl rfl) ⟨rfl, by rw [hg2]; exact ((pk_un (by decide)).trans pk_us), by rw [hg2]; exact pk_us, by rw [hg2]; exact (Gx_up (Gx_up (Gx_rf _ _) (by decide)) (by decide)), hF5⟩
set_option maxRecDepth 20000 in
theorem c_m_looksAt_no3 (d : Nat) (M : Mm) (g : Nat → Int32) (T : Nat → Nat) (L mo p : Nat) (hg : M.1 114 = g) (hK : TkM M T L mo p) (hv : Rsv M) (fr n : Nat) (hfr : fr + n ≤ 12) (ν : Nat → Int64) (hN : ∀ q, q < n → M.2.1 119 (fr + q) = ν q) (hk : tKd T L mo p = 3) (hcl : pcl ν (tNm T L p) n = none) : Wn (d + 1) 66 (PFm M g 3 (tAt T L mo p) (some (.int (nI 0)))) (0, lv_args 0 [.ref 114, .int (nI fr), .int (nI n)], [], M) := by
  have hF := fr_rf [114] M
  have hO : ∀ k, ¬ k = 17 → M.2.1 114 k = M.2.1 114 k := fun _ _ => rfl
  have kl := tKd_le T L mo p
  have hL9 := hK.2.2.2.2.2.2.2.2.2.1
  refine Wn.run (tab := tb_m_looksAt) rfl 1 (c' := (1, [(0, .ref 114), (1, .int (nI fr)), (2, .int (nI n))], [.ref 114], M)) (o := []) rfl trivial ?_
  refine Wn.callV (p := 114) (n := 1) (ix := 205) (ci := (10)) (fun r0 M0 => r0 = some (.int (b2 (tKd T L mo p = 3))) ∧ M = M0) [] [] rfl rfl rfl rfl (Nat.le_of_ble_eq_true rfl) (Nat.le_of_ble_eq_true rfl) (w_m_isName _ M T L mo p hK hv _ ⟨rfl, rfl⟩) ?_
  rintro _ _ ⟨rfl, rfl⟩
  show Wn _ 66 _ (4, [(0, .ref 114), (1, .int (nI fr)), (2, .int (nI n))], [.int (b2 (tKd T L mo p = 3))], M)
  refine Wn.run (tab := tb_m_looksAt) rfl 1 (c' := (if ¬ (b2 (tKd T L mo p = 3)) = 0 then 13 else 7, [(0, .ref 114), (1, .int (nI fr)), (2, .int (nI n))], [], M)) (o := []) rfl trivial ?_
  rw [if_pos (b2_n0.mpr (by omega))]
  show Wn _ 66 _ (13, [(0, .ref 114), (1, .int (nI fr)), (2, .int (nI n))], [], M)
  refine Wn.run (tab := tb_m_looksAt) rfl 4 (c' := (17, [(0, .ref 114), (1, .int (nI fr)), (2, .int (nI n))], [.int (nI n), .int (nI fr), .ref 114, .ref 114], M)) (o := []) rfl trivial ?_
  refine Wn.callV (p := 114) (n := 3) (ix := 209) (ci := (10)) (fun r0 M0 => r0 = some (.int (oI (pcl ν (tNm T L p) n))) ∧ M = M0) [.int (nI fr), .int (nI n)] [.ref 114] rfl rfl rfl rfl (Nat.le_of_ble_eq_true rfl) (Nat.le_of_ble_eq_true rfl) (w_m_seek _ M T L mo p hK (by omega) fr n (by omega) ν hN _ ⟨rfl, rfl⟩) ?_
  rintro _ _ ⟨rfl, rfl⟩
  show Wn _ 66 _ (20, [(0, .ref 114), (1, .int (nI fr)), (2, .int (nI n))], [.int (oI (pcl ν (tNm T L p) n)), .ref 114], M)
  rw [hcl]
  show Wn _ 66 _ (20, [(0, .ref 114), (1, .int (nI fr)), (2, .int (nI n))], [.int (-1 : Int32), .ref 114], M)
  refine Wn.run (tab := tb_m_looksAt) rfl 1 (c' := (23, [(0, .ref 114), (1, .int (nI fr)), (2, .int (nI n))], [], (mI M 114 (upd (M.1 114) 18 (-1 : Int32))))) (o := [shp 114 = (0, 10)]) rfl rfl ?_
  generalize hM2 : (mI M 114 (upd (M.1 114) 18 (-1 : Int32))) = M1
  have ht3 := TkM_up hM2 (by decide) hK
  have hk4 := fI_up hM2 hg
  have ho5 := jo_stI hM2 hO
  have hF6 := fr_sI hF hM2 (by decide)
  have hv7 := rv_fr (fr_1I hM2) (by decide) hv
  have hn8 := nf_fr (fr_1I hM2) (by decide) hN
  show Wn _ 66 _ (23, [(0, .ref 114), (1, .int (nI fr)), (2, .int (nI n))], [], M1)
  refine Wn.run (tab := tb_m_looksAt) rfl 3 (c' := (if 0 ≤ (M1.1 114 18) then 38 else 30, [(0, .ref 114), (1, .int (nI fr)), (2, .int (nI n))], [], M1)) (o := [shp 114 = (0, 10)]) rfl rfl ?_
  rw [if_neg (by rw [show (M1.1 114 18) = (-1 : Int32) from (fr_eq hk4 (show (upd g 18 (-1 : Int32)) 18 = (-1 : Int32) from pk_us))]; decide)]
  show Wn _ 66 _ (30, [(0, .ref 114), (1, .int (nI fr)), (2, .int (nI n))], [], M1)
  refine Wn.run (tab := tb_m_looksAt) rfl 2 (c' := (32, [(0, .ref 114), (1, .int (nI fr)), (2, .int (nI n))], [.int (nI 3), .ref 114], M1)) (o := []) rfl trivial ?_
  refine Wn.callV (p := 114) (n := 2) (ix := 188) (ci := (10)) (PBd M1 (upd g 18 (-1 : Int32)) (nI 3) (nI (tAt T L mo p))) [.int (nI 3)] [] rfl rfl rfl rfl (Nat.le_of_ble_eq_true rfl) (Nat.le_of_ble_eq_true rfl) (c_m_bad _ M1 (upd g 18 (-1 : Int32)) T L mo p hk4 ht3 (nI 3)) ?_
  rintro _ M9 ⟨rfl, hg10, hs11, hF12⟩
  show Wn _ 66 _ (35, [(0, .ref 114), (1, .int (nI fr)), (2, .int (nI n))], [.int (nI 0)], M9)
  have hF13 := fr_tr hF6 hF12 (by decide)
  have hv14 := rv_fr hF12 (by decide) hv7
  have hn15 := nf_fr hF12 (by decide) hn8
  refine Wn.run (tab := tb_m_looksAt) rfl 1 (c' := (if (nI 0) = 0 then 42 else 38, [(0, .ref 114), (1, .int (nI fr)), (2, .int (nI n))], [], M9)) (o := []) rfl trivial ?_
  rw [if_pos (show (nI 0) = 0 by decide)]
  show Wn _ 66 _ (42, [(0, .ref 114), (1, .int (nI fr)), (2, .int (nI n))], [], M9)
  refine Wn.run (tab := tb_m_looksAt) rfl 1 (c' := (43, [(0, .ref 114), (1, .int (nI fr)), (2, .int (nI n))], [.int (nI 0)], M9)) (o := []) rfl trivial ?_
  exact Wn.zret rfl (Or.inl rfl) ⟨rfl, by rw [hg10]; exact ((pk_un (by decide)).trans pk_us), by rw [hg10]; exact pk_us, by rw [hg10]; exact (Gx_up (Gx_up (Gx_up (Gx_rf _ _) (by decide)) (by decide)) (by decide)), hF13⟩
