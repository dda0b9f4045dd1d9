/-! The lines of a lake's text. -/
/-- where one is, the draft (as the reference has it), its names, what was told once, the cells told -/
abbrev Dst : Type := Nat × (Nat → Nat) × (Nat → Int64) × Nat × Int64
def rdLk (T : Nat → Nat) (L mo p : Nat) (δ : Nat → Nat) (ν : Nat → Int64) (o : Nat) (ic : Int64) : Flt ⊕ Dst :=
  if ¬ ic = 0 ∨ 0 < δ 2 ∨ o.testBit 4 = true then .inl (3, tAt T L mo p) else
  match tkN T L mo (tNx T L p) 2 8 with
  | .inl f => .inl f
  | .inr (w, p1) => match tkN T L mo p1 2 8 with
    | .inl f => .inl f
    | .inr (h, p2) => match tkN T L mo p2 0 9 with
      | .inl f => .inl f
      | .inr (i, p3) => .inr (p3, fz δ w h i, ν, o ||| 2 ^ 4, ic)
/-- the reference behind a line -/
def PRm (M0 : Mm) (g : Nat → Int32) (T : Nat → Nat) (L mo : Nat) (res : Flt ⊕ Dst) : Po := fun r0 M' => Gx KR g (M'.1 114) ∧ Fr [114, 117, 119] M0 M' ∧ (∀ q, q < 6 → M'.2.1 119 q = M0.2.1 119 q) ∧ match res with
  | .inl f => r0 = some (.int (nI 0)) ∧ M'.1 114 15 = nI f.1 ∧ M'.1 114 16 = nI f.2
  | .inr st => r0 = some (.int (nI 1)) ∧ TkM M' T L mo st.1 ∧ (∀ k, k < 90 → M'.1 117 k = nI (st.2.1 k)) ∧ (∀ q, q < st.2.1 2 → M'.2.1 119 (6 + q) = st.2.2.1 q) ∧ M'.1 114 20 = nI st.2.2.2.1 ∧ M'.2.1 114 21 = st.2.2.2.2 ∧ M'.1 114 15 = g 15
theorem ic_fr {L : List Nat} {M M' : Mm} {ic : Int64} (hF : Fr L M M') (hp : ¬ 114 ∈ L) (h : M.2.1 114 21 = ic) : M'.2.1 114 21 = ic := by rw [(hF 114 hp).2.1]; exact h
theorem n6_fr {L : List Nat} {M M' : Mm} {J : Nat → Int64} (hF : Fr L M M') (hp : ¬ 119 ∈ L) (h : ∀ q, q < 6 → M.2.1 119 q = J q) : ∀ q, q < 6 → M'.2.1 119 q = J q := by rw [(hF 119 hp).2.1]; exact h
theorem n6_up {M M' : Mm} {J : Nat → Int64} {ix i : Nat} {v : Int64} (hM : mJ M 119 (vp_updL (M.2.1 119) ix v) = M') (hi : ix = i) (h6 : 6 ≤ i) (h : ∀ q, q < 6 → M.2.1 119 q = J q) : ∀ q, q < 6 → M'.2.1 119 q = J q := fun q hq => by rw [mJ_eq hM, hi, pk_uLn (show q ≠ i by omega)]; exact h q hq
theorem TkM_bd {M M' : Mm} {g : Nat → Int32} {T : Nat → Nat} {L mo p : Nat} {a b : Int32} (hg : M.1 114 = g) (h1 : M'.1 114 = upd (upd g 15 a) 16 b) (h2 : M'.2 = M.2) (hF : Fr [114] M M') (h : TkM M T L mo p) : TkM M' T L mo p := by
  have e : ∀ x, x ∈ [3, 4, 5, 11, 12, 14] → M'.1 114 x = M.1 114 x := fun x hx => by
    rw [h1, hg, pk_un (fun e => absurd (e ▸ hx) (by decide)), pk_un (fun e => absurd (e ▸ hx) (by decide))]
  have e2 : M'.2.1 114 = M.2.1 114 := by rw [h2]
  have e3 : M'.1 115 = M.1 115 := (hF 115 (by decide)).1
  unfold TkM
  rw [e 3 (by decide), e 4 (by decide), e 5 (by decide), e 11 (by decide), e 12 (by decide), e 14 (by decide), e2, e3]
  exact h
set_option maxRecDepth 20000 in
theorem c_m_once_noB (d : Nat) (M : Mm) (g : Nat → Int32) (T : Nat → Nat) (L mo p : Nat) (hg : M.1 114 = g) (hK : TkM M T L mo p) (o k : Nat) (ho : g 20 = nI o) (ho5 : o < 32) (hk5 : k < 5) (hb : o.testBit k = true) : Wn (d + 1) 67 (PBd M g (nI 3) (nI (tAt T L mo p))) (0, lv_args 0 [.ref 114, .int (nI k)], [], M) := by
  have hF := fr_rf [114] M
  have hO : ∀ k, ¬ k = 17 → M.2.1 114 k = M.2.1 114 k := fun _ _ => rfl
  have kl := tKd_le T L mo p
  have hL9 := hK.2.2.2.2.2.2.2.2.2.1
  refine Wn.run (tab := tb_m_once) rfl 3 (c' := (5, [(0, .ref 114), (1, .int (nI k))], [.int (nI k), .int (M.1 114 20)], M)) (o := [shp 114 = (0, 10)]) rfl rfl ?_
  rw [show (M.1 114 20) = (nI o) from (fr_eq hg (show g 20 = (nI o) from ho))]
  refine Wn.callS (n := 2) (ix := 216) (fun r0 M0 => r0 = some (.int (b2 (o.testBit k = true))) ∧ M = M0) [.int (nI o), .int (nI k)] [] rfl rfl rfl (Nat.le_of_ble_eq_true rfl) (Nat.le_of_ble_eq_true rfl) (w_m_bitN _ o k (by omega) (by omega) M _ ⟨rfl, rfl⟩) ?_
  rintro _ _ ⟨rfl, rfl⟩
  show Wn _ 67 _ (8, [(0, .ref 114), (1, .int (nI k))], [.int (b2 (o.testBit k = true))], M)
  refine Wn.run (tab := tb_m_once) rfl 1 (c' := (if (b2 (o.testBit k = true)) = 0 then 17 else 11, [(0, .ref 114), (1, .int (nI k))], [], M)) (o := []) rfl trivial ?_
  rw [if_neg (b2_n0.mpr hb)]
  show Wn _ 67 _ (11, [(0, .ref 114), (1, .int (nI k))], [], M)
  refine Wn.run (tab := tb_m_once) rfl 2 (c' := (13, [(0, .ref 114), (1, .int (nI k))], [.int (nI 3), .ref 114], M)) (o := []) rfl trivial ?_
  -- the end
  refine Wn.callV (p := 114) (n := 2) (ix := 188) (ci := (10)) (PBd M g (nI 3) (nI (tAt T L mo p))) [.int (nI 3)] [] rfl rfl rfl rfl (Nat.le_of_ble_eq_true rfl) (Nat.le_of_ble_eq_true rfl) (c_m_bad _ M g T L mo p hg hK (nI 3)) ?_
  rintro r0 M9 ⟨rfl, q1, q2, q3⟩
  show Wn _ 67 _ (16, [(0, .ref 114), (1, .int (nI k))], [.int (nI 0)], M9)
  exact Wn.zret rfl (Or.inl rfl) ⟨rfl, q1, q2, q3⟩
/-- the bounds of a draft -/
def DB (δ : Nat → Nat) : Prop := (2 ≤ δ 0 ∧ δ 0 ≤ 8) ∧ (2 ≤ δ 1 ∧ δ 1 ≤ 8) ∧ δ 2 ≤ 6 ∧ (∀ q, q < δ 2 → δ (72 + q) < 64 ∧ 1 ≤ δ (78 + q) ∧ δ (78 + q) ≤ 5 ∧ δ (84 + q) ≤ 8) ∧ ∀ c, c < 64 → δ (8 + c) ≤ 9
set_option maxRecDepth 20000 in
theorem c_m_readLake (d : Nat) (M : Mm) (g : Nat → Int32) (T : Nat → Nat) (L mo p : Nat) (hg : M.1 114 = g) (hK : TkM M T L mo p) (δ : Nat → Nat) (hh : ∀ k, k < 90 → M.1 117 k = nI (δ k)) (hδ : DB δ) (ν : Nat → Int64) (hN : ∀ q, q < δ 2 → M.2.1 119 (6 + q) = ν q) (o : Nat) (ho : g 20 = nI o) (ho5 : o < 32) (ic : Int64) (hic : M.2.1 114 21 = ic) (hv : Rsv M) (hk : tKd T L mo p = 10) : Wn (d + 3) 69 (PRm M g T L mo (rdLk T L mo p δ ν o ic)) (0, lv_args 0 [.ref 114], [], M) := by
  have hF := fr_rf [114, 117, 119] M
  have h6 : ∀ q, q < 6 → M.2.1 119 q = M.2.1 119 q := fun _ _ => rfl
  have kl := tKd_le T L mo p
  obtain ⟨b0, b1, b2_9, bq, bc⟩ := hδ
  refine Wn.run (tab := tb_m_readLake) rfl 5 (c' := (if ¬ (lg_cmp (M.2.1 114 21) (0 : Int64)) = 0 then 26 else 9, [(0, .ref 114)], [], M)) (o := [shp 114 = (0, 10)]) rfl rfl ?_
  refine Wn.br (fun h1 => ?_) (fun h1 => ?_)
  · show Wn _ 69 _ (26, [(0, .ref 114)], [], M)
    rw [show (M.2.1 114 21) = ic from hic] at h1
    have h1 : ¬ ic = 0 := fun q9 => h1 ((lg_cmp_eq _ _).mpr q9)
    refine Wn.run (tab := tb_m_readLake) rfl 2 (c' := (28, [(0, .ref 114)], [.int (nI 3), .ref 114], M)) (o := []) rfl trivial ?_
    refine Wn.callV (p := 114) (n := 2) (ix := 188) (ci := (10)) (PBd M g (nI 3) (nI (tAt T L mo p))) [.int (nI 3)] [] rfl rfl rfl rfl (Nat.le_of_ble_eq_true rfl) (Nat.le_of_ble_eq_true rfl) (c_m_bad _ M g T L mo p hg hK (nI 3)) ?_
    rintro _ M1 ⟨rfl, hg2, hs3, hF4⟩
    show Wn _ 69 _ (31, [(0, .ref 114)], [.int (nI 0)], M1)
    have hk5 := fr_row hF4 (by decide) hh
    have h66 := n6_fr hF4 (by decide) h6
    have hn7 := nf_fr hF4 (by decide) hN
    have hv8 := rv_fr hF4 (by decide) hv
    have hF9 := fr_tr hF hF4 (by decide)
    have e9 : rdLk T L mo p δ ν o ic = .inl (3, tAt T L mo p) := by unfold rdLk; rw [if_pos (by exact Or.inl h1)]
    rw [e9]
    exact Wn.zret rfl (Or.inl rfl) ⟨by rw [hg2]; exact (Gx_up (Gx_up (Gx_rf _ _) (by decide)) (by decide)), hF9, h66, rfl, by rw [hg2]; exact ((pk_un (by decide)).trans pk_us), by rw [hg2]; exact pk_us⟩
  · show Wn _ 69 _ (9, [(0, .ref 114)], [], M)
    rw [show (M.2.1 114 21) = ic from hic] at h1
    have h1 : ic = 0 := (lg_cmp_eq _ _).mp (Classical.not_not.mp h1)
    refine Wn.run (tab := tb_m_readLake) rfl 5 (c' := (if 0 < (M.1 117 2) then 26 else 18, [(0, .ref 114)], [], M)) (o := [shp 114 = (0, 10), aok shp 117 0 (nI 2)]) rfl ⟨rfl, ⟨rfl, vp_in_nI (by decide) (by decide)⟩⟩ ?_
    refine Wn.br (fun h2 => ?_) (fun h2 => ?_)
    · show Wn _ 69 _ (26, [(0, .ref 114)], [], M)
      have h2 := (n_lt nI_0.symm (rd0 hh (by omega)) (by omega) (by omega)).mp h2
      refine Wn.run (tab := tb_m_readLake) rfl 2 (c' := (28, [(0, .ref 114)], [.int (nI 3), .ref 114], M)) (o := []) rfl trivial ?_
      refine Wn.callV (p := 114) (n := 2) (ix := 188) (ci := (10)) (PBd M g (nI 3) (nI (tAt T L mo p))) [.int (nI 3)] [] rfl rfl rfl rfl (Nat.le_of_ble_eq_true rfl) (Nat.le_of_ble_eq_true rfl) (c_m_bad _ M g T L mo p hg hK (nI 3)) ?_
      rintro _ M10 ⟨rfl, hg11, hs12, hF13⟩
      show Wn _ 69 _ (31, [(0, .ref 114)], [.int (nI 0)], M10)
      have hk14 := fr_row hF13 (by decide) hh
      have h615 := n6_fr hF13 (by decide) h6
      have hn16 := nf_fr hF13 (by decide) hN
      have hv17 := rv_fr hF13 (by decide) hv
      have hF18 := fr_tr hF hF13 (by decide)
      have e9 : rdLk T L mo p δ ν o ic = .inl (3, tAt T L mo p) := by unfold rdLk; rw [if_pos (by exact Or.inr (Or.inl (by omega)))]
      rw [e9]
      exact Wn.zret rfl (Or.inl rfl) ⟨by rw [hg11]; exact (Gx_up (Gx_up (Gx_rf _ _) (by decide)) (by decide)), hF18, h615, rfl, by rw [hg11]; exact ((pk_un (by decide)).trans pk_us), by rw [hg11]; exact pk_us⟩
    · show Wn _ 69 _ (18, [(0, .ref 114)], [], M)
      have h2 := mt (n_lt nI_0.symm (rd0 hh (by omega)) (by omega) (by omega)).mpr h2
      refine Wn.run (tab := tb_m_readLake) rfl 2 (c' := (20, [(0, .ref 114)], [.int (nI 4), .ref 114], M)) (o := []) rfl trivial ?_
      by_cases hb1 : o.testBit 4 = true
      · refine Wn.callV (p := 114) (n := 2) (ix := 232) (ci := (10)) (PBd M g (nI 3) (nI (tAt T L mo p))) [.int (nI 4)] [] rfl rfl rfl rfl (Nat.le_of_ble_eq_true rfl) (Nat.le_of_ble_eq_true rfl) (c_m_once_noB _ M g T L mo p hg hK o 4 ho (by omega) (by omega) hb1) ?_
        rintro _ M26 ⟨rfl, hg23, hs24, hF25⟩
        show Wn _ 69 _ (23, [(0, .ref 114)], [.int (nI 0)], M26)
        have ht27 := TkM_bd hg hg23 hs24 hF25 hK
        have hk28 := fr_row hF25 (by decide) hh
        have hi29 : M26.2.1 114 21 = ic := by rw [hs24]; exact hic
        have h630 := n6_fr hF25 (by decide) h6
        have hn31 := nf_fr hF25 (by decide) hN
        have hv32 := rv_fr hF25 (by decide) hv
        have hF33 := fr_tr hF hF25 (by decide)
        refine Wn.run (tab := tb_m_readLake) rfl 1 (c' := (if ¬ (nI 0) = 0 then 32 else 26, [(0, .ref 114)], [], M26)) (o := []) rfl trivial ?_
        rw [if_neg (show ¬ (¬ (nI 0) = 0) by decide)]
        show Wn _ 69 _ (26, [(0, .ref 114)], [], M26)
        refine Wn.run (tab := tb_m_readLake) rfl 2 (c' := (28, [(0, .ref 114)], [.int (nI 3), .ref 114], M26)) (o := []) rfl trivial ?_
        refine Wn.callV (p := 114) (n := 2) (ix := 188) (ci := (10)) (PBd M26 (upd (upd g 15 (nI 3)) 16 (nI (tAt T L mo p))) (nI 3) (nI (tAt T L mo p))) [.int (nI 3)] [] rfl rfl rfl rfl (Nat.le_of_ble_eq_true rfl) (Nat.le_of_ble_eq_true rfl) (c_m_bad _ M26 (upd (upd g 15 (nI 3)) 16 (nI (tAt T L mo p))) T L mo p hg23 ht27 (nI 3)) ?_
        rintro _ M34 ⟨rfl, hg35, hs36, hF37⟩
        show Wn _ 69 _ (31, [(0, .ref 114)], [.int (nI 0)], M34)
        have hk38 := fr_row hF37 (by decide) hk28
        have h639 := n6_fr hF37 (by decide) h630
        have hn40 := nf_fr hF37 (by decide) hn31
        have hv41 := rv_fr hF37 (by decide) hv32
        have hF42 := fr_tr hF33 hF37 (by decide)
        have e9 : rdLk T L mo p δ ν o ic = .inl (3, tAt T L mo p) := by unfold rdLk; rw [if_pos (by exact Or.inr (Or.inr hb1))]
        rw [e9]
        exact Wn.zret rfl (Or.inl rfl) ⟨by rw [hg35]; exact (Gx_up (Gx_up (Gx_up (Gx_up (Gx_rf _ _) (by decide)) (by decide)) (by decide)) (by decide)), hF42, h639, rfl, by rw [hg35]; exact ((pk_un (by decide)).trans pk_us), by rw [hg35]; exact pk_us⟩
      · have hnb := hb1
        have hno : ¬ (¬ ic = 0 ∨ 0 < δ 2 ∨ o.testBit 4 = true) := fun q9 => q9.elim (fun q8 => q8 h1) (fun q8 => q8.elim (fun q7 => absurd q7 (by omega)) hb1)
        refine Wn.callV (p := 114) (n := 2) (ix := 232) (ci := (10)) (PO1 M g T L mo (tNx T L p) (o ||| 2 ^ 4)) [.int (nI 4)] [] rfl rfl rfl rfl (Nat.le_of_ble_eq_true rfl) (Nat.le_of_ble_eq_true rfl) (c_m_once_ok _ M g T L mo p hg hK o 4 ho (by omega) (by omega) hb1 (by omega) (by omega)) ?_
        rintro _ M48 ⟨rfl, ht43, h2044, hx45, hj46, hF47⟩
        show Wn _ 69 _ (23, [(0, .ref 114)], [.int (nI 1)], M48)
        obtain ⟨g49, hg50⟩ : ∃ g9, M48.1 114 = g9 := ⟨_, rfl⟩
        have hx51 := hx45
        rw [hg50] at hx51
        have hf52 : g49 18 = (g 18) := (hx51 18 (by decide)).trans (show g 18 = (g 18) from rfl)
        have hf53 : g49 15 = (g 15) := (hx51 15 (by decide)).trans (show g 15 = (g 15) from rfl)
        have hf54 : g49 20 = nI (o ||| 2 ^ 4) := by rw [← hg50]; exact h2044
        have hk55 := fr_row hF47 (by decide) hh
        have hi56 := (hj46 21 (by decide)).trans hic
        have h657 := n6_fr hF47 (by decide) h6
        have hn58 := nf_fr hF47 (by decide) hN
        have hv59 := rv_fr hF47 (by decide) hv
        have hF60 := fr_tr hF hF47 (by decide)
        refine Wn.run (tab := tb_m_readLake) rfl 1 (c' := (if ¬ (nI 1) = 0 then 32 else 26, [(0, .ref 114)], [], M48)) (o := []) rfl trivial ?_
        rw [if_pos (show ¬ (nI 1) = 0 by decide)]
        show Wn _ 69 _ (32, [(0, .ref 114)], [], M48)
        refine Wn.run (tab := tb_m_readLake) rfl 3 (c' := (36, [(0, .ref 114)], [.int (nI 8), .int (nI 2), .ref 114], M48)) (o := []) rfl trivial ?_
        cases hc2 : tkN T L mo (tNx T L p) 2 8 with
        | inl f2 =>
          refine Wn.callV (p := 114) (n := 3) (ix := 201) (ci := (10)) (PFm M48 g49 f2.1 f2.2 (some (.int (nI 0)))) [.int (nI 2), .int (nI 8)] [] rfl rfl rfl rfl (Nat.le_of_ble_eq_true rfl) (Nat.le_of_ble_eq_true rfl) (c_m_takesE _ M48 g49 T L mo (tNx T L p) hg50 ht43 2 8 (by omega) (by omega) f2 hc2) ?_
          rintro _ M65 ⟨rfl, h1561, h1662, hx63, hF64⟩
          show Wn _ 69 _ (39, [(0, .ref 114)], [.int (nI 0)], M65)
          obtain ⟨g66, hg67⟩ : ∃ g9, M65.1 114 = g9 := ⟨_, rfl⟩
          have hx68 := hx63
          rw [hg67] at hx68
          have hf69 : g66 15 = nI f2.1 := by rw [← hg67]; exact h1561
          have hf70 : g66 16 = nI f2.2 := by rw [← hg67]; exact h1662
          have hk71 := fr_row hF64 (by decide) hk55
          have h672 := n6_fr hF64 (by decide) h657
          have hn73 := nf_fr hF64 (by decide) hn58
          have hF74 := fr_tr hF60 hF64 (by decide)
          refine Wn.run (tab := tb_m_readLake) rfl 1 (c' := (if ¬ (nI 0) = 0 then 44 else 42, [(0, .ref 114)], [], M65)) (o := []) rfl trivial ?_
          rw [if_neg (show ¬ (¬ (nI 0) = 0) by decide)]
          show Wn _ 69 _ (42, [(0, .ref 114)], [], M65)
          refine Wn.run (tab := tb_m_readLake) rfl 1 (c' := (43, [(0, .ref 114)], [.int (nI 0)], M65)) (o := []) rfl trivial ?_
          have e9 : rdLk T L mo p δ ν o ic = .inl f2 := by unfold rdLk; rw [if_neg hno]; simp only [hc2]
          rw [e9]
          exact Wn.zret rfl (Or.inl rfl) ⟨by rw [hg67]; exact (Gx_tr (Gx_tr (Gx_rf _ _) (Gx_mono hx51 (by decide))) (Gx_mono hx68 (by decide))), hF74, h672, rfl, by rw [hg67]; exact hf69, by rw [hg67]; exact hf70⟩
        | inr v2 =>
          obtain ⟨x2, p2⟩ := v2
          refine Wn.callV (p := 114) (n := 3) (ix := 201) (ci := (10)) (PTm M48 g49 T L mo p2 [4, 11, 12, 13, 14, 18] (nI x2) (some (.int (nI 1)))) [.int (nI 2), .int (nI 8)] [] rfl rfl rfl rfl (Nat.le_of_ble_eq_true rfl) (Nat.le_of_ble_eq_true rfl) (c_m_takesV _ M48 g49 T L mo (tNx T L p) hg50 ht43 2 8 (by omega) (by omega) (x2, p2) hc2) ?_
          rintro _ M80 ⟨rfl, ht75, h1876, hx77, hj78, hF79⟩
          show Wn _ 69 _ (39, [(0, .ref 114)], [.int (nI 1)], M80)
          obtain ⟨g81, hg82⟩ : ∃ g9, M80.1 114 = g9 := ⟨_, rfl⟩
          have hx83 := hx77
          rw [hg82] at hx83
          have hf84 : g81 20 = (nI (o ||| 2 ^ 4)) := (hx83 20 (by decide)).trans (show g49 20 = (nI (o ||| 2 ^ 4)) from hf54)
          have hf85 : g81 15 = (g 15) := (hx83 15 (by decide)).trans (show g49 15 = (g 15) from hf53)
          have hf86 : g81 18 = nI x2 := by rw [← hg82]; exact h1876
          have hk87 := fr_row hF79 (by decide) hk55
          have hi88 := (hj78 21 (by decide)).trans hi56
          have h689 := n6_fr hF79 (by decide) h657
          have hn90 := nf_fr hF79 (by decide) hn58
          have hv91 := rv_fr hF79 (by decide) hv59
          have hF92 := fr_tr hF60 hF79 (by decide)
          have bd2 : 2 ≤ x2 ∧ x2 ≤ 8 := by obtain ⟨q1, q2, q3⟩ := tkN_inr hc2; cases q3; exact q2
          have kl2 := tKd_le T L mo p2
          refine Wn.run (tab := tb_m_readLake) rfl 1 (c' := (if ¬ (nI 1) = 0 then 44 else 42, [(0, .ref 114)], [], M80)) (o := []) rfl trivial ?_
          rw [if_pos (show ¬ (nI 1) = 0 by decide)]
          show Wn _ 69 _ (44, [(0, .ref 114)], [], M80)
          refine Wn.run (tab := tb_m_readLake) rfl 6 (c' := (53, [(1, .int (M80.1 114 18)), (0, .ref 114)], [.int (nI 8), .int (nI 2), .ref 114], M80)) (o := [shp 114 = (0, 10)]) rfl rfl ?_
          rw [show (M80.1 114 18) = (nI x2) from (fr_eq hg82 (show g81 18 = (nI x2) from hf86))]
          cases hc3 : tkN T L mo p2 2 8 with
          | inl f3 =>
            refine Wn.callV (p := 114) (n := 3) (ix := 201) (ci := (10)) (PFm M80 g81 f3.1 f3.2 (some (.int (nI 0)))) [.int (nI 2), .int (nI 8)] [] rfl rfl rfl rfl (Nat.le_of_ble_eq_true rfl) (Nat.le_of_ble_eq_true rfl) (c_m_takesE _ M80 g81 T L mo p2 hg82 ht75 2 8 (by omega) (by omega) f3 hc3) ?_
            rintro _ M97 ⟨rfl, h1593, h1694, hx95, hF96⟩
            show Wn _ 69 _ (56, [(1, .int (nI x2)), (0, .ref 114)], [.int (nI 0)], M97)
            obtain ⟨g98, hg99⟩ : ∃ g9, M97.1 114 = g9 := ⟨_, rfl⟩
            have hx100 := hx95
            rw [hg99] at hx100
            have hf101 : g98 15 = nI f3.1 := by rw [← hg99]; exact h1593
            have hf102 : g98 16 = nI f3.2 := by rw [← hg99]; exact h1694
            have hk103 := fr_row hF96 (by decide) hk87
            have h6104 := n6_fr hF96 (by decide) h689
            have hn105 := nf_fr hF96 (by decide) hn90
            have hF106 := fr_tr hF92 hF96 (by decide)
            refine Wn.run (tab := tb_m_readLake) rfl 1 (c' := (if ¬ (nI 0) = 0 then 61 else 59, [(1, .int (nI x2)), (0, .ref 114)], [], M97)) (o := []) rfl trivial ?_
            rw [if_neg (show ¬ (¬ (nI 0) = 0) by decide)]
            show Wn _ 69 _ (59, [(1, .int (nI x2)), (0, .ref 114)], [], M97)
            refine Wn.run (tab := tb_m_readLake) rfl 1 (c' := (60, [(1, .int (nI x2)), (0, .ref 114)], [.int (nI 0)], M97)) (o := []) rfl trivial ?_
            have e9 : rdLk T L mo p δ ν o ic = .inl f3 := by unfold rdLk; rw [if_neg hno]; simp only [hc2, hc3]
            rw [e9]
            exact Wn.zret rfl (Or.inl rfl) ⟨by rw [hg99]; exact (Gx_tr (Gx_tr (Gx_tr (Gx_rf _ _) (Gx_mono hx51 (by decide))) (Gx_mono hx83 (by decide))) (Gx_mono hx100 (by decide))), hF106, h6104, rfl, by rw [hg99]; exact hf101, by rw [hg99]; exact hf102⟩
          | inr v3 =>
            obtain ⟨x3, p3⟩ := v3
            refine Wn.callV (p := 114) (n := 3) (ix := 201) (ci := (10)) (PTm M80 g81 T L mo p3 [4, 11, 12, 13, 14, 18] (nI x3) (some (.int (nI 1)))) [.int (nI 2), .int (nI 8)] [] rfl rfl rfl rfl (Nat.le_of_ble_eq_true rfl) (Nat.le_of_ble_eq_true rfl) (c_m_takesV _ M80 g81 T L mo p2 hg82 ht75 2 8 (by omega) (by omega) (x3, p3) hc3) ?_
            rintro _ M112 ⟨rfl, ht107, h18108, hx109, hj110, hF111⟩
            show Wn _ 69 _ (56, [(1, .int (nI x2)), (0, .ref 114)], [.int (nI 1)], M112)
            obtain ⟨g113, hg114⟩ : ∃ g9, M112.1 114 = g9 := ⟨_, rfl⟩
            have hx115 := hx109
            rw [hg114] at hx115
            have hf116 : g113 20 = (nI (o ||| 2 ^ 4)) := (hx115 20 (by decide)).trans (show g81 20 = (nI (o ||| 2 ^ 4)) from hf84)
            have hf117 : g113 15 = (g 15) := (hx115 15 (by decide)).trans (show g81 15 = (g 15) from hf85)
            have hf118 : g113 18 = nI x3 := by rw [← hg114]; exact h18108
            have hk119 := fr_row hF111 (by decide) hk87
            have hi120 := (hj110 21 (by decide)).trans hi88
            have h6121 := n6_fr hF111 (by decide) h689
            have hn122 := nf_fr hF111 (by decide) hn90
            have hv123 := rv_fr hF111 (by decide) hv91
            have hF124 := fr_tr hF92 hF111 (by decide)
            have bd3 : 2 ≤ x3 ∧ x3 ≤ 8 := by obtain ⟨q1, q2, q3⟩ := tkN_inr hc3; cases q3; exact q2
            have kl3 := tKd_le T L mo p3
            refine Wn.run (tab := tb_m_readLake) rfl 1 (c' := (if ¬ (nI 1) = 0 then 61 else 59, [(1, .int (nI x2)), (0, .ref 114)], [], M112)) (o := []) rfl trivial ?_
            rw [if_pos (show ¬ (nI 1) = 0 by decide)]
            show Wn _ 69 _ (61, [(1, .int (nI x2)), (0, .ref 114)], [], M112)
            refine Wn.run (tab := tb_m_readLake) rfl 6 (c' := (70, [(2, .int (M112.1 114 18)), (1, .int (nI x2)), (0, .ref 114)], [.int (nI 9), .int (nI 0), .ref 114], M112)) (o := [shp 114 = (0, 10)]) rfl rfl ?_
            rw [show (M112.1 114 18) = (nI x3) from (fr_eq hg114 (show g113 18 = (nI x3) from hf118))]
            cases hc4 : tkN T L mo p3 0 9 with
            | inl f4 =>
              refine Wn.callV (p := 114) (n := 3) (ix := 201) (ci := (10)) (PFm M112 g113 f4.1 f4.2 (some (.int (nI 0)))) [.int (nI 0), .int (nI 9)] [] rfl rfl rfl rfl (Nat.le_of_ble_eq_true rfl) (Nat.le_of_ble_eq_true rfl) (c_m_takesE _ M112 g113 T L mo p3 hg114 ht107 0 9 (by omega) (by omega) f4 hc4) ?_
              rintro _ M129 ⟨rfl, h15125, h16126, hx127, hF128⟩
              show Wn _ 69 _ (73, [(2, .int (nI x3)), (1, .int (nI x2)), (0, .ref 114)], [.int (nI 0)], M129)
              obtain ⟨g130, hg131⟩ : ∃ g9, M129.1 114 = g9 := ⟨_, rfl⟩
              have hx132 := hx127
              rw [hg131] at hx132
              have hf133 : g130 15 = nI f4.1 := by rw [← hg131]; exact h15125
              have hf134 : g130 16 = nI f4.2 := by rw [← hg131]; exact h16126
              have hk135 := fr_row hF128 (by decide) hk119
              have h6136 := n6_fr hF128 (by decide) h6121
              have hn137 := nf_fr hF128 (by decide) hn122
              have hF138 := fr_tr hF124 hF128 (by decide)
              refine Wn.run (tab := tb_m_readLake) rfl 1 (c' := (if ¬ (nI 0) = 0 then 78 else 76, [(2, .int (nI x3)), (1, .int (nI x2)), (0, .ref 114)], [], M129)) (o := []) rfl trivial ?_
              rw [if_neg (show ¬ (¬ (nI 0) = 0) by decide)]
              show Wn _ 69 _ (76, [(2, .int (nI x3)), (1, .int (nI x2)), (0, .ref 114)], [], M129)
              refine Wn.run (tab := tb_m_readLake) rfl 1 (c' := (77, [(2, .int (nI x3)), (1, .int (nI x2)), (0, .ref 114)], [.int (nI 0)], M129)) (o := []) rfl trivial ?_
              have e9 : rdLk T L mo p δ ν o ic = .inl f4 := by unfold rdLk; rw [if_neg hno]; simp only [hc2, hc3, hc4]
              rw [e9]
              exact Wn.zret rfl (Or.inl rfl) ⟨by rw [hg131]; exact (Gx_tr (Gx_tr (Gx_tr (Gx_tr (Gx_rf _ _) (Gx_mono hx51 (by decide))) (Gx_mono hx83 (by decide))) (Gx_mono hx115 (by decide))) (Gx_mono hx132 (by decide))), hF138, h6136, rfl, by rw [hg131]; exact hf133, by rw [hg131]; exact hf134⟩
            | inr v4 =>
              obtain ⟨x4, p4⟩ := v4
              refine Wn.callV (p := 114) (n := 3) (ix := 201) (ci := (10)) (PTm M112 g113 T L mo p4 [4, 11, 12, 13, 14, 18] (nI x4) (some (.int (nI 1)))) [.int (nI 0), .int (nI 9)] [] rfl rfl rfl rfl (Nat.le_of_ble_eq_true rfl) (Nat.le_of_ble_eq_true rfl) (c_m_takesV _ M112 g113 T L mo p3 hg114 ht107 0 9 (by omega) (by omega) (x4, p4) hc4) ?_
              rintro _ M144 ⟨rfl, ht139, h18140, hx141, hj142, hF143⟩
              show Wn _ 69 _ (73, [(2, .int (nI x3)), (1, .int (nI x2)), (0, .ref 114)], [.int (nI 1)], M144)
              obtain ⟨g145, hg146⟩ : ∃ g9, M144.1 114 = g9 := ⟨_, rfl⟩
              have hx147 := hx141
              rw [hg146] at hx147
              have hf148 : g145 20 = (nI (o ||| 2 ^ 4)) := (hx147 20 (by decide)).trans (show g113 20 = (nI (o ||| 2 ^ 4)) from hf116)
              have hf149 : g145 15 = (g 15) := (hx147 15 (by decide)).trans (show g113 15 = (g 15) from hf117)
              have hf150 : g145 18 = nI x4 := by rw [← hg146]; exact h18140
              have hk151 := fr_row hF143 (by decide) hk119
              have hi152 := (hj142 21 (by decide)).trans hi120
              have h6153 := n6_fr hF143 (by decide) h6121
              have hn154 := nf_fr hF143 (by decide) hn122
              have hv155 := rv_fr hF143 (by decide) hv123
              have hF156 := fr_tr hF124 hF143 (by decide)
              have bd4 : 0 ≤ x4 ∧ x4 ≤ 9 := by obtain ⟨q1, q2, q3⟩ := tkN_inr hc4; cases q3; exact q2
              have kl4 := tKd_le T L mo p4
              refine Wn.run (tab := tb_m_readLake) rfl 1 (c' := (if ¬ (nI 1) = 0 then 78 else 76, [(2, .int (nI x3)), (1, .int (nI x2)), (0, .ref 114)], [], M144)) (o := []) rfl trivial ?_
              rw [if_pos (show ¬ (nI 1) = 0 by decide)]
              show Wn _ 69 _ (78, [(2, .int (nI x3)), (1, .int (nI x2)), (0, .ref 114)], [], M144)
              refine Wn.run (tab := tb_m_readLake) rfl 5 (c' := (85, [(2, .int (nI x3)), (1, .int (nI x2)), (0, .ref 114)], [.int (M144.1 114 18), .int (nI x3), .int (nI x2), .ref 114], M144)) (o := [shp 114 = (0, 10)]) rfl rfl ?_
              rw [show (M144.1 114 18) = (nI x4) from (fr_eq hg146 (show g145 18 = (nI x4) from hf150))]
              refine Wn.callV (p := 114) (n := 4) (ix := 148) (ci := (10)) (PH M144 (fz δ x2 x3 x4)) [.int (nI x2), .int (nI x3), .int (nI x4)] [] rfl rfl rfl rfl (Nat.le_of_ble_eq_true rfl) (Nat.le_of_ble_eq_true rfl) (c_m_freezes _ M144 δ hk151 x2 x3 x4 (by omega) (by omega) (by omega)) ?_
              rintro _ M157 ⟨rfl, hh158, hF159⟩
              show Wn _ 69 _ (88, [(2, .int (nI x3)), (1, .int (nI x2)), (0, .ref 114)], [], M157)
              have ht160 := TkM_fr hF159 (by decide) ht139
              have hk161 := frI_fun hF159 (by decide) hg146
              have hi162 := ic_fr hF159 (by decide) hi152
              have h6163 := n6_fr hF159 (by decide) h6153
              have hn164 := nf_fr hF159 (by decide) hn154
              have hv165 := rv_fr hF159 (by decide) hv155
              have hF166 := fr_tr hF156 hF159 (by decide)
              refine Wn.run (tab := tb_m_readLake) rfl 1 (c' := (89, [(2, .int (nI x3)), (1, .int (nI x2)), (0, .ref 114)], [.int (nI 1)], M157)) (o := []) rfl trivial ?_
              have e9 : rdLk T L mo p δ ν o ic = .inr (p4, fz δ x2 x3 x4, ν, o ||| 2 ^ 4, ic) := by unfold rdLk; rw [if_neg hno]; simp only [hc2, hc3, hc4]
              rw [e9]
              exact Wn.zret rfl (Or.inr rfl) ⟨by rw [hk161]; exact (Gx_tr (Gx_tr (Gx_tr (Gx_tr (Gx_rf _ _) (Gx_mono hx51 (by decide))) (Gx_mono hx83 (by decide))) (Gx_mono hx115 (by decide))) (Gx_mono hx147 (by decide))), hF166, h6163, rfl, ht160, hh158, hn164, by rw [hk161]; exact hf148, hi162, by rw [hk161]; exact hf149⟩
