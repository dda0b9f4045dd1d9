/-! The reference's public acts. -/
def Gx (K : List Nat) (g g' : Nat → Int32) : Prop := ∀ k, ¬ k ∈ K → g' k = g k
theorem Gx_rf (K : List Nat) (g : Nat → Int32) : Gx K g g := fun _ _ => rfl
theorem Gx_up {K : List Nat} {g g' : Nat → Int32} {i : Nat} {v : Int32} (h : Gx K g g') (hi : i ∈ K) : Gx K g (upd g' i v) := fun k hk => by
  have hne : k ≠ i := fun e => hk (by rw [e]; exact hi)
  rw [pk_un hne]
  exact h k hk
theorem Gx_mono {K L : List Nat} {g g' : Nat → Int32} (h : Gx K g g') (hs : ∀ k ∈ K, k ∈ L) : Gx L g g' := fun k hk => h k (fun e => hk (hs k e))
theorem Gx_tr {K : List Nat} {g g' g'' : Nat → Int32} (h : Gx K g g') (h2 : Gx K g' g'') : Gx K g g'' := fun k hk => (h2 k hk).trans (h k hk)
theorem HMr_fr {L : List Nat} {M M' : Mm} {n : Nat} {H : Nat → Nat → Nat} (hF : Fr L M M') (hp : ¬ 121 ∈ L) (h : HMr (M.1 121) n H) : HMr (M'.1 121) n H := by rw [(hF 121 hp).1]; exact h
/-- k hours go -/
def hK (σ : Nat → Nat) : Nat → (Nat → Nat)
  | 0 => σ
  | k + 1 => hour (hK σ k)
theorem hend_lo {τ : Nat → Nat} {k : Nat} (h : k < 96 ∨ 160 ≤ k) : hend τ k = τ k := by
  unfold hend
  split
  · rfl
  · exact frz_lo h 64 (by omega)
theorem htl_lo {σ : Nat → Nat} {k : Nat} (h : k < 96 ∨ 160 ≤ k) (h2 : k < 172) (h90 : ¬ k = 90) (h92 : ¬ k = 92) : htl σ k = σ k := by
  unfold htl
  rw [hend_lo h, prz_lo h2, su_ne h92, su_ne h90]
theorem htl_90 {σ : Nat → Nat} : htl σ 90 = σ 90 + 1 := by
  unfold htl
  rw [hend_lo (by omega), prz_lo (by omega), su_ne (by omega), su_eq rfl]
theorem hour_lo {σ : Nat → Nat} (h26 : σ 2 ≤ 6) {k : Nat} (h : k < 90 ∨ (160 ≤ k ∧ k < 166)) : hour σ k = σ k := by
  unfold hour
  rw [htl_lo (by omega) (by omega) (by omega) (by omega)]
  exact hrN_lo h _ h26
theorem hour_90 {σ : Nat → Nat} (h26 : σ 2 ≤ 6) : hour σ 90 = σ 90 + 1 := by
  unfold hour
  rw [htl_90, hrN_90 _ h26]
theorem hK_lo {σ : Nat → Nat} (h26 : σ 2 ≤ 6) {k : Nat} (h : k < 90 ∨ (160 ≤ k ∧ k < 166)) : ∀ n, hK σ n k = σ k
  | 0 => rfl
  | n + 1 => by
    show hour (hK σ n) k = _
    rw [hour_lo (by rw [hK_lo h26 (by omega) n]; exact h26) h, hK_lo h26 h n]
theorem hK_90 {σ : Nat → Nat} (h26 : σ 2 ≤ 6) : ∀ n, hK σ n 90 = σ 90 + n
  | 0 => rfl
  | n + 1 => by
    show hour (hK σ n) 90 = _
    rw [hour_90 (by rw [hK_lo h26 (by omega) n]; exact h26), hK_90 h26 n]
    omega
theorem Inv_hK {σ : Nat → Nat} (h : Inv σ) : ∀ n, σ 90 + n ≤ 400 → Inv (hK σ n)
  | 0, _ => h
  | n + 1, hn => Inv_hour (Inv_hK h n (by omega)) (by rw [hK_90 (Bd_2 h.1) n]; omega)
theorem hpn_le {n : Nat} (h : n ≤ 8) : hpn n ≤ 8 := by unfold hpn; split <;> omega
/-- behind a public act of the reference: its answer, state, what can be undone -/
def PA (M0 : Mm) (f0 g : Nat → Int32) (K L : List Nat) (σ : Nat → Nat) (n : Nat) (H : Nat → Nat → Nat) (r : Option Value) : Po := fun r0 M' => r0 = r ∧ Rs f0 (M'.1 116) σ ∧ HMr (M'.1 121) n H ∧ M'.1 114 25 = nI n ∧ M'.1 114 0 = nI 0 ∧ Gx K g (M'.1 114) ∧ Fr L M0 M'
set_option maxRecDepth 20000 in
theorem c_m_go (d : Nat) (M : Mm) (f0 g : Nat → Int32) (σ : Nat → Nat) (n : Nat) (H : Nat → Nat → Nat) (hR : Rs f0 (M.1 116) σ) (hV : Inv σ) (hg : M.1 114 = g) (hn : g 25 = nI n) (hn8 : n ≤ 8) (hH : HMr (M.1 121) n H) (q s : Nat) (hq : q < σ 2) (hs : s < 4) : Wn (d + 6) 98 (PA M f0 g [0, 22, 25, 35] [114, 116, 121] (gof σ q s) (if wgo σ q s = 0 then hpn n else n) (if wgo σ q s = 0 then hpH n H σ else H) (some (.int (nI (wgo σ q s))))) (0, lv_args 0 [.ref 114, .int (nI q), .int (nI s)], [], M) := by
  have hF := fr_rf [114, 116, 121] M
  have hB := hV.1
  have hI := hV.2.1
  have c9_2 := Bd_2 hB
  have k90 := Bd_90 hB
  have f9 := Bd_q hB q (by omega)
  refine Wn.run (tab := tb_m_go) rfl 3 (c' := (5, [(0, .ref 114), (1, .int (nI q)), (2, .int (nI s))], [], (mI M 114 (upd (M.1 114) 0 (nI 0))))) (o := [shp 114 = (0, 10)]) rfl rfl ?_
  generalize hM2 : (mI M 114 (upd (M.1 114) 0 (nI 0))) = M1
  have hk3 := rs_ne hM2 (by decide) hR
  have hk4 := fI_up hM2 hg
  have hH5 := HMr_fr (fr_1I hM2) (by decide) hH
  have hF6 := fr_sI hF hM2 (by decide)
  show Wn _ 98 _ (5, [(0, .ref 114), (1, .int (nI q)), (2, .int (nI s))], [], M1)
  refine Wn.run (tab := tb_m_go) rfl 2 (c' := (7, [(0, .ref 114), (1, .int (nI q)), (2, .int (nI s))], [.int (nI q), .ref 114], M1)) (o := []) rfl trivial ?_
  refine Wn.callV (p := 114) (n := 2) (ix := 290) (ci := (10)) (fun r0 M0 => r0 = some (.int (nI 1)) ∧ M1 = M0) [.int (nI q)] [] rfl rfl rfl rfl (Nat.le_of_ble_eq_true rfl) (Nat.le_of_ble_eq_true rfl) (w_m_isPersonT _ q (by omega) M1 σ ⟨hk3.1, hB⟩ _ ⟨rfl, rfl⟩) ?_
  rintro _ _ ⟨rfl, rfl⟩
  show Wn _ 98 _ (10, [(0, .ref 114), (1, .int (nI q)), (2, .int (nI s))], [.int (nI 1)], M1)
  refine Wn.run (tab := tb_m_go) rfl 1 (c' := (if (nI 1) = 0 then 22 else 13, [(0, .ref 114), (1, .int (nI q)), (2, .int (nI s))], [], M1)) (o := []) rfl trivial ?_
  rw [if_neg (show ¬ ((nI 1) = 0) by decide)]
  show Wn _ 98 _ (13, [(0, .ref 114), (1, .int (nI q)), (2, .int (nI s))], [], M1)
  refine Wn.run (tab := tb_m_go) rfl 3 (c' := (16, [(0, .ref 114), (1, .int (nI q)), (2, .int (nI s))], [.int (nI 3), .int (nI 0), .int (nI s)], M1)) (o := []) rfl trivial ?_
  refine Wn.callS (n := 3) (ix := 194) (fun r0 M0 => r0 = some (.int (b2 (0 ≤ s ∧ s ≤ 3))) ∧ M1 = M0) [.int (nI s), .int (nI 0), .int (nI 3)] [] rfl rfl rfl (Nat.le_of_ble_eq_true rfl) (Nat.le_of_ble_eq_true rfl) (w_m_isInN _ s 0 3 (by omega) (by omega) (by omega) M1 _ ⟨rfl, rfl⟩) ?_
  rintro _ _ ⟨rfl, rfl⟩
  show Wn _ 98 _ (19, [(0, .ref 114), (1, .int (nI q)), (2, .int (nI s))], [.int (b2 (0 ≤ s ∧ s ≤ 3))], M1)
  refine Wn.run (tab := tb_m_go) rfl 1 (c' := (if ¬ (b2 (0 ≤ s ∧ s ≤ 3)) = 0 then 24 else 22, [(0, .ref 114), (1, .int (nI q)), (2, .int (nI s))], [], M1)) (o := []) rfl trivial ?_
  rw [if_pos (b2_n0.mpr (by omega))]
  show Wn _ 98 _ (24, [(0, .ref 114), (1, .int (nI q)), (2, .int (nI s))], [], M1)
  refine Wn.run (tab := tb_m_go) rfl 3 (c' := (27, [(0, .ref 114), (1, .int (nI q)), (2, .int (nI s))], [.int (nI s), .int (nI q), .ref 114], M1)) (o := []) rfl trivial ?_
  refine Wn.callV (p := 114) (n := 3) (ix := 287) (ci := (10)) (fun r0 M0 => r0 = some (.int (nI (wgo σ q s))) ∧ M1 = M0) [.int (nI q), .int (nI s)] [] rfl rfl rfl rfl (Nat.le_of_ble_eq_true rfl) (Nat.le_of_ble_eq_true rfl) (w_m_whyGo _ q s (by omega) (by omega) M1 σ ⟨hk3.1, hB⟩ _ ⟨rfl, rfl⟩) ?_
  rintro _ _ ⟨rfl, rfl⟩
  show Wn _ 98 _ (30, [(0, .ref 114), (1, .int (nI q)), (2, .int (nI s))], [.int (nI (wgo σ q s))], M1)
  have wl9 := wgo_le σ q s
  refine Wn.run (tab := tb_m_go) rfl 3 (c' := (if (nI (wgo σ q s)) ≤ 0 then 37 else 35, [(3, .int (nI (wgo σ q s))), (0, .ref 114), (1, .int (nI q)), (2, .int (nI s))], [], M1)) (o := []) rfl trivial ?_
  refine Wn.br (fun h1 => ?_) (fun h1 => ?_)
  · show Wn _ 98 _ (37, [(3, .int (nI (wgo σ q s))), (0, .ref 114), (1, .int (nI q)), (2, .int (nI s))], [], M1)
    have h1 := (n_le rfl nI_0.symm (by omega) (by omega)).mp h1
    have h0 : wgo σ q s = 0 := by omega
    obtain ⟨k1, hb1, hf1, hl1⟩ := wgo_some h0
    have hk1 := bes_lt hB (by omega) hb1
    refine Wn.run (tab := tb_m_go) rfl 1 (c' := (38, [(3, .int (nI (wgo σ q s))), (0, .ref 114), (1, .int (nI q)), (2, .int (nI s))], [.ref 114], M1)) (o := []) rfl trivial ?_
    refine Wn.callV (p := 114) (n := 1) (ix := 321) (ci := (10)) (PK M1 (upd g 0 (nI 0)) n H σ) [] [] rfl rfl rfl rfl (Nat.le_of_ble_eq_true rfl) (Nat.le_of_ble_eq_true rfl) (c_m_keep _ M1 f0 (upd g 0 (nI 0)) σ n H hk3 hk4 ((pk_un (by decide)).trans hn) (by omega) hH5) ?_
    rintro _ M8 ⟨rfl, hH9, hg10, hF11⟩
    show Wn _ 98 _ (41, [(3, .int (nI (wgo σ q s))), (0, .ref 114), (1, .int (nI q)), (2, .int (nI s))], [], M8)
    have hk12 := fr_rs hF11 (by decide) hk3
    have hF13 := fr_tr hF6 hF11 (by decide)
    refine Wn.run (tab := tb_m_go) rfl 13 (c' := (62, [(3, .int (nI (wgo σ q s))), (0, .ref 114), (1, .int (nI q)), (2, .int (nI s))], [.int (nI s), .int (M8.1 116 (((nI 160) + (nI q))).toNatClampNeg), .ref 114, .int ((nI 160) + (nI q)), .ref 116], M8)) (o := [shp 114 = (0, 10), shp 114 = (0, 10), aok shp 116 0 ((nI 160) + (nI q))]) rfl ⟨rfl, rfl, (ak1 (n := 359) rfl rfl (n_add rfl rfl) (by omega))⟩ ?_
    have f9 := Bd_q hB q (by omega)
    rw [show (M8.1 116 (((nI 160) + (nI q))).toNatClampNeg) = (nI (σ (160 + q))) from (rd1 hk12.1 (n_add rfl rfl) (by omega) (by omega))]
    rw [show ((nI 160) + (nI q)) = (nI (160 + q)) from (n_add rfl rfl)]
    refine Wn.callV (p := 114) (n := 3) (ix := 281) (ci := (10)) (fun r0 M0 => r0 = some (.int (oI (bes σ (σ (160 + q)) s))) ∧ M8 = M0) [.int (nI (σ (160 + q))), .int (nI s)] [.int (nI (160 + q)), .ref 116] rfl rfl rfl rfl (Nat.le_of_ble_eq_true rfl) (Nat.le_of_ble_eq_true rfl) (w_m_beside _ (σ (160 + q)) s (by omega) (by omega) M8 σ ⟨hk12.1, hB⟩ _ ⟨rfl, rfl⟩) ?_
    rintro _ _ ⟨rfl, rfl⟩
    show Wn _ 98 _ (65, [(3, .int (nI (wgo σ q s))), (0, .ref 114), (1, .int (nI q)), (2, .int (nI s))], [.int (oI (bes σ (σ (160 + q)) s)), .int (nI (160 + q)), .ref 116], M8)
    rw [hb1]
    show Wn _ 98 _ (65, [(3, .int (nI (wgo σ q s))), (0, .ref 114), (1, .int (nI q)), (2, .int (nI s))], [.int (nI k1), .int (nI (160 + q)), .ref 116], M8)
    refine Wn.run (tab := tb_m_go) rfl 1 (c' := (66, [(3, .int (nI (wgo σ q s))), (0, .ref 114), (1, .int (nI q)), (2, .int (nI s))], [], (mI M8 116 (upd (M8.1 116) ((nI (160 + q))).toNatClampNeg (nI k1))))) (o := [aok shp 116 0 (nI (160 + q))]) rfl (ak1 (n := 359) rfl rfl rfl (by omega)) ?_
    generalize hM15 : (mI M8 116 (upd (M8.1 116) ((nI (160 + q))).toNatClampNeg (nI k1))) = M14
    have hk16 : Rs f0 (M14.1 116) (su σ (160 + q) k1) := rs_up hM15 hk12 (cl1 rfl (by omega)) (by omega) rfl
    have hk17 := fI_ne hM15 (by decide) hg10
    have hH18 := HMr_fr (fr_1I hM15) (by decide) hH9
    have hF19 := fr_sI hF13 hM15 (by decide)
    show Wn _ 98 _ (66, [(3, .int (nI (wgo σ q s))), (0, .ref 114), (1, .int (nI q)), (2, .int (nI s))], [], M14)
    refine Wn.run (tab := tb_m_go) rfl 1 (c' := (67, [(3, .int (nI (wgo σ q s))), (0, .ref 114), (1, .int (nI q)), (2, .int (nI s))], [.int (nI 0)], M14)) (o := []) rfl trivial ?_
    rw [show gof σ q s = su σ (160 + q) k1 from by unfold gof; rw [hb1]; exact if_pos h0, if_pos h0, if_pos h0, h0]
    exact Wn.iret rfl ⟨rfl, hk16, hH18, by rw [hk17]; exact pk_us, by rw [hk17]; exact ((pk_un (by decide)).trans pk_us), by rw [hk17]; exact (Gx_up (Gx_up (Gx_rf _ _) (by decide)) (by decide)), hF19⟩
  · show Wn _ 98 _ (35, [(3, .int (nI (wgo σ q s))), (0, .ref 114), (1, .int (nI q)), (2, .int (nI s))], [], M1)
    have h1 := mt (n_le rfl nI_0.symm (by omega) (by omega)).mpr h1
    refine Wn.run (tab := tb_m_go) rfl 1 (c' := (36, [(3, .int (nI (wgo σ q s))), (0, .ref 114), (1, .int (nI q)), (2, .int (nI s))], [.int (nI (wgo σ q s))], M1)) (o := []) rfl trivial ?_
    have h0 : ¬ wgo σ q s = 0 := by omega
    rw [gof_no h0, if_neg h0, if_neg h0]
    exact Wn.iret rfl ⟨rfl, hk3, hH5, by rw [hk4]; exact ((pk_un (by decide)).trans hn), by rw [hk4]; exact pk_us, by rw [hk4]; exact (Gx_up (Gx_rf _ _) (by decide)), hF6⟩
set_option maxRecDepth 20000 in
theorem c_m_goP (d : Nat) (M : Mm) (f0 g : Nat → Int32) (σ : Nat → Nat) (n : Nat) (H : Nat → Nat → Nat) (hR : Rs f0 (M.1 116) σ) (hV : Inv σ) (hg : M.1 114 = g) (hn : g 25 = nI n) (hn8 : n ≤ 8) (hH : HMr (M.1 121) n H) (q s : Int32) (hnp : ¬ pI σ q) : Wn (d + 2) 98 (PA M f0 g [0, 22, 25, 35] [114, 116, 121] σ n H (some (.int (-1)))) (0, lv_args 0 [.ref 114, .int q, .int s], [], M) := by
  have hF := fr_rf [114, 116, 121] M
  have hB := hV.1
  have hI := hV.2.1
  have c9_2 := Bd_2 hB
  have k90 := Bd_90 hB
  refine Wn.run (tab := tb_m_go) rfl 3 (c' := (5, [(0, .ref 114), (1, .int q), (2, .int s)], [], (mI M 114 (upd (M.1 114) 0 (nI 0))))) (o := [shp 114 = (0, 10)]) rfl rfl ?_
  generalize hM2 : (mI M 114 (upd (M.1 114) 0 (nI 0))) = M1
  have hk3 := rs_ne hM2 (by decide) hR
  have hk4 := fI_up hM2 hg
  have hH5 := HMr_fr (fr_1I hM2) (by decide) hH
  have hF6 := fr_sI hF hM2 (by decide)
  show Wn _ 98 _ (5, [(0, .ref 114), (1, .int q), (2, .int s)], [], M1)
  refine Wn.run (tab := tb_m_go) rfl 2 (c' := (7, [(0, .ref 114), (1, .int q), (2, .int s)], [.int q, .ref 114], M1)) (o := []) rfl trivial ?_
  refine Wn.callV (p := 114) (n := 2) (ix := 290) (ci := (10)) (fun r0 M0 => r0 = some (.int (nI 0)) ∧ M1 = M0) [.int q] [] rfl rfl rfl rfl (Nat.le_of_ble_eq_true rfl) (Nat.le_of_ble_eq_true rfl) (w_m_isPersonF _ q hnp M1 σ ⟨hk3.1, hB⟩ _ ⟨rfl, rfl⟩) ?_
  rintro _ _ ⟨rfl, rfl⟩
  show Wn _ 98 _ (10, [(0, .ref 114), (1, .int q), (2, .int s)], [.int (nI 0)], M1)
  refine Wn.run (tab := tb_m_go) rfl 1 (c' := (if (nI 0) = 0 then 22 else 13, [(0, .ref 114), (1, .int q), (2, .int s)], [], M1)) (o := []) rfl trivial ?_
  rw [if_pos (show (nI 0) = 0 by decide)]
  show Wn _ 98 _ (22, [(0, .ref 114), (1, .int q), (2, .int s)], [], M1)
  refine Wn.run (tab := tb_m_go) rfl 1 (c' := (23, [(0, .ref 114), (1, .int q), (2, .int s)], [.int (-1 : Int32)], M1)) (o := []) rfl trivial ?_
  exact Wn.iret rfl ⟨rfl, hk3, hH5, by rw [hk4]; exact ((pk_un (by decide)).trans hn), by rw [hk4]; exact pk_us, by rw [hk4]; exact (Gx_up (Gx_rf _ _) (by decide)), hF6⟩
set_option maxRecDepth 20000 in
theorem c_m_goS (d : Nat) (M : Mm) (f0 g : Nat → Int32) (σ : Nat → Nat) (n : Nat) (H : Nat → Nat → Nat) (hR : Rs f0 (M.1 116) σ) (hV : Inv σ) (hg : M.1 114 = g) (hn : g 25 = nI n) (hn8 : n ≤ 8) (hH : HMr (M.1 121) n H) (q : Nat) (s : Int32) (hq : q < σ 2) (hns : ¬ ((nI 0).toInt ≤ s.toInt ∧ s.toInt ≤ (nI 3).toInt)) : Wn (d + 2) 98 (PA M f0 g [0, 22, 25, 35] [114, 116, 121] σ n H (some (.int (-1)))) (0, lv_args 0 [.ref 114, .int (nI q), .int s], [], M) := by
  have hF := fr_rf [114, 116, 121] M
  have hB := hV.1
  have hI := hV.2.1
  have c9_2 := Bd_2 hB
  have k90 := Bd_90 hB
  refine Wn.run (tab := tb_m_go) rfl 3 (c' := (5, [(0, .ref 114), (1, .int (nI q)), (2, .int s)], [], (mI M 114 (upd (M.1 114) 0 (nI 0))))) (o := [shp 114 = (0, 10)]) rfl rfl ?_
  generalize hM2 : (mI M 114 (upd (M.1 114) 0 (nI 0))) = M1
  have hk3 := rs_ne hM2 (by decide) hR
  have hk4 := fI_up hM2 hg
  have hH5 := HMr_fr (fr_1I hM2) (by decide) hH
  have hF6 := fr_sI hF hM2 (by decide)
  show Wn _ 98 _ (5, [(0, .ref 114), (1, .int (nI q)), (2, .int s)], [], M1)
  refine Wn.run (tab := tb_m_go) rfl 2 (c' := (7, [(0, .ref 114), (1, .int (nI q)), (2, .int s)], [.int (nI q), .ref 114], M1)) (o := []) rfl trivial ?_
  refine Wn.callV (p := 114) (n := 2) (ix := 290) (ci := (10)) (fun r0 M0 => r0 = some (.int (nI 1)) ∧ M1 = M0) [.int (nI q)] [] rfl rfl rfl rfl (Nat.le_of_ble_eq_true rfl) (Nat.le_of_ble_eq_true rfl) (w_m_isPersonT _ q (by omega) M1 σ ⟨hk3.1, hB⟩ _ ⟨rfl, rfl⟩) ?_
  rintro _ _ ⟨rfl, rfl⟩
  show Wn _ 98 _ (10, [(0, .ref 114), (1, .int (nI q)), (2, .int s)], [.int (nI 1)], M1)
  refine Wn.run (tab := tb_m_go) rfl 1 (c' := (if (nI 1) = 0 then 22 else 13, [(0, .ref 114), (1, .int (nI q)), (2, .int s)], [], M1)) (o := []) rfl trivial ?_
  rw [if_neg (show ¬ ((nI 1) = 0) by decide)]
  show Wn _ 98 _ (13, [(0, .ref 114), (1, .int (nI q)), (2, .int s)], [], M1)
  refine Wn.run (tab := tb_m_go) rfl 3 (c' := (16, [(0, .ref 114), (1, .int (nI q)), (2, .int s)], [.int (nI 3), .int (nI 0), .int s], M1)) (o := []) rfl trivial ?_
  refine Wn.callS (n := 3) (ix := 194) (fun r0 M0 => r0 = some (.int (b2 ((nI 0).toInt ≤ s.toInt ∧ s.toInt ≤ (nI 3).toInt))) ∧ M1 = M0) [.int s, .int (nI 0), .int (nI 3)] [] rfl rfl rfl (Nat.le_of_ble_eq_true rfl) (Nat.le_of_ble_eq_true rfl) (w_m_isInT _ s (nI 0) (nI 3) M1 _ ⟨rfl, rfl⟩) ?_
  rintro _ _ ⟨rfl, rfl⟩
  show Wn _ 98 _ (19, [(0, .ref 114), (1, .int (nI q)), (2, .int s)], [.int (b2 ((nI 0).toInt ≤ s.toInt ∧ s.toInt ≤ (nI 3).toInt))], M1)
  refine Wn.run (tab := tb_m_go) rfl 1 (c' := (if ¬ (b2 ((nI 0).toInt ≤ s.toInt ∧ s.toInt ≤ (nI 3).toInt)) = 0 then 24 else 22, [(0, .ref 114), (1, .int (nI q)), (2, .int s)], [], M1)) (o := []) rfl trivial ?_
  rw [if_neg (by rw [b2_f hns]; decide)]
  show Wn _ 98 _ (22, [(0, .ref 114), (1, .int (nI q)), (2, .int s)], [], M1)
  refine Wn.run (tab := tb_m_go) rfl 1 (c' := (23, [(0, .ref 114), (1, .int (nI q)), (2, .int s)], [.int (-1 : Int32)], M1)) (o := []) rfl trivial ?_
  exact Wn.iret rfl ⟨rfl, hk3, hH5, by rw [hk4]; exact ((pk_un (by decide)).trans hn), by rw [hk4]; exact pk_us, by rw [hk4]; exact (Gx_up (Gx_rf _ _) (by decide)), hF6⟩
set_option maxRecDepth 20000 in
theorem c_m_bow (d : Nat) (M : Mm) (f0 g : Nat → Int32) (σ : Nat → Nat) (n : Nat) (H : Nat → Nat → Nat) (hR : Rs f0 (M.1 116) σ) (hV : Inv σ) (hg : M.1 114 = g) (hn : g 25 = nI n) (hn8 : n ≤ 8) (hH : HMr (M.1 121) n H) (q : Nat) (hq : q < σ 2) : Wn (d + 3) 99 (PA M f0 g [0, 22, 25, 35] [114, 116, 121] (bowf σ q) (if wbw σ q = 0 then hpn n else n) (if wbw σ q = 0 then hpH n H σ else H) (some (.int (nI (wbw σ q))))) (0, lv_args 0 [.ref 114, .int (nI q)], [], M) := by
  have hF := fr_rf [114, 116, 121] M
  have hB := hV.1
  have hI := hV.2.1
  have c9_2 := Bd_2 hB
  have k90 := Bd_90 hB
  have f9 := Bd_q hB q (by omega)
  refine Wn.run (tab := tb_m_bow) rfl 3 (c' := (5, [(0, .ref 114), (1, .int (nI q))], [], (mI M 114 (upd (M.1 114) 0 (nI 0))))) (o := [shp 114 = (0, 10)]) rfl rfl ?_
  generalize hM2 : (mI M 114 (upd (M.1 114) 0 (nI 0))) = M1
  have hk3 := rs_ne hM2 (by decide) hR
  have hk4 := fI_up hM2 hg
  have hH5 := HMr_fr (fr_1I hM2) (by decide) hH
  have hF6 := fr_sI hF hM2 (by decide)
  show Wn _ 99 _ (5, [(0, .ref 114), (1, .int (nI q))], [], M1)
  refine Wn.run (tab := tb_m_bow) rfl 2 (c' := (7, [(0, .ref 114), (1, .int (nI q))], [.int (nI q), .ref 114], M1)) (o := []) rfl trivial ?_
  refine Wn.callV (p := 114) (n := 2) (ix := 290) (ci := (10)) (fun r0 M0 => r0 = some (.int (nI 1)) ∧ M1 = M0) [.int (nI q)] [] rfl rfl rfl rfl (Nat.le_of_ble_eq_true rfl) (Nat.le_of_ble_eq_true rfl) (w_m_isPersonT _ q (by omega) M1 σ ⟨hk3.1, hB⟩ _ ⟨rfl, rfl⟩) ?_
  rintro _ _ ⟨rfl, rfl⟩
  show Wn _ 99 _ (10, [(0, .ref 114), (1, .int (nI q))], [.int (nI 1)], M1)
  refine Wn.run (tab := tb_m_bow) rfl 1 (c' := (if ¬ (nI 1) = 0 then 15 else 13, [(0, .ref 114), (1, .int (nI q))], [], M1)) (o := []) rfl trivial ?_
  rw [if_pos (show ¬ (nI 1) = 0 by decide)]
  show Wn _ 99 _ (15, [(0, .ref 114), (1, .int (nI q))], [], M1)
  refine Wn.run (tab := tb_m_bow) rfl 2 (c' := (17, [(0, .ref 114), (1, .int (nI q))], [.int (nI q), .ref 114], M1)) (o := []) rfl trivial ?_
  refine Wn.callV (p := 114) (n := 2) (ix := 324) (ci := (10)) (fun r0 M0 => r0 = some (.int (nI (wbw σ q))) ∧ M1 = M0) [.int (nI q)] [] rfl rfl rfl rfl (Nat.le_of_ble_eq_true rfl) (Nat.le_of_ble_eq_true rfl) (w_m_whyBow _ q (by omega) M1 σ ⟨hk3.1, hB⟩ _ ⟨rfl, rfl⟩) ?_
  rintro _ _ ⟨rfl, rfl⟩
  show Wn _ 99 _ (20, [(0, .ref 114), (1, .int (nI q))], [.int (nI (wbw σ q))], M1)
  have wb9 := wbw_le σ q
  refine Wn.run (tab := tb_m_bow) rfl 3 (c' := (if (nI (wbw σ q)) ≤ 0 then 27 else 25, [(2, .int (nI (wbw σ q))), (0, .ref 114), (1, .int (nI q))], [], M1)) (o := []) rfl trivial ?_
  refine Wn.br (fun h1 => ?_) (fun h1 => ?_)
  · show Wn _ 99 _ (27, [(2, .int (nI (wbw σ q))), (0, .ref 114), (1, .int (nI q))], [], M1)
    have h1 := (n_le rfl nI_0.symm (by omega) (by omega)).mp h1
    refine Wn.run (tab := tb_m_bow) rfl 1 (c' := (28, [(2, .int (nI (wbw σ q))), (0, .ref 114), (1, .int (nI q))], [.ref 114], M1)) (o := []) rfl trivial ?_
    refine Wn.callV (p := 114) (n := 1) (ix := 321) (ci := (10)) (PK M1 (upd g 0 (nI 0)) n H σ) [] [] rfl rfl rfl rfl (Nat.le_of_ble_eq_true rfl) (Nat.le_of_ble_eq_true rfl) (c_m_keep _ M1 f0 (upd g 0 (nI 0)) σ n H hk3 hk4 ((pk_un (by decide)).trans hn) (by omega) hH5) ?_
    rintro _ M7 ⟨rfl, hH8, hg9, hF10⟩
    show Wn _ 99 _ (31, [(2, .int (nI (wbw σ q))), (0, .ref 114), (1, .int (nI q))], [], M7)
    have hk11 := fr_rs hF10 (by decide) hk3
    have hF12 := fr_tr hF6 hF10 (by decide)
    refine Wn.run (tab := tb_m_bow) rfl 2 (c' := (33, [(2, .int (nI (wbw σ q))), (0, .ref 114), (1, .int (nI q))], [.int (nI q), .ref 114], M7)) (o := []) rfl trivial ?_
    refine Wn.callV (p := 114) (n := 2) (ix := 327) (ci := (10)) (PM M7 f0 (upd (upd g 0 (nI 0)) 25 (nI (hpn n))) (bend σ q) none) [.int (nI q)] [] rfl rfl rfl rfl (Nat.le_of_ble_eq_true rfl) (Nat.le_of_ble_eq_true rfl) (c_m_bends _ M7 f0 (upd (upd g 0 (nI 0)) 25 (nI (hpn n))) σ hk11 hB hg9 q (by omega)) ?_
    rintro _ M13 ⟨rfl, hR14, hg15, hF16⟩
    show Wn _ 99 _ (36, [(2, .int (nI (wbw σ q))), (0, .ref 114), (1, .int (nI q))], [], M13)
    have hH17 := HMr_fr hF16 (by decide) hH8
    have hF18 := fr_tr hF12 hF16 (by decide)
    refine Wn.run (tab := tb_m_bow) rfl 1 (c' := (37, [(2, .int (nI (wbw σ q))), (0, .ref 114), (1, .int (nI q))], [.int (nI 0)], M13)) (o := []) rfl trivial ?_
    have h0 : wbw σ q = 0 := by omega
    rw [show bowf σ q = bend σ q from if_pos h0, if_pos h0, if_pos h0, h0]
    exact Wn.iret rfl ⟨rfl, hR14, hH17, by rw [hg15]; exact pk_us, by rw [hg15]; exact ((pk_un (by decide)).trans pk_us), by rw [hg15]; exact (Gx_up (Gx_up (Gx_rf _ _) (by decide)) (by decide)), hF18⟩
  · show Wn _ 99 _ (25, [(2, .int (nI (wbw σ q))), (0, .ref 114), (1, .int (nI q))], [], M1)
    have h1 := mt (n_le rfl nI_0.symm (by omega) (by omega)).mpr h1
    refine Wn.run (tab := tb_m_bow) rfl 1 (c' := (26, [(2, .int (nI (wbw σ q))), (0, .ref 114), (1, .int (nI q))], [.int (nI (wbw σ q))], M1)) (o := []) rfl trivial ?_
    have h0 : ¬ wbw σ q = 0 := by omega
    rw [show bowf σ q = σ from if_neg h0, if_neg h0, if_neg h0]
    exact Wn.iret rfl ⟨rfl, hk3, hH5, by rw [hk4]; exact ((pk_un (by decide)).trans hn), by rw [hk4]; exact pk_us, by rw [hk4]; exact (Gx_up (Gx_rf _ _) (by decide)), hF6⟩
set_option maxRecDepth 20000 in
theorem c_m_bowP (d : Nat) (M : Mm) (f0 g : Nat → Int32) (σ : Nat → Nat) (n : Nat) (H : Nat → Nat → Nat) (hR : Rs f0 (M.1 116) σ) (hV : Inv σ) (hg : M.1 114 = g) (hn : g 25 = nI n) (hn8 : n ≤ 8) (hH : HMr (M.1 121) n H) (q : Int32) (hnp : ¬ pI σ q) : Wn (d + 2) 99 (PA M f0 g [0, 22, 25, 35] [114, 116, 121] σ n H (some (.int (-1)))) (0, lv_args 0 [.ref 114, .int q], [], M) := by
  have hF := fr_rf [114, 116, 121] M
  have hB := hV.1
  have hI := hV.2.1
  have c9_2 := Bd_2 hB
  have k90 := Bd_90 hB
  refine Wn.run (tab := tb_m_bow) rfl 3 (c' := (5, [(0, .ref 114), (1, .int q)], [], (mI M 114 (upd (M.1 114) 0 (nI 0))))) (o := [shp 114 = (0, 10)]) rfl rfl ?_
  generalize hM2 : (mI M 114 (upd (M.1 114) 0 (nI 0))) = M1
  have hk3 := rs_ne hM2 (by decide) hR
  have hk4 := fI_up hM2 hg
  have hH5 := HMr_fr (fr_1I hM2) (by decide) hH
  have hF6 := fr_sI hF hM2 (by decide)
  show Wn _ 99 _ (5, [(0, .ref 114), (1, .int q)], [], M1)
  refine Wn.run (tab := tb_m_bow) rfl 2 (c' := (7, [(0, .ref 114), (1, .int q)], [.int q, .ref 114], M1)) (o := []) rfl trivial ?_
  refine Wn.callV (p := 114) (n := 2) (ix := 290) (ci := (10)) (fun r0 M0 => r0 = some (.int (nI 0)) ∧ M1 = M0) [.int q] [] rfl rfl rfl rfl (Nat.le_of_ble_eq_true rfl) (Nat.le_of_ble_eq_true rfl) (w_m_isPersonF _ q hnp M1 σ ⟨hk3.1, hB⟩ _ ⟨rfl, rfl⟩) ?_
  rintro _ _ ⟨rfl, rfl⟩
  show Wn _ 99 _ (10, [(0, .ref 114), (1, .int q)], [.int (nI 0)], M1)
  refine Wn.run (tab := tb_m_bow) rfl 1 (c' := (if ¬ (nI 0) = 0 then 15 else 13, [(0, .ref 114), (1, .int q)], [], M1)) (o := []) rfl trivial ?_
  rw [if_neg (show ¬ (¬ (nI 0) = 0) by decide)]
  show Wn _ 99 _ (13, [(0, .ref 114), (1, .int q)], [], M1)
  refine Wn.run (tab := tb_m_bow) rfl 1 (c' := (14, [(0, .ref 114), (1, .int q)], [.int (-1 : Int32)], M1)) (o := []) rfl trivial ?_
  exact Wn.iret rfl ⟨rfl, hk3, hH5, by rw [hk4]; exact ((pk_un (by decide)).trans hn), by rw [hk4]; exact pk_us, by rw [hk4]; exact (Gx_up (Gx_rf _ _) (by decide)), hF6⟩
set_option maxRecDepth 20000 in
theorem c_m_praise (d : Nat) (M : Mm) (f0 g : Nat → Int32) (σ : Nat → Nat) (n : Nat) (H : Nat → Nat → Nat) (hR : Rs f0 (M.1 116) σ) (hV : Inv σ) (hg : M.1 114 = g) (hn : g 25 = nI n) (hn8 : n ≤ 8) (hH : HMr (M.1 121) n H) (q r : Nat) (hq : q < σ 2) (hr : r < σ 2) (hp : σ (172 + r) + 1 < 1073741824) : Wn (d + 6) 100 (PA M f0 g [0, 22, 25, 35] [114, 116, 121] (prf σ q r) (if wpr σ q r = 0 then hpn n else n) (if wpr σ q r = 0 then hpH n H σ else H) (some (.int (nI (wpr σ q r))))) (0, lv_args 0 [.ref 114, .int (nI q), .int (nI r)], [], M) := by
  have hF := fr_rf [114, 116, 121] M
  have hB := hV.1
  have hI := hV.2.1
  have c9_2 := Bd_2 hB
  have k90 := Bd_90 hB
  have f9 := Bd_q hB q (by omega)
  refine Wn.run (tab := tb_m_praise) rfl 3 (c' := (5, [(0, .ref 114), (1, .int (nI q)), (2, .int (nI r))], [], (mI M 114 (upd (M.1 114) 0 (nI 0))))) (o := [shp 114 = (0, 10)]) rfl rfl ?_
  generalize hM2 : (mI M 114 (upd (M.1 114) 0 (nI 0))) = M1
  have hk3 := rs_ne hM2 (by decide) hR
  have hk4 := fI_up hM2 hg
  have hH5 := HMr_fr (fr_1I hM2) (by decide) hH
  have hF6 := fr_sI hF hM2 (by decide)
  show Wn _ 100 _ (5, [(0, .ref 114), (1, .int (nI q)), (2, .int (nI r))], [], M1)
  refine Wn.run (tab := tb_m_praise) rfl 2 (c' := (7, [(0, .ref 114), (1, .int (nI q)), (2, .int (nI r))], [.int (nI q), .ref 114], M1)) (o := []) rfl trivial ?_
  refine Wn.callV (p := 114) (n := 2) (ix := 290) (ci := (10)) (fun r0 M0 => r0 = some (.int (nI 1)) ∧ M1 = M0) [.int (nI q)] [] rfl rfl rfl rfl (Nat.le_of_ble_eq_true rfl) (Nat.le_of_ble_eq_true rfl) (w_m_isPersonT _ q (by omega) M1 σ ⟨hk3.1, hB⟩ _ ⟨rfl, rfl⟩) ?_
  rintro _ _ ⟨rfl, rfl⟩
  show Wn _ 100 _ (10, [(0, .ref 114), (1, .int (nI q)), (2, .int (nI r))], [.int (nI 1)], M1)
  refine Wn.run (tab := tb_m_praise) rfl 1 (c' := (if (nI 1) = 0 then 21 else 13, [(0, .ref 114), (1, .int (nI q)), (2, .int (nI r))], [], M1)) (o := []) rfl trivial ?_
  rw [if_neg (show ¬ ((nI 1) = 0) by decide)]
  show Wn _ 100 _ (13, [(0, .ref 114), (1, .int (nI q)), (2, .int (nI r))], [], M1)
  refine Wn.run (tab := tb_m_praise) rfl 2 (c' := (15, [(0, .ref 114), (1, .int (nI q)), (2, .int (nI r))], [.int (nI r), .ref 114], M1)) (o := []) rfl trivial ?_
  refine Wn.callV (p := 114) (n := 2) (ix := 290) (ci := (10)) (fun r0 M0 => r0 = some (.int (nI 1)) ∧ M1 = M0) [.int (nI r)] [] rfl rfl rfl rfl (Nat.le_of_ble_eq_true rfl) (Nat.le_of_ble_eq_true rfl) (w_m_isPersonT _ r (by omega) M1 σ ⟨hk3.1, hB⟩ _ ⟨rfl, rfl⟩) ?_
  rintro _ _ ⟨rfl, rfl⟩
  show Wn _ 100 _ (18, [(0, .ref 114), (1, .int (nI q)), (2, .int (nI r))], [.int (nI 1)], M1)
  refine Wn.run (tab := tb_m_praise) rfl 1 (c' := (if ¬ (nI 1) = 0 then 23 else 21, [(0, .ref 114), (1, .int (nI q)), (2, .int (nI r))], [], M1)) (o := []) rfl trivial ?_
  rw [if_pos (show ¬ (nI 1) = 0 by decide)]
  show Wn _ 100 _ (23, [(0, .ref 114), (1, .int (nI q)), (2, .int (nI r))], [], M1)
  refine Wn.run (tab := tb_m_praise) rfl 3 (c' := (26, [(0, .ref 114), (1, .int (nI q)), (2, .int (nI r))], [.int (nI r), .int (nI q), .ref 114], M1)) (o := []) rfl trivial ?_
  refine Wn.callV (p := 114) (n := 3) (ix := 330) (ci := (10)) (fun r0 M0 => r0 = some (.int (nI (wpr σ q r))) ∧ M1 = M0) [.int (nI q), .int (nI r)] [] rfl rfl rfl rfl (Nat.le_of_ble_eq_true rfl) (Nat.le_of_ble_eq_true rfl) (w_m_whyPraise _ q r (by omega) (by omega) M1 σ ⟨hk3.1, hB⟩ _ ⟨rfl, rfl⟩) ?_
  rintro _ _ ⟨rfl, rfl⟩
  show Wn _ 100 _ (29, [(0, .ref 114), (1, .int (nI q)), (2, .int (nI r))], [.int (nI (wpr σ q r))], M1)
  have wp9 := wpr_le σ q r
  refine Wn.run (tab := tb_m_praise) rfl 3 (c' := (if (nI (wpr σ q r)) ≤ 0 then 36 else 34, [(3, .int (nI (wpr σ q r))), (0, .ref 114), (1, .int (nI q)), (2, .int (nI r))], [], M1)) (o := []) rfl trivial ?_
  refine Wn.br (fun h1 => ?_) (fun h1 => ?_)
  · show Wn _ 100 _ (36, [(3, .int (nI (wpr σ q r))), (0, .ref 114), (1, .int (nI q)), (2, .int (nI r))], [], M1)
    have h1 := (n_le rfl nI_0.symm (by omega) (by omega)).mp h1
    refine Wn.run (tab := tb_m_praise) rfl 1 (c' := (37, [(3, .int (nI (wpr σ q r))), (0, .ref 114), (1, .int (nI q)), (2, .int (nI r))], [.ref 114], M1)) (o := []) rfl trivial ?_
    refine Wn.callV (p := 114) (n := 1) (ix := 321) (ci := (10)) (PK M1 (upd g 0 (nI 0)) n H σ) [] [] rfl rfl rfl rfl (Nat.le_of_ble_eq_true rfl) (Nat.le_of_ble_eq_true rfl) (c_m_keep _ M1 f0 (upd g 0 (nI 0)) σ n H hk3 hk4 ((pk_un (by decide)).trans hn) (by omega) hH5) ?_
    rintro _ M7 ⟨rfl, hH8, hg9, hF10⟩
    show Wn _ 100 _ (40, [(3, .int (nI (wpr σ q r))), (0, .ref 114), (1, .int (nI q)), (2, .int (nI r))], [], M7)
    have hk11 := fr_rs hF10 (by decide) hk3
    have hF12 := fr_tr hF6 hF10 (by decide)
    refine Wn.run (tab := tb_m_praise) rfl 2 (c' := (42, [(3, .int (nI (wpr σ q r))), (0, .ref 114), (1, .int (nI q)), (2, .int (nI r))], [.int (nI r), .ref 114], M7)) (o := []) rfl trivial ?_
    refine Wn.callV (p := 114) (n := 2) (ix := 333) (ci := (10)) (PM M7 f0 (upd (upd g 0 (nI 0)) 25 (nI (hpn n))) (flat σ r) none) [.int (nI r)] [] rfl rfl rfl rfl (Nat.le_of_ble_eq_true rfl) (Nat.le_of_ble_eq_true rfl) (c_m_flatters _ M7 f0 (upd (upd g 0 (nI 0)) 25 (nI (hpn n))) σ hk11 hB hg9 r (by omega) hp) ?_
    rintro _ M13 ⟨rfl, hR14, hg15, hF16⟩
    show Wn _ 100 _ (45, [(3, .int (nI (wpr σ q r))), (0, .ref 114), (1, .int (nI q)), (2, .int (nI r))], [], M13)
    have hH17 := HMr_fr hF16 (by decide) hH8
    have hF18 := fr_tr hF12 hF16 (by decide)
    refine Wn.run (tab := tb_m_praise) rfl 1 (c' := (46, [(3, .int (nI (wpr σ q r))), (0, .ref 114), (1, .int (nI q)), (2, .int (nI r))], [.int (nI 0)], M13)) (o := []) rfl trivial ?_
    have h0 : wpr σ q r = 0 := by omega
    rw [show prf σ q r = flat σ r from if_pos h0, if_pos h0, if_pos h0, h0]
    exact Wn.iret rfl ⟨rfl, hR14, hH17, by rw [hg15]; exact pk_us, by rw [hg15]; exact ((pk_un (by decide)).trans pk_us), by rw [hg15]; exact (Gx_up (Gx_up (Gx_rf _ _) (by decide)) (by decide)), hF18⟩
  · show Wn _ 100 _ (34, [(3, .int (nI (wpr σ q r))), (0, .ref 114), (1, .int (nI q)), (2, .int (nI r))], [], M1)
    have h1 := mt (n_le rfl nI_0.symm (by omega) (by omega)).mpr h1
    refine Wn.run (tab := tb_m_praise) rfl 1 (c' := (35, [(3, .int (nI (wpr σ q r))), (0, .ref 114), (1, .int (nI q)), (2, .int (nI r))], [.int (nI (wpr σ q r))], M1)) (o := []) rfl trivial ?_
    have h0 : ¬ wpr σ q r = 0 := by omega
    rw [show prf σ q r = σ from if_neg h0, if_neg h0, if_neg h0]
    exact Wn.iret rfl ⟨rfl, hk3, hH5, by rw [hk4]; exact ((pk_un (by decide)).trans hn), by rw [hk4]; exact pk_us, by rw [hk4]; exact (Gx_up (Gx_rf _ _) (by decide)), hF6⟩
set_option maxRecDepth 20000 in
theorem c_m_praiseP (d : Nat) (M : Mm) (f0 g : Nat → Int32) (σ : Nat → Nat) (n : Nat) (H : Nat → Nat → Nat) (hR : Rs f0 (M.1 116) σ) (hV : Inv σ) (hg : M.1 114 = g) (hn : g 25 = nI n) (hn8 : n ≤ 8) (hH : HMr (M.1 121) n H) (q r : Int32) (hnp : ¬ pI σ q) : Wn (d + 2) 100 (PA M f0 g [0, 22, 25, 35] [114, 116, 121] σ n H (some (.int (-1)))) (0, lv_args 0 [.ref 114, .int q, .int r], [], M) := by
  have hF := fr_rf [114, 116, 121] M
  have hB := hV.1
  have hI := hV.2.1
  have c9_2 := Bd_2 hB
  have k90 := Bd_90 hB
  refine Wn.run (tab := tb_m_praise) rfl 3 (c' := (5, [(0, .ref 114), (1, .int q), (2, .int r)], [], (mI M 114 (upd (M.1 114) 0 (nI 0))))) (o := [shp 114 = (0, 10)]) rfl rfl ?_
  generalize hM2 : (mI M 114 (upd (M.1 114) 0 (nI 0))) = M1
  have hk3 := rs_ne hM2 (by decide) hR
  have hk4 := fI_up hM2 hg
  have hH5 := HMr_fr (fr_1I hM2) (by decide) hH
  have hF6 := fr_sI hF hM2 (by decide)
  show Wn _ 100 _ (5, [(0, .ref 114), (1, .int q), (2, .int r)], [], M1)
  refine Wn.run (tab := tb_m_praise) rfl 2 (c' := (7, [(0, .ref 114), (1, .int q), (2, .int r)], [.int q, .ref 114], M1)) (o := []) rfl trivial ?_
  refine Wn.callV (p := 114) (n := 2) (ix := 290) (ci := (10)) (fun r0 M0 => r0 = some (.int (nI 0)) ∧ M1 = M0) [.int q] [] rfl rfl rfl rfl (Nat.le_of_ble_eq_true rfl) (Nat.le_of_ble_eq_true rfl) (w_m_isPersonF _ q hnp M1 σ ⟨hk3.1, hB⟩ _ ⟨rfl, rfl⟩) ?_
  rintro _ _ ⟨rfl, rfl⟩
  show Wn _ 100 _ (10, [(0, .ref 114), (1, .int q), (2, .int r)], [.int (nI 0)], M1)
  refine Wn.run (tab := tb_m_praise) rfl 1 (c' := (if (nI 0) = 0 then 21 else 13, [(0, .ref 114), (1, .int q), (2, .int r)], [], M1)) (o := []) rfl trivial ?_
  rw [if_pos (show (nI 0) = 0 by decide)]
  show Wn _ 100 _ (21, [(0, .ref 114), (1, .int q), (2, .int r)], [], M1)
  refine Wn.run (tab := tb_m_praise) rfl 1 (c' := (22, [(0, .ref 114), (1, .int q), (2, .int r)], [.int (-1 : Int32)], M1)) (o := []) rfl trivial ?_
  exact Wn.iret rfl ⟨rfl, hk3, hH5, by rw [hk4]; exact ((pk_un (by decide)).trans hn), by rw [hk4]; exact pk_us, by rw [hk4]; exact (Gx_up (Gx_rf _ _) (by decide)), hF6⟩
set_option maxRecDepth 20000 in
theorem c_m_praiseR (d : Nat) (M : Mm) (f0 g : Nat → Int32) (σ : Nat → Nat) (n : Nat) (H : Nat → Nat → Nat) (hR : Rs f0 (M.1 116) σ) (hV : Inv σ) (hg : M.1 114 = g) (hn : g 25 = nI n) (hn8 : n ≤ 8) (hH : HMr (M.1 121) n H) (q : Nat) (r : Int32) (hq : q < σ 2) (hnp : ¬ pI σ r) : Wn (d + 2) 100 (PA M f0 g [0, 22, 25, 35] [114, 116, 121] σ n H (some (.int (-1)))) (0, lv_args 0 [.ref 114, .int (nI q), .int r], [], M) := by
  have hF := fr_rf [114, 116, 121] M
  have hB := hV.1
  have hI := hV.2.1
  have c9_2 := Bd_2 hB
  have k90 := Bd_90 hB
  refine Wn.run (tab := tb_m_praise) rfl 3 (c' := (5, [(0, .ref 114), (1, .int (nI q)), (2, .int r)], [], (mI M 114 (upd (M.1 114) 0 (nI 0))))) (o := [shp 114 = (0, 10)]) rfl rfl ?_
  generalize hM2 : (mI M 114 (upd (M.1 114) 0 (nI 0))) = M1
  have hk3 := rs_ne hM2 (by decide) hR
  have hk4 := fI_up hM2 hg
  have hH5 := HMr_fr (fr_1I hM2) (by decide) hH
  have hF6 := fr_sI hF hM2 (by decide)
  show Wn _ 100 _ (5, [(0, .ref 114), (1, .int (nI q)), (2, .int r)], [], M1)
  refine Wn.run (tab := tb_m_praise) rfl 2 (c' := (7, [(0, .ref 114), (1, .int (nI q)), (2, .int r)], [.int (nI q), .ref 114], M1)) (o := []) rfl trivial ?_
  refine Wn.callV (p := 114) (n := 2) (ix := 290) (ci := (10)) (fun r0 M0 => r0 = some (.int (nI 1)) ∧ M1 = M0) [.int (nI q)] [] rfl rfl rfl rfl (Nat.le_of_ble_eq_true rfl) (Nat.le_of_ble_eq_true rfl) (w_m_isPersonT _ q (by omega) M1 σ ⟨hk3.1, hB⟩ _ ⟨rfl, rfl⟩) ?_
  rintro _ _ ⟨rfl, rfl⟩
  show Wn _ 100 _ (10, [(0, .ref 114), (1, .int (nI q)), (2, .int r)], [.int (nI 1)], M1)
  refine Wn.run (tab := tb_m_praise) rfl 1 (c' := (if (nI 1) = 0 then 21 else 13, [(0, .ref 114), (1, .int (nI q)), (2, .int r)], [], M1)) (o := []) rfl trivial ?_
  rw [if_neg (show ¬ ((nI 1) = 0) by decide)]
  show Wn _ 100 _ (13, [(0, .ref 114), (1, .int (nI q)), (2, .int r)], [], M1)
  refine Wn.run (tab := tb_m_praise) rfl 2 (c' := (15, [(0, .ref 114), (1, .int (nI q)), (2, .int r)], [.int r, .ref 114], M1)) (o := []) rfl trivial ?_
  refine Wn.callV (p := 114) (n := 2) (ix := 290) (ci := (10)) (fun r0 M0 => r0 = some (.int (nI 0)) ∧ M1 = M0) [.int r] [] rfl rfl rfl rfl (Nat.le_of_ble_eq_true rfl) (Nat.le_of_ble_eq_true rfl) (w_m_isPersonF _ r hnp M1 σ ⟨hk3.1, hB⟩ _ ⟨rfl, rfl⟩) ?_
  rintro _ _ ⟨rfl, rfl⟩
  show Wn _ 100 _ (18, [(0, .ref 114), (1, .int (nI q)), (2, .int r)], [.int (nI 0)], M1)
  refine Wn.run (tab := tb_m_praise) rfl 1 (c' := (if ¬ (nI 0) = 0 then 23 else 21, [(0, .ref 114), (1, .int (nI q)), (2, .int r)], [], M1)) (o := []) rfl trivial ?_
  rw [if_neg (show ¬ (¬ (nI 0) = 0) by decide)]
  show Wn _ 100 _ (21, [(0, .ref 114), (1, .int (nI q)), (2, .int r)], [], M1)
  refine Wn.run (tab := tb_m_praise) rfl 1 (c' := (22, [(0, .ref 114), (1, .int (nI q)), (2, .int r)], [.int (-1 : Int32)], M1)) (o := []) rfl trivial ?_
  exact Wn.iret rfl ⟨rfl, hk3, hH5, by rw [hk4]; exact ((pk_un (by decide)).trans hn), by rw [hk4]; exact pk_us, by rw [hk4]; exact (Gx_up (Gx_rf _ _) (by decide)), hF6⟩
set_option maxRecDepth 20000 in
theorem c_m_swear (d : Nat) (M : Mm) (f0 g : Nat → Int32) (σ : Nat → Nat) (n : Nat) (H : Nat → Nat → Nat) (hR : Rs f0 (M.1 116) σ) (hV : Inv σ) (hg : M.1 114 = g) (hn : g 25 = nI n) (hn8 : n ≤ 8) (hH : HMr (M.1 121) n H) (q : Nat) (hq : q < σ 2) : Wn (d + 6) 101 (PA M f0 g [0, 22, 25, 35] [114, 116, 121] (swf σ q) (if ¬ fal σ q = true then hpn n else n) (if ¬ fal σ q = true then hpH n H σ else H) (some (.int (nI (if fal σ q = true then 1 else 0))))) (0, lv_args 0 [.ref 114, .int (nI q)], [], M) := by
  have hF := fr_rf [114, 116, 121] M
  have hB := hV.1
  have hI := hV.2.1
  have c9_2 := Bd_2 hB
  have k90 := Bd_90 hB
  have f9 := Bd_q hB q (by omega)
  refine Wn.run (tab := tb_m_swear) rfl 3 (c' := (5, [(0, .ref 114), (1, .int (nI q))], [], (mI M 114 (upd (M.1 114) 0 (nI 0))))) (o := [shp 114 = (0, 10)]) rfl rfl ?_
  generalize hM2 : (mI M 114 (upd (M.1 114) 0 (nI 0))) = M1
  have hk3 := rs_ne hM2 (by decide) hR
  have hk4 := fI_up hM2 hg
  have hH5 := HMr_fr (fr_1I hM2) (by decide) hH
  have hF6 := fr_sI hF hM2 (by decide)
  show Wn _ 101 _ (5, [(0, .ref 114), (1, .int (nI q))], [], M1)
  refine Wn.run (tab := tb_m_swear) rfl 2 (c' := (7, [(0, .ref 114), (1, .int (nI q))], [.int (nI q), .ref 114], M1)) (o := []) rfl trivial ?_
  refine Wn.callV (p := 114) (n := 2) (ix := 290) (ci := (10)) (fun r0 M0 => r0 = some (.int (nI 1)) ∧ M1 = M0) [.int (nI q)] [] rfl rfl rfl rfl (Nat.le_of_ble_eq_true rfl) (Nat.le_of_ble_eq_true rfl) (w_m_isPersonT _ q (by omega) M1 σ ⟨hk3.1, hB⟩ _ ⟨rfl, rfl⟩) ?_
  rintro _ _ ⟨rfl, rfl⟩
  show Wn _ 101 _ (10, [(0, .ref 114), (1, .int (nI q))], [.int (nI 1)], M1)
  refine Wn.run (tab := tb_m_swear) rfl 1 (c' := (if ¬ (nI 1) = 0 then 15 else 13, [(0, .ref 114), (1, .int (nI q))], [], M1)) (o := []) rfl trivial ?_
  rw [if_pos (show ¬ (nI 1) = 0 by decide)]
  show Wn _ 101 _ (15, [(0, .ref 114), (1, .int (nI q))], [], M1)
  refine Wn.run (tab := tb_m_swear) rfl 2 (c' := (17, [(0, .ref 114), (1, .int (nI q))], [.int (nI q), .ref 114], M1)) (o := []) rfl trivial ?_
  refine Wn.callV (p := 114) (n := 2) (ix := 260) (ci := (10)) (fun r0 M0 => r0 = some (.int (b2 (fal σ q = true))) ∧ M1 = M0) [.int (nI q)] [] rfl rfl rfl rfl (Nat.le_of_ble_eq_true rfl) (Nat.le_of_ble_eq_true rfl) (w_m_hasFallen _ q (by omega) M1 σ ⟨hk3.1, hB⟩ _ ⟨rfl, rfl⟩) ?_
  rintro _ _ ⟨rfl, rfl⟩
  show Wn _ 101 _ (20, [(0, .ref 114), (1, .int (nI q))], [.int (b2 (fal σ q = true))], M1)
  refine Wn.run (tab := tb_m_swear) rfl 1 (c' := (if (b2 (fal σ q = true)) = 0 then 25 else 23, [(0, .ref 114), (1, .int (nI q))], [], M1)) (o := []) rfl trivial ?_
  refine Wn.br (fun h1 => ?_) (fun h1 => ?_)
  · show Wn _ 101 _ (25, [(0, .ref 114), (1, .int (nI q))], [], M1)
    have h1 := b2_neg h1
    refine Wn.run (tab := tb_m_swear) rfl 1 (c' := (26, [(0, .ref 114), (1, .int (nI q))], [.ref 114], M1)) (o := []) rfl trivial ?_
    refine Wn.callV (p := 114) (n := 1) (ix := 321) (ci := (10)) (PK M1 (upd g 0 (nI 0)) n H σ) [] [] rfl rfl rfl rfl (Nat.le_of_ble_eq_true rfl) (Nat.le_of_ble_eq_true rfl) (c_m_keep _ M1 f0 (upd g 0 (nI 0)) σ n H hk3 hk4 ((pk_un (by decide)).trans hn) (by omega) hH5) ?_
    rintro _ M7 ⟨rfl, hH8, hg9, hF10⟩
    show Wn _ 101 _ (29, [(0, .ref 114), (1, .int (nI q))], [], M7)
    have hk11 := fr_rs hF10 (by decide) hk3
    have hF12 := fr_tr hF6 hF10 (by decide)
    refine Wn.run (tab := tb_m_swear) rfl 2 (c' := (31, [(0, .ref 114), (1, .int (nI q))], [.int (nI q), .ref 114], M7)) (o := []) rfl trivial ?_
    refine Wn.callV (p := 114) (n := 2) (ix := 315) (ci := (10)) (PM M7 f0 (upd (upd g 0 (nI 0)) 25 (nI (hpn n))) (curse σ q) none) [.int (nI q)] [] rfl rfl rfl rfl (Nat.le_of_ble_eq_true rfl) (Nat.le_of_ble_eq_true rfl) (c_m_curses _ M7 f0 (upd (upd g 0 (nI 0)) 25 (nI (hpn n))) σ hk11 hB hg9 q (by omega)) ?_
    rintro _ M13 ⟨rfl, hR14, hg15, hF16⟩
    show Wn _ 101 _ (34, [(0, .ref 114), (1, .int (nI q))], [], M13)
    have hH17 := HMr_fr hF16 (by decide) hH8
    have hF18 := fr_tr hF12 hF16 (by decide)
    refine Wn.run (tab := tb_m_swear) rfl 1 (c' := (35, [(0, .ref 114), (1, .int (nI q))], [.int (nI 0)], M13)) (o := []) rfl trivial ?_
    rw [show swf σ q = curse σ q from if_neg h1, if_pos h1, if_pos h1, if_neg h1]
    exact Wn.iret rfl ⟨rfl, hR14, hH17, by rw [hg15]; exact pk_us, by rw [hg15]; exact ((pk_un (by decide)).trans pk_us), by rw [hg15]; exact (Gx_up (Gx_up (Gx_rf _ _) (by decide)) (by decide)), hF18⟩
  · show Wn _ 101 _ (23, [(0, .ref 114), (1, .int (nI q))], [], M1)
    have h1 := b2_pos h1
    refine Wn.run (tab := tb_m_swear) rfl 1 (c' := (24, [(0, .ref 114), (1, .int (nI q))], [.int (nI 1)], M1)) (o := []) rfl trivial ?_
    rw [show swf σ q = σ from if_pos h1, if_neg (fun h9 => h9 h1), if_neg (fun h9 => h9 h1), if_pos h1]
    exact Wn.iret rfl ⟨rfl, hk3, hH5, by rw [hk4]; exact ((pk_un (by decide)).trans hn), by rw [hk4]; exact pk_us, by rw [hk4]; exact (Gx_up (Gx_rf _ _) (by decide)), hF6⟩
set_option maxRecDepth 20000 in
theorem c_m_swearP (d : Nat) (M : Mm) (f0 g : Nat → Int32) (σ : Nat → Nat) (n : Nat) (H : Nat → Nat → Nat) (hR : Rs f0 (M.1 116) σ) (hV : Inv σ) (hg : M.1 114 = g) (hn : g 25 = nI n) (hn8 : n ≤ 8) (hH : HMr (M.1 121) n H) (q : Int32) (hnp : ¬ pI σ q) : Wn (d + 2) 101 (PA M f0 g [0, 22, 25, 35] [114, 116, 121] σ n H (some (.int (-1)))) (0, lv_args 0 [.ref 114, .int q], [], M) := by
  have hF := fr_rf [114, 116, 121] M
  have hB := hV.1
  have hI := hV.2.1
  have c9_2 := Bd_2 hB
  have k90 := Bd_90 hB
  refine Wn.run (tab := tb_m_swear) rfl 3 (c' := (5, [(0, .ref 114), (1, .int q)], [], (mI M 114 (upd (M.1 114) 0 (nI 0))))) (o := [shp 114 = (0, 10)]) rfl rfl ?_
  generalize hM2 : (mI M 114 (upd (M.1 114) 0 (nI 0))) = M1
  have hk3 := rs_ne hM2 (by decide) hR
  have hk4 := fI_up hM2 hg
  have hH5 := HMr_fr (fr_1I hM2) (by decide) hH
  have hF6 := fr_sI hF hM2 (by decide)
  show Wn _ 101 _ (5, [(0, .ref 114), (1, .int q)], [], M1)
  refine Wn.run (tab := tb_m_swear) rfl 2 (c' := (7, [(0, .ref 114), (1, .int q)], [.int q, .ref 114], M1)) (o := []) rfl trivial ?_
  refine Wn.callV (p := 114) (n := 2) (ix := 290) (ci := (10)) (fun r0 M0 => r0 = some (.int (nI 0)) ∧ M1 = M0) [.int q] [] rfl rfl rfl rfl (Nat.le_of_ble_eq_true rfl) (Nat.le_of_ble_eq_true rfl) (w_m_isPersonF _ q hnp M1 σ ⟨hk3.1, hB⟩ _ ⟨rfl, rfl⟩) ?_
  rintro _ _ ⟨rfl, rfl⟩
  show Wn _ 101 _ (10, [(0, .ref 114), (1, .int q)], [.int (nI 0)], M1)
  refine Wn.run (tab := tb_m_swear) rfl 1 (c' := (if ¬ (nI 0) = 0 then 15 else 13, [(0, .ref 114), (1, .int q)], [], M1)) (o := []) rfl trivial ?_
  rw [if_neg (show ¬ (¬ (nI 0) = 0) by decide)]
  show Wn _ 101 _ (13, [(0, .ref 114), (1, .int q)], [], M1)
  refine Wn.run (tab := tb_m_swear) rfl 1 (c' := (14, [(0, .ref 114), (1, .int q)], [.int (-1 : Int32)], M1)) (o := []) rfl trivial ?_
  exact Wn.iret rfl ⟨rfl, hk3, hH5, by rw [hk4]; exact ((pk_un (by decide)).trans hn), by rw [hk4]; exact pk_us, by rw [hk4]; exact (Gx_up (Gx_rf _ _) (by decide)), hF6⟩
