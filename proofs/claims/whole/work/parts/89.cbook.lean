/-! A book lived. -/
/-- how many lines were right, why the next one is wrong, the state behind them -/
def bkL (E : Nat → Bke) : Nat → Nat → (Nat → Nat) → Nat × Nat × (Nat → Nat)
  | 0, i, σ => (i, 0, σ)
  | m + 1, i, σ => if doW σ (E i) = 0 then bkL E m (i + 1) (doS σ (E i)) else (i, doW σ (E i), doS σ (E i))
theorem bkL_ok {E : Nat → Bke} {np : Nat} : ∀ (m i : Nat) (σ : Nat → Nat), Inv σ → σ 2 = np → (∀ k, i ≤ k → k < i + m → EOk np (E k)) → (∀ r, r < 6 → σ (172 + r) + m < 1073741824) → Inv (bkL E m i σ).2.2 ∧ (∀ k, k < 90 → (bkL E m i σ).2.2 k = σ k) ∧ (∀ r, r < 6 → (bkL E m i σ).2.2 (172 + r) ≤ σ (172 + r) + m) ∧ (bkL E m i σ).1 ≤ i + m ∧ (bkL E m i σ).2.1 ≤ 41
  | 0, i, σ, hV, _, _, _ => ⟨hV, fun _ _ => rfl, fun _ _ => Nat.le_refl _, Nat.le_refl _, Nat.zero_le _⟩
  | m + 1, i, σ, hV, hnp, hE, hp => by
    have e0 : EOk (σ 2) (E i) := by rw [hnp]; exact hE i (Nat.le_refl _) (by omega)
    have hp1 : ∀ r, r < 6 → σ (172 + r) + 1 < 1073741824 := fun r hr => by have := hp r hr; omega
    have h1 := doS_inv hV e0 hp1
    have hl : ∀ k, k < 90 → doS σ (E i) k = σ k := fun k hk => doS_lo hV e0 hk
    have hq : ∀ r, r < 6 → doS σ (E i) (172 + r) ≤ σ (172 + r) + 1 := fun r hr => doS_pr hV e0 hr
    unfold bkL
    by_cases c : doW σ (E i) = 0
    · rw [if_pos c]
      have ih := bkL_ok m (i + 1) (doS σ (E i)) h1 (by rw [hl 2 (by decide)]; exact hnp) (fun k h2 h3 => hE k (by omega) (by omega)) (fun r hr => by have := hp r hr; have := hq r hr; omega)
      exact ⟨ih.1, fun k hk => (ih.2.1 k hk).trans (hl k hk), fun r hr => by have := ih.2.2.1 r hr; have := hq r hr; omega, by have := ih.2.2.2.1; omega, ih.2.2.2.2⟩
    · rw [if_neg c]
      exact ⟨h1, hl, fun r hr => by have := hq r hr; show doS σ (E i) (172 + r) ≤ _; omega, by show i ≤ _; omega, doW_le⟩
def PLi (M0 : Mm) (rt wy : Nat) (σ : Nat → Nat) : Po := fun r0 M' => r0 = some (.int (nI rt)) ∧ M'.1 79 4 = nI wy ∧ StC M' 30 σ ∧ Fr [30, 31, 32, 33, 34, 79] M0 M'
set_option maxRecDepth 20000 in
theorem c_bk_liveIn_7 (d : Nat) (M0 : Mm) (n : Nat) (hn : n ≤ 40) (E : Nat → Bke) (np : Nat) (hE : ∀ i, i < n → EOk np (E i)) : ∀ (m i : Nat) (σ : Nat → Nat) (M : Mm), i + m = n → StC M 30 σ → Inv σ → σ 2 = np → (∀ r, r < 6 → σ (172 + r) + m < 1073741824) → BkC M n E → M.1 79 3 = nI n → M.1 79 4 = nI 0 → Fr [30, 31, 32, 33, 34, 79] M0 M → Wn (d + 6) 154 (PLi M0 (bkL E m i σ).1 (bkL E m i σ).2.1 (bkL E m i σ).2.2) (7, [(2, .int (nI i)), (0, .ref 79), (1, .ref 30)], [], M) := by
  intro m
  induction m with
  | zero =>
    intro i σ M him hS hV hnp hp hb h3 h4 hF
    have ei : i = n := by omega
    subst ei
    refine Wn.run (tab := tb_bk_liveIn) rfl 4 (c' := (if (M.1 79 3) ≤ (nI i) then 40 else 15, [(2, .int (nI i)), (0, .ref 79), (1, .ref 30)], [], M)) (o := [shp 79 = (0, 0)]) rfl rfl ?_
    rw [h3, if_pos ((n_le rfl rfl (by omega) (by omega)).mpr (Nat.le_refl _))]
    refine Wn.run (tab := tb_bk_liveIn) rfl 2 (c' := (44, [(2, .int (nI i)), (0, .ref 79), (1, .ref 30)], [.int (M.1 79 3)], M)) (o := [shp 79 = (0, 0)]) rfl rfl ?_
    rw [h3]
    exact Wn.iret rfl ⟨rfl, h4, hS, hF⟩
  | succ m ih =>
    intro i σ M him hS hV hnp hp hb h3 h4 hF
    have e0 : EOk (σ 2) (E i) := by rw [hnp]; exact hE i (by omega)
    have hp1 : ∀ r, r < 6 → σ (172 + r) + 1 < 1073741824 := fun r hr => by have := hp r hr; omega
    refine Wn.run (tab := tb_bk_liveIn) rfl 4 (c' := (if (M.1 79 3) ≤ (nI i) then 40 else 15, [(2, .int (nI i)), (0, .ref 79), (1, .ref 30)], [], M)) (o := [shp 79 = (0, 0)]) rfl rfl ?_
    rw [h3, if_neg (mt (n_le rfl rfl (by omega) (by omega)).mp (show ¬ n ≤ i by omega))]
    refine Wn.run (tab := tb_bk_liveIn) rfl 4 (c' := (19, [(2, .int (nI i)), (0, .ref 79), (1, .ref 30)], [.ref 30, .int (nI i), .ref 79, .ref 79], M)) (o := []) rfl trivial ?_
    have bi := hb i (by omega)
    refine Wn.callV (p := 79) (n := 3) (ix := 95) (ci := (0)) (PLl M (doS σ (E i)) (doW σ (E i))) [.int (nI i), .ref 30] [.ref 79] rfl rfl rfl rfl (Nat.le_of_ble_eq_true rfl) (Nat.le_of_ble_eq_true rfl) (c_bk_liveLine d M i (by omega) (E i) σ hS hV bi.1 bi.2.1 bi.2.2 e0 hp1) ?_
    rintro _ M1 ⟨rfl, a1, a2⟩
    show Wn _ 154 _ (22, [(2, .int (nI i)), (0, .ref 79), (1, .ref 30)], [.int (nI (doW σ (E i))), .ref 79], M1)
    refine Wn.run (tab := tb_bk_liveIn) rfl 1 (c' := (25, [(2, .int (nI i)), (0, .ref 79), (1, .ref 30)], [], (mI M1 79 (upd (M1.1 79) 4 (nI (doW σ (E i))))))) (o := [shp 79 = (0, 0)]) rfl rfl ?_
    generalize hM2 : (mI M1 79 (upd (M1.1 79) 4 (nI (doW σ (E i))))) = M2
    have f2 := fr_1I hM2
    have h24 : M2.1 79 4 = nI (doW σ (E i)) := by rw [mI_eq hM2, pk_us]
    have h23 : M2.1 79 3 = nI n := by rw [mI_eq hM2, pk_un (by decide), (a2 79 (by decide)).1]; exact h3
    have hF2 : Fr [30, 31, 32, 33, 34, 79] M0 M2 := fr_tr (fr_tr hF a2 (by decide)) f2 (by decide)
    have wl := doW_le (σ := σ) (e := E i)
    refine Wn.run (tab := tb_bk_liveIn) rfl 3 (c' := (if (M2.1 79 4) = 0 then 34 else 32, [(2, .int (nI i)), (0, .ref 79), (1, .ref 30)], [], M2)) (o := [shp 79 = (0, 0)]) rfl rfl ?_
    rw [h24]
    by_cases c : doW σ (E i) = 0
    · rw [if_pos ((n_eq rfl nI_0.symm (by omega) (by omega)).mpr c)]
      rw [show bkL E (m + 1) i σ = bkL E m (i + 1) (doS σ (E i)) from if_pos c]
      refine Wn.run (tab := tb_bk_liveIn) rfl 2 (c' := (7, [(2, .int ((nI i) + (nI 1))), (0, .ref 79), (1, .ref 30)], [], M2)) (o := []) rfl trivial ?_
      rw [nI_add]
      refine ih (i + 1) (doS σ (E i)) M2 (by omega) (fr_st f2 a1 (by decide)) (doS_inv hV e0 hp1) (by rw [doS_lo hV e0 (by decide)]; exact hnp) (fun r hr => by have := hp r hr; have := doS_pr hV e0 hr; omega) (fun k hk => ?_) h23 (by rw [h24, c]) hF2
      rw [(f2 80 (by decide)).2.2, (f2 81 (by decide)).1, (f2 82 (by decide)).1, (a2 80 (by decide)).2.2, (a2 81 (by decide)).1, (a2 82 (by decide)).1]
      exact hb k hk
    · rw [if_neg (mt (n_eq rfl nI_0.symm (by omega) (by omega)).mp c)]
      rw [show bkL E (m + 1) i σ = (i, doW σ (E i), doS σ (E i)) from if_neg c]
      refine Wn.run (tab := tb_bk_liveIn) rfl 1 (c' := (33, [(2, .int (nI i)), (0, .ref 79), (1, .ref 30)], [.int (nI i)], M2)) (o := []) rfl trivial ?_
      exact Wn.iret rfl ⟨rfl, h24, fr_st f2 a1 (by decide), hF2⟩
set_option maxRecDepth 20000 in
theorem c_bk_liveIn (d : Nat) (M : Mm) (n : Nat) (hn : n ≤ 40) (E : Nat → Bke) (σ : Nat → Nat) (hE : ∀ i, i < n → EOk (σ 2) (E i)) (hS : StC M 30 σ) (hV : Inv σ) (hp : ∀ r, r < 6 → σ (172 + r) + 41 < 1073741824) (hb : BkC M n E) (h3 : M.1 79 3 = nI n) : Wn (d + 6) 154 (PLi M (bkL E n 0 σ).1 (bkL E n 0 σ).2.1 (bkL E n 0 σ).2.2) (0, lv_args 0 [.ref 79, .ref 30], [], M) := by
  refine Wn.run (tab := tb_bk_liveIn) rfl 3 (c' := (5, [(0, .ref 79), (1, .ref 30)], [], (mI M 79 (upd (M.1 79) 4 (nI 0))))) (o := [shp 79 = (0, 0)]) rfl rfl ?_
  generalize hM1 : (mI M 79 (upd (M.1 79) 4 (nI 0))) = M1
  have f1 := fr_1I hM1
  refine Wn.run (tab := tb_bk_liveIn) rfl 2 (c' := (7, [(2, .int (nI 0)), (0, .ref 79), (1, .ref 30)], [], M1)) (o := []) rfl trivial ?_
  refine c_bk_liveIn_7 d M n hn E (σ 2) hE n 0 σ M1 (by omega) (fr_st f1 hS (by decide)) hV rfl (fun r hr => by have := hp r hr; omega) (fun k hk => ?_) (by rw [mI_eq hM1, pk_un (by decide)]; exact h3) (by rw [mI_eq hM1, pk_us]) (fr_up f1 (by decide))
  rw [(f1 80 (by decide)).2.2, (f1 81 (by decide)).1, (f1 82 (by decide)).1]
  exact hb k hk
def PNj (M0 : Mm) (wy rt : Int32) (σ : Nat → Nat) : Po := fun r0 M' => r0 = none ∧ (M'.1 87 0 = wy ∧ M'.1 87 1 = rt ∧ M'.1 87 2 = nI (σ 90) ∧ M'.1 87 3 = nI (σ 91)) ∧ M'.1 0 = upd (M0.1 0) 14 (nI 1) ∧ Fr [0, 87] M0 M'
set_option maxRecDepth 20000 in
theorem c_i_noteJudged (d : Nat) (M : Mm) (wy rt : Int32) (σ : Nat → Nat) (hS : StC M 30 σ) (hw : M.1 79 4 = wy) : Wn (d + 0) 34 (PNj M wy rt σ) (0, lv_args 0 [.ref 0, .int rt], [], M) := by
  refine Wn.run (tab := tb_i_noteJudged) rfl 7 (c' := (13, [(0, .ref 0), (1, .int rt)], [], (mI M 87 (upd (M.1 87) 0 (M.1 79 4))))) (o := [shp 0 = (0, 9), shp 0 = (0, 9), shp 79 = (0, 0), aok shp 87 0 (nI 0)]) rfl ⟨rfl, rfl, rfl, ⟨rfl, vp_in_nI (by decide) (by decide)⟩⟩ ?_
  rw [hw]
  generalize hM1 : (mI M 87 (upd (M.1 87) 0 wy)) = M1
  refine Wn.run (tab := tb_i_noteJudged) rfl 5 (c' := (20, [(0, .ref 0), (1, .int rt)], [], (mI M1 87 (upd (M1.1 87) 1 rt)))) (o := [shp 0 = (0, 9), aok shp 87 0 (nI 1)]) rfl ⟨rfl, ⟨rfl, vp_in_nI (by decide) (by decide)⟩⟩ ?_
  generalize hM2 : (mI M1 87 (upd (M1.1 87) 1 rt)) = M2
  have f2 : Fr [87] M M2 := fr_tr (fr_1I hM1) (fr_1I hM2) (by decide)
  refine Wn.run (tab := tb_i_noteJudged) rfl 7 (c' := (33, [(0, .ref 0), (1, .int rt)], [], (mI M2 87 (upd (M2.1 87) 2 (M2.1 30 7))))) (o := [shp 0 = (0, 9), shp 0 = (0, 9), shp 30 = (0, 5), aok shp 87 0 (nI 2)]) rfl ⟨rfl, rfl, rfl, ⟨rfl, vp_in_nI (by decide) (by decide)⟩⟩ ?_
  rw [(f2 30 (by decide)).1, show M.1 30 7 = nI (σ 90) from hS.2.2.1.2.2.1]
  generalize hM3 : (mI M2 87 (upd (M2.1 87) 2 (nI (σ 90)))) = M3
  have f3 : Fr [87] M M3 := fr_tr f2 (fr_1I hM3) (by decide)
  refine Wn.run (tab := tb_i_noteJudged) rfl 7 (c' := (46, [(0, .ref 0), (1, .int rt)], [], (mI M3 87 (upd (M3.1 87) 3 (M3.1 30 5))))) (o := [shp 0 = (0, 9), shp 0 = (0, 9), shp 30 = (0, 5), aok shp 87 0 (nI 3)]) rfl ⟨rfl, rfl, rfl, ⟨rfl, vp_in_nI (by decide) (by decide)⟩⟩ ?_
  rw [(f3 30 (by decide)).1, show M.1 30 5 = nI (σ 91) from hS.2.2.1.1]
  generalize hM4 : (mI M3 87 (upd (M3.1 87) 3 (nI (σ 91)))) = M4
  have f4 : Fr [87] M M4 := fr_tr f3 (fr_1I hM4) (by decide)
  refine Wn.run (tab := tb_i_noteJudged) rfl 3 (c' := (51, [(0, .ref 0), (1, .int rt)], [], (mI M4 0 (upd (M4.1 0) 14 (nI 1))))) (o := [shp 0 = (0, 9), is01 (nI 1)]) rfl ⟨rfl, Or.inr rfl⟩ ?_
  generalize hM5 : (mI M4 0 (upd (M4.1 0) 14 (nI 1))) = M5
  have f5 := fr_1I hM5
  have e : M5.1 87 = upd (upd (upd (upd (M.1 87) 0 wy) 1 rt) 2 (nI (σ 90))) 3 (nI (σ 91)) := by rw [(f5 87 (by decide)).1, mI_eq hM4, mI_eq hM3, mI_eq hM2, mI_eq hM1]
  refine Wn.vret rfl ⟨rfl, ⟨by rw [e]; rfl, by rw [e]; rfl, by rw [e]; rfl, by rw [e]; rfl⟩, by rw [mI_eq hM5, (f4 0 (by decide)).1], fr_tr (fr_up f4 (by decide)) f5 (by decide)⟩
/-- what both know of a judged book -/
def bkR (wy rt : Nat) : Int32 := if wy = 0 then -1 else nI rt
/-- the class behind a book -/
def PIB (M0 : Mm) (lv : Nat) (σ : Nat → Nat) (n : Nat) (H : Nat → Nat → Nat) (res : Flt ⊕ (Nat × (Nat → Bke))) : Po := fun r0 M' => M'.1 0 1 = nI 0 ∧ Gx [1, 14, 15] (M0.1 0) (M'.1 0) ∧ match res with
  | .inl f => r0 = some (.int ((-2 : Int32) - nI f.2)) ∧ M'.1 0 15 = nI f.1 ∧ M'.1 0 14 = M0.1 0 14 ∧ Fr [0, 77, 79, 80, 81, 82] M0 M'
  | .inr (k, E) => r0 = some (.int (bkR (bkL E k 0 σ).2.1 (bkL E k 0 σ).1)) ∧ M'.1 0 15 = nI 0 ∧ M'.1 0 14 = nI 1 ∧ (M'.1 87 0 = nI (bkL E k 0 σ).2.1 ∧ M'.1 87 1 = nI (bkL E k 0 σ).1 ∧ M'.1 87 2 = nI ((bkL E k 0 σ).2.2 90) ∧ M'.1 87 3 = nI ((bkL E k 0 σ).2.2 91)) ∧ StC M' 6 (if lv = 1 ∧ 0 < (bkL E k 0 σ).1 then (bkL E k 0 σ).2.2 else σ) ∧ HC M' (if lv = 1 ∧ 0 < (bkL E k 0 σ).1 then hpn n else n) (if lv = 1 ∧ 0 < (bkL E k 0 σ).1 then hpH n H σ else H) ∧ M'.1 6 11 = M0.1 6 11 ∧ M'.1 6 12 = M0.1 6 12 ∧ Fr ([0, 30, 31, 32, 33, 34, 77, 79, 80, 81, 82, 87] ++ CL) M0 M'
theorem c_i_book_no (d : Nat) (M : Mm) (k : Int32) (h0 : ¬ k = 0) (h1 : ¬ k = nI 1) (Q : Po) (hQ : Q (some (.int (-1000 : Int32))) M) : Wn (d + 0) 33 Q (0, lv_args 0 [.ref 0, .int k], [], M) := by
  refine Wn.run (tab := tb_i_book) rfl 2 (c' := (if k = 0 then 13 else 4, [(0, .ref 0), (1, .int k)], [], M)) (o := []) rfl trivial ?_
  rw [if_neg h0]
  refine Wn.run (tab := tb_i_book) rfl 3 (c' := (if k = (nI 1) then 13 else 9, [(0, .ref 0), (1, .int k)], [], M)) (o := []) rfl trivial ?_
  rw [if_neg h1]
  refine Wn.run (tab := tb_i_book) rfl 1 (c' := (12, [(0, .ref 0), (1, .int k)], [.int (-1000 : Int32)], M)) (o := []) rfl trivial ?_
  exact Wn.iret rfl hQ
set_option maxRecDepth 20000 in
theorem c_i_book_13 (d : Nat) (M : Mm) (lv : Nat) (hlv : lv < 2) (T : Nat → Nat) (L : Nat) (hL : M.1 0 1 = nI L) (hT : TB (M.1 1) T L) (hL9 : L ≤ 940) (σ : Nat → Nat) (n : Nat) (H : Nat → Nat → Nat) (hS : StC M 6 σ) (hV : Inv σ) (hH : HC M n H) (hp : ∀ r, r < 6 → σ (172 + r) + 41 < 1073741824) (ν : Nat → Int64) (hN : NmC M 3 ν (σ 2)) : Wn (d + 7) 33 (PIB M lv σ n H (bkS T L 400 ν (σ 2) (L + 1) 0 bk0 0)) (13, [(0, .ref 0), (1, .int (nI lv))], [], M) := by
  have b2 := Bd_2 hV.1
  refine Wn.run (tab := tb_i_book) rfl 2 (c' := (17, [(0, .ref 0), (1, .int (nI lv))], [.int (nI 400), .ref 0], M)) (o := []) rfl trivial ?_
  refine Wn.callV (p := 0) (n := 2) (ix := 104) (ci := (9)) (POT M T L 400) [.int (nI 400)] [] rfl rfl rfl rfl (Nat.le_of_ble_eq_true rfl) (Nat.le_of_ble_eq_true rfl) (c_i_openTape (d + 3) M T L 400 hL hT hL9 (by decide)) ?_
  rintro _ M1 ⟨rfl, o1, o2, o3, o4⟩
  show Wn _ 33 _ (20, [(0, .ref 0), (1, .int (nI lv))], [], M1)
  have hS1 : StC M1 6 σ := fr_st o4 hS (by decide)
  refine Wn.run (tab := tb_i_book) rfl 7 (c' := (35, [(0, .ref 0), (1, .int (nI lv))], [.ref 3, .ref 77, .ref 79], M1)) (o := [shp 0 = (0, 9), shp 0 = (0, 9), shp 0 = (0, 9), shp 2 = (0, 8)]) rfl ⟨rfl, rfl, rfl, rfl⟩ ?_
  refine Wn.callV (p := 79) (n := 3) (ix := 375) (ci := (0)) (PBl M1 T L 400 (bkS T L 400 ν (σ 2) (L + 1) 0 bk0 0)) [.ref 77, .ref 3] [] rfl rfl rfl rfl (Nat.le_of_ble_eq_true rfl) (Nat.le_of_ble_eq_true rfl) (c_bk_readLines (d + 2) M1 T L 400 0 o1 σ hS1.2.1 b2 ν (NmC_fr o4 (by decide) hN)) ?_
  rintro _ M2 ⟨rfl, a1, hres⟩
  show Wn _ 33 _ (38, [(0, .ref 0), (1, .int (nI lv))], [], M2)
  refine Wn.run (tab := tb_i_book) rfl 5 (c' := (49, [(0, .ref 0), (1, .int (nI lv))], [], (mI M2 0 (upd (M2.1 0) 15 (M2.1 77 11))))) (o := [shp 0 = (0, 9), shp 77 = (0, 3), shp 0 = (0, 9)]) rfl ⟨rfl, rfl, rfl⟩ ?_
  cases hq : bkS T L 400 ν (σ 2) (L + 1) 0 bk0 0 with
  | inl f =>
    rw [hq] at hres
    rw [hres.1]
    generalize hM3 : (mI M2 0 (upd (M2.1 0) 15 (nI f.1))) = M3
    have hd := RdD_fr (fr_1I hM3) (by decide) hres
    refine Wn.run (tab := tb_i_book) rfl 2 (c' := (53, [(0, .ref 0), (1, .int (nI lv))], [.ref 77], M3)) (o := [shp 0 = (0, 9)]) rfl rfl ?_
    refine Wn.callV (p := 77) (n := 1) (ix := 115) (ci := (3)) (fun r0 M0 => r0 = some (.int (nI 1)) ∧ M3 = M0) [] [] rfl rfl rfl rfl (Nat.le_of_ble_eq_true rfl) (Nat.le_of_ble_eq_true rfl) (w_rd_failedD _ M3 f.1 hd.1 hd.2.2.1 _ ⟨rfl, rfl⟩) ?_
    rintro _ _ ⟨rfl, rfl⟩
    show Wn _ 33 _ (56, [(0, .ref 0), (1, .int (nI lv))], [.int (nI 1)], M3)
    refine Wn.run (tab := tb_i_book) rfl 1 (c' := (if (nI 1) = 0 then 70 else 59, [(0, .ref 0), (1, .int (nI lv))], [], M3)) (o := []) rfl trivial ?_
    rw [if_neg (show ¬ nI 1 = 0 by decide)]
    refine Wn.run (tab := tb_i_book) rfl 5 (c' := (69, [(0, .ref 0), (1, .int (nI lv))], [.int ((-2 : Int32) - (M3.1 77 12))], M3)) (o := [shp 0 = (0, 9), shp 77 = (0, 3)]) rfl ⟨rfl, rfl⟩ ?_
    rw [hd.2.1]
    have e0 : M3.1 0 = upd (M1.1 0) 15 (nI f.1) := by rw [mI_eq hM3, (a1 0 (by decide)).1]
    refine Wn.iret rfl ⟨?_, ?_, rfl, ?_, ?_, fr_tr (fr_tr (fr_up o4 (by decide)) a1 (by decide)) (fr_1I hM3) (by decide)⟩
    · rw [e0, pk_un (by decide)]; exact o2
    · rw [e0]; exact Gx_up (Gx_sub o3 (by decide)) (by decide)
    · rw [e0, pk_us]
    · rw [e0, pk_un (by decide)]; exact o3 14 (by decide)
  | inr ke =>
    obtain ⟨k, E⟩ := ke
    rw [hq] at hres
    obtain ⟨⟨p2, ta2, r1⟩, r2, r3⟩ := hres
    have ok := bkS_ok (T := T) (mo := 400) (ν := ν) (np := σ 2) (L + 1) 0 bk0 0 (Nat.zero_le L) (by omega) (fun i hi => absurd hi (by omega)) hq
    rw [show M2.1 77 11 = nI 0 from r1.1.2.2.2.2.1]
    generalize hM3 : (mI M2 0 (upd (M2.1 0) 15 (nI 0))) = M3
    have f3 := fr_1I hM3
    have hr := RdL_fr f3 (by decide) r1
    refine Wn.run (tab := tb_i_book) rfl 2 (c' := (53, [(0, .ref 0), (1, .int (nI lv))], [.ref 77], M3)) (o := [shp 0 = (0, 9)]) rfl rfl ?_
    refine Wn.callV (p := 77) (n := 1) (ix := 115) (ci := (3)) (fun r0 M0 => r0 = some (.int (nI 0)) ∧ M3 = M0) [] [] rfl rfl rfl rfl (Nat.le_of_ble_eq_true rfl) (Nat.le_of_ble_eq_true rfl) (w_rd_failedL _ M3 hr.1.2.2.2.2.1 _ ⟨rfl, rfl⟩) ?_
    rintro _ _ ⟨rfl, rfl⟩
    show Wn _ 33 _ (56, [(0, .ref 0), (1, .int (nI lv))], [.int (nI 0)], M3)
    refine Wn.run (tab := tb_i_book) rfl 1 (c' := (if (nI 0) = 0 then 70 else 59, [(0, .ref 0), (1, .int (nI lv))], [], M3)) (o := []) rfl trivial ?_
    rw [if_pos (show nI 0 = 0 by decide)]
    have hS3 : StC M3 6 σ := fr_st f3 (fr_st a1 hS1 (by decide)) (by decide)
    refine Wn.run (tab := tb_i_book) rfl 5 (c' := (81, [(0, .ref 0), (1, .int (nI lv))], [.ref 6, .ref 30], M3)) (o := [shp 0 = (0, 9), shp 0 = (0, 9), shp 2 = (0, 8)]) rfl ⟨rfl, rfl, rfl⟩ ?_
    refine Wn.callV (p := 30) (n := 2) (ix := 307) (ci := (5)) (PS 30 M3 σ (M3.1 30 11) (M3.1 30 12) none) [.ref 6] [] rfl rfl rfl rfl (Nat.le_of_ble_eq_true rfl) (Nat.le_of_ble_eq_true rfl) (c_st_copyFrom _ M3 30 6 σ ⟨rfl, rfl, rfl, rfl, rfl, rfl, rfl, rfl, by decide⟩ hS3.2.1 hS3 (by decide) (by decide) _ _ rfl rfl) ?_
    rintro _ M4 ⟨rfl, s1, s2, s3, s4⟩
    show Wn _ 33 _ (84, [(0, .ref 0), (1, .int (nI lv))], [], M4)
    refine Wn.run (tab := tb_i_book) rfl 4 (c' := (92, [(0, .ref 0), (1, .int (nI lv))], [.ref 30, .ref 79], M4)) (o := [shp 0 = (0, 9), shp 0 = (0, 9)]) rfl ⟨rfl, rfl⟩ ?_
    have hb4 : BkC M4 k E := fun i hi => by
      rw [(s4 80 (by decide)).2.2, (s4 81 (by decide)).1, (s4 82 (by decide)).1, (f3 80 (by decide)).2.2, (f3 81 (by decide)).1, (f3 82 (by decide)).1]
      exact r3 i hi
    refine Wn.callV (p := 79) (n := 2) (ix := 378) (ci := (0)) (PLi M4 (bkL E k 0 σ).1 (bkL E k 0 σ).2.1 (bkL E k 0 σ).2.2) [.ref 30] [] rfl rfl rfl rfl (Nat.le_of_ble_eq_true rfl) (Nat.le_of_ble_eq_true rfl) (c_bk_liveIn (d + 0) M4 k ok.1 E σ ok.2 s1 hV hp hb4 (by rw [(s4 79 (by decide)).1, (f3 79 (by decide)).1]; exact r2)) ?_
    have bok := bkL_ok (E := E) (np := σ 2) k 0 σ hV rfl (fun i _ hi => ok.2 i (by omega)) (fun r hr => by have := hp r hr; have := ok.1; omega)
    generalize hbl : bkL E k 0 σ = bl at *
    obtain ⟨rt, wy, τ⟩ := bl
    dsimp only at bok ⊢
    rintro _ M5 ⟨rfl, l1, l2, l3⟩
    show Wn _ 33 _ (95, [(0, .ref 0), (1, .int (nI lv))], [.int (nI rt)], M5)
    refine Wn.run (tab := tb_i_book) rfl 3 (c' := (98, [(2, .int (nI rt)), (0, .ref 0), (1, .int (nI lv))], [.int (nI rt), .ref 0], M5)) (o := []) rfl trivial ?_
    refine Wn.callV (p := 0) (n := 2) (ix := 382) (ci := (9)) (PNj M5 (nI wy) (nI rt) τ) [.int (nI rt)] [] rfl rfl rfl rfl (Nat.le_of_ble_eq_true rfl) (Nat.le_of_ble_eq_true rfl) (c_i_noteJudged _ M5 (nI wy) (nI rt) τ l2 l1) ?_
    rintro _ M6 ⟨rfl, ⟨j1, j2, j3, j4⟩, j5, j6⟩
    show Wn _ 33 _ (101, [(2, .int (nI rt)), (0, .ref 0), (1, .int (nI lv))], [], M6)
    have F6 : Fr [0, 30, 31, 32, 33, 34, 77, 79, 80, 81, 82, 87] M M6 := fr_tr (fr_tr (fr_tr (fr_tr (fr_tr (fr_up o4 (by decide)) a1 (by decide)) f3 (by decide)) s4 (by decide)) l3 (by decide)) j6 (by decide)
    have e0 : M6.1 0 = upd (upd (M1.1 0) 15 (nI 0)) 14 (nI 1) := by rw [j5, (l3 0 (by decide)).1, (s4 0 (by decide)).1, mI_eq hM3, (a1 0 (by decide)).1]
    have S6 : StC M6 6 σ := fr_st j6 (fr_st l3 (fr_st s4 hS3 (by decide)) (by decide)) (by decide)
    have T6 : StC M6 30 τ := fr_st j6 l2 (by decide)
    have H6 : HC M6 n H := HC_fr F6 hH (by decide)
    have W6 : M6.1 79 4 = nI wy := by rw [(j6 79 (by decide)).1]; exact l1
    have x11 : M6.1 6 = M.1 6 := (F6 6 (by decide)).1
    have fin : ∀ (N : Mm), N.1 79 4 = nI wy → N.1 0 = M6.1 0 → N.1 87 = M6.1 87 → StC N 6 (if lv = 1 ∧ 0 < rt then τ else σ) → HC N (if lv = 1 ∧ 0 < rt then hpn n else n) (if lv = 1 ∧ 0 < rt then hpH n H σ else H) → N.1 6 11 = M.1 6 11 → N.1 6 12 = M.1 6 12 → Fr ([0, 30, 31, 32, 33, 34, 77, 79, 80, 81, 82, 87] ++ CL) M N → Wn (d + 7) 33 (PIB M lv σ n H (.inr (k, E))) (138, [(2, .int (nI rt)), (0, .ref 0), (1, .int (nI lv))], [], N) := by
      intro N n1 n2 n3 n4 n5 n6 n7 n8
      have post : PIB M lv σ n H (.inr (k, E)) (some (.int (bkR wy rt))) N := by
        unfold PIB
        dsimp only
        rw [hbl]
        refine ⟨?_, ?_, rfl, ?_, ?_, ⟨?_, ?_, ?_, ?_⟩, n4, n5, n6, n7, n8⟩
        · rw [n2, e0, pk_un (by decide), pk_un (by decide)]; exact o2
        · rw [n2, e0]; exact Gx_up (Gx_up (Gx_sub o3 (by decide)) (by decide)) (by decide)
        · rw [n2, e0, pk_un (by decide), pk_us]
        · rw [n2, e0, pk_us]
        · rw [n3]; exact j1
        · rw [n3]; exact j2
        · rw [n3]; exact j3
        · rw [n3]; exact j4
      refine Wn.run (tab := tb_i_book) rfl 4 (c' := (if ¬ (N.1 79 4) = 0 then 152 else 148, [(2, .int (nI rt)), (0, .ref 0), (1, .int (nI lv))], [], N)) (o := [shp 0 = (0, 9), shp 79 = (0, 0)]) rfl ⟨rfl, rfl⟩ ?_
      rw [n1]
      have w41 := bok.2.2.2.2
      unfold bkR at post
      by_cases c : wy = 0
      · rw [if_neg (fun q => q ((n_eq rfl nI_0.symm (by omega) (by omega)).mpr c))]
        rw [if_pos c] at post
        refine Wn.run (tab := tb_i_book) rfl 2 (c' := (153, [(2, .int (nI rt)), (0, .ref 0), (1, .int (nI lv))], [.int (-1 : Int32)], N)) (o := []) rfl trivial ?_
        exact Wn.iret rfl post
      · rw [if_pos (mt (n_eq rfl nI_0.symm (by omega) (by omega)).mp c)]
        rw [if_neg c] at post
        refine Wn.run (tab := tb_i_book) rfl 1 (c' := (153, [(2, .int (nI rt)), (0, .ref 0), (1, .int (nI lv))], [.int (nI rt)], N)) (o := []) rfl trivial ?_
        exact Wn.iret rfl post
    have rt4 : rt ≤ 40 := by have := bok.2.2.2.1; have := ok.1; omega
    refine Wn.run (tab := tb_i_book) rfl 3 (c' := (if ¬ (nI lv) = (nI 1) then 138 else 106, [(2, .int (nI rt)), (0, .ref 0), (1, .int (nI lv))], [], M6)) (o := []) rfl trivial ?_
    by_cases cl : lv = 1
    · rw [if_neg (fun q => q ((n_eq rfl rfl (by omega) (by omega)).mpr cl))]
      refine Wn.run (tab := tb_i_book) rfl 2 (c' := (if (nI rt) ≤ 0 then 138 else 110, [(2, .int (nI rt)), (0, .ref 0), (1, .int (nI lv))], [], M6)) (o := []) rfl trivial ?_
      by_cases cr : 0 < rt
      · rw [if_neg (mt (n_le rfl nI_0.symm (by omega) (by omega)).mp (show ¬ rt ≤ 0 by omega))]
        refine Wn.run (tab := tb_i_book) rfl 5 (c' := (121, [(2, .int (nI rt)), (0, .ref 0), (1, .int (nI lv))], [.ref 6, .ref 35], M6)) (o := [shp 0 = (0, 9), shp 0 = (0, 9), shp 2 = (0, 8)]) rfl ⟨rfl, rfl, rfl⟩ ?_
        refine Wn.callV (p := 35) (n := 2) (ix := 243) (ci := (1)) (PKC M6 6 σ (hpn n) (hpH n H σ)) [.ref 6] [] rfl rfl rfl rfl (Nat.le_of_ble_eq_true rfl) (Nat.le_of_ble_eq_true rfl) (c_hy_keep (d + 5) M6 σ n H S6 H6) ?_
        rintro _ M7 ⟨rfl, k1, k2, k3⟩
        show Wn _ 33 _ (124, [(2, .int (nI rt)), (0, .ref 0), (1, .int (nI lv))], [], M7)
        have T7 : StC M7 30 τ := fr_st k3 T6 (by decide)
        refine Wn.run (tab := tb_i_book) rfl 5 (c' := (135, [(2, .int (nI rt)), (0, .ref 0), (1, .int (nI lv))], [.ref 30, .ref 6], M7)) (o := [shp 0 = (0, 9), shp 2 = (0, 8), shp 0 = (0, 9)]) rfl ⟨rfl, rfl, rfl⟩ ?_
        refine Wn.callV (p := 6) (n := 2) (ix := 307) (ci := (5)) (PS 6 M7 τ (M7.1 6 11) (M7.1 6 12) none) [.ref 30] [] rfl rfl rfl rfl (Nat.le_of_ble_eq_true rfl) (Nat.le_of_ble_eq_true rfl) (c_st_copyFrom _ M7 6 30 τ ⟨rfl, rfl, rfl, rfl, rfl, rfl, rfl, rfl, by decide⟩ T7.2.1 T7 (by decide) (by decide) _ _ rfl rfl) ?_
        rintro _ M8 ⟨rfl, q1, q2, q3, q4⟩
        show Wn _ 33 _ (138, [(2, .int (nI rt)), (0, .ref 0), (1, .int (nI lv))], [], M8)
        refine fin M8 ?_ ?_ ?_ ?_ ?_ ?_ ?_ ?_
        · rw [(q4 79 (by decide)).1, (k3 79 (by decide)).1]; exact W6
        · rw [(q4 0 (by decide)).1, (k3 0 (by decide)).1]
        · rw [(q4 87 (by decide)).1, (k3 87 (by decide)).1]
        · rw [if_pos ⟨cl, cr⟩]; exact q1
        · rw [if_pos ⟨cl, cr⟩, if_pos ⟨cl, cr⟩]; exact HC_fr q4 k2 (by decide)
        · rw [q2, (k3 6 (by decide)).1, x11]
        · rw [q3, (k3 6 (by decide)).1, x11]
        · exact fr_tr (fr_tr (fr_up F6 (by decide)) k3 (by decide)) q4 (by decide)
      · rw [if_pos ((n_le rfl nI_0.symm (by omega) (by omega)).mpr (show rt ≤ 0 by omega))]
        exact fin M6 W6 rfl rfl (by rw [if_neg (fun q => cr q.2)]; exact S6) (by rw [if_neg (fun q => cr q.2), if_neg (fun q => cr q.2)]; exact H6) (by rw [x11]) (by rw [x11]) (fr_up F6 (by decide))
    · rw [if_pos (mt (n_eq rfl rfl (by omega) (by omega)).mp cl)]
      exact fin M6 W6 rfl rfl (by rw [if_neg (fun q => cl q.1)]; exact S6) (by rw [if_neg (fun q => cl q.1), if_neg (fun q => cl q.1)]; exact H6) (by rw [x11]) (by rw [x11]) (fr_up F6 (by decide))
theorem c_i_book (d : Nat) (M : Mm) (lv : Nat) (hlv : lv < 2) (T : Nat → Nat) (L : Nat) (hL : M.1 0 1 = nI L) (hT : TB (M.1 1) T L) (hL9 : L ≤ 940) (σ : Nat → Nat) (n : Nat) (H : Nat → Nat → Nat) (hS : StC M 6 σ) (hV : Inv σ) (hH : HC M n H) (hp : ∀ r, r < 6 → σ (172 + r) + 41 < 1073741824) (ν : Nat → Int64) (hN : NmC M 3 ν (σ 2)) : Wn (d + 7) 33 (PIB M lv σ n H (bkS T L 400 ν (σ 2) (L + 1) 0 bk0 0)) (0, lv_args 0 [.ref 0, .int (nI lv)], [], M) := by
  have h := c_i_book_13 d M lv hlv T L hL hT hL9 σ n H hS hV hH hp ν hN
  refine Wn.run (tab := tb_i_book) rfl 2 (c' := (if (nI lv) = 0 then 13 else 4, [(0, .ref 0), (1, .int (nI lv))], [], M)) (o := []) rfl trivial ?_
  refine Wn.br (fun _ => h) (fun q => ?_)
  have q := mt (n_eq rfl nI_0.symm (by omega) (by omega)).mpr q
  refine Wn.run (tab := tb_i_book) rfl 3 (c' := (if (nI lv) = (nI 1) then 13 else 9, [(0, .ref 0), (1, .int (nI lv))], [], M)) (o := []) rfl trivial ?_
  rw [if_pos (show nI lv = nI 1 by rw [show lv = 1 by omega])]
  exact h
