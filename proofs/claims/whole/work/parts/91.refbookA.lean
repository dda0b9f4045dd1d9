/-! The reference's book. -/
theorem doS_no {σ : Nat → Nat} {e : Bke} (hE : EOk (σ 2) e) (h : ¬ doW σ e = 0) : doS σ e = σ := by
  obtain ⟨h4, hh, hq, hs, hr⟩ := hE
  unfold doW at h
  unfold doS
  by_cases c0 : e.1 = 0
  · rw [if_pos c0] at h ⊢; exact gof_no h
  rw [if_neg c0] at h ⊢
  by_cases c1 : e.1 = 1
  · rw [if_pos c1] at h ⊢; exact if_neg (fun q => h (if_pos q))
  rw [if_neg c1] at h ⊢
  by_cases c2 : e.1 = 2
  · rw [if_pos c2] at h ⊢; exact if_neg (fun q => h (if_pos q))
  rw [if_neg c2] at h ⊢
  by_cases c3 : e.1 = 3
  · rw [if_pos c3] at h ⊢; exact if_pos (Classical.not_not.mp (fun q => h (if_neg q)))
  rw [if_neg c3] at h ⊢
  exact if_pos (Classical.not_not.mp (fun q => h (if_neg q)))
theorem bkL_ge {E : Nat → Bke} : ∀ (m i : Nat) (σ : Nat → Nat), i ≤ (bkL E m i σ).1
  | 0, _, _ => Nat.le_refl _
  | m + 1, i, σ => by
    unfold bkL
    by_cases c : doW σ (E i) = 0
    · rw [if_pos c]; have := bkL_ge (E := E) m (i + 1) (doS σ (E i)); omega
    · rw [if_neg c]; exact Nat.le_refl _
theorem bkL_stay {E : Nat → Bke} {m i : Nat} {σ : Nat → Nat} (hE : 0 < m → EOk (σ 2) (E i)) (h : (bkL E m i σ).1 = i) : (bkL E m i σ).2.2 = σ := by
  cases m with
  | zero => rfl
  | succ m =>
    unfold bkL at h ⊢
    by_cases c : doW σ (E i) = 0
    · rw [if_pos c] at h; have := bkL_ge (E := E) m (i + 1) (doS σ (E i)); omega
    · rw [if_neg c]; exact doS_no (hE (by omega)) c
theorem hpH_last {n : Nat} {H : Nat → Nat → Nat} {σ : Nat → Nat} (hn : n ≤ 8) : hpH n H σ (hpn n - 1) = σ := by
  unfold hpH hpn
  by_cases c : n = 8
  · rw [if_pos c, if_pos c]; exact if_pos rfl
  · rw [if_neg c, if_neg c]; exact if_pos (by omega)
theorem hpH_oth {n : Nat} {H : Nat → Nat → Nat} {σ τ : Nat → Nat} {k : Nat} (hn : n ≤ 8) (hk : k < hpn n - 1) : hpH n H σ k = hpH n H τ k := by
  unfold hpn at hk
  unfold hpH
  by_cases c : n = 8
  · rw [if_pos c] at hk
    rw [if_pos c, if_pos c, if_neg (by omega), if_neg (by omega)]
  · rw [if_neg c] at hk
    rw [if_neg c, if_neg c, if_neg (by omega), if_neg (by omega)]
theorem HMr_last {u : Nat → Int32} {n : Nat} {H : Nat → Nat → Nat} {σ τ : Nat → Nat} (hn : n ≤ 8) (h : HMr u (hpn n) (hpH n H τ)) : HMr (cpB u (fun i => nI (sft σ i)) (88 * (hpn n - 1)) 88) (hpn n) (hpH n H σ) := by
  intro k hk i hi
  by_cases e : k = hpn n - 1
  · rw [e, hpH_last hn]
    unfold cpB
    rw [if_pos (by omega), show 88 * (hpn n - 1) + i - 88 * (hpn n - 1) = i by omega]
    rfl
  · have hlt : k < hpn n - 1 := by omega
    rw [hpH_oth (τ := τ) hn hlt]
    unfold cpB
    rw [if_neg (by have : 88 * k + 88 ≤ 88 * (hpn n - 1) := by (have := Nat.mul_le_mul_left 88 (show k + 1 ≤ hpn n - 1 by omega); omega)
                   omega)]
    exact h k hk i hi
theorem hpn_pos (n : Nat) : 1 ≤ hpn n := by unfold hpn; split <;> omega
def PBe (N0 : Mm) (lv : Nat) (f0 : Nat → Int32) (g : Nat → Int32) (σ : Nat → Nat) (n : Nat) (H : Nat → Nat → Nat) (wy rt : Nat) (τ : Nat → Nat) : Po := fun r0 M' => r0 = some (.int (bkR wy rt)) ∧ Rs f0 (M'.1 116) (if lv = 1 ∧ 0 < rt then τ else σ) ∧ HMr (M'.1 121) (if lv = 1 ∧ 0 < rt then hpn n else n) (if lv = 1 ∧ 0 < rt then hpH n H σ else H) ∧ M'.1 114 25 = nI (if lv = 1 ∧ 0 < rt then hpn n else n) ∧ M'.1 114 38 = nI 1 ∧ (M'.1 128 0 = nI wy ∧ M'.1 128 1 = nI rt ∧ M'.1 128 2 = nI (τ 90) ∧ M'.1 128 3 = nI (τ 91)) ∧ Gx [25, 38] g (M'.1 114) ∧ Fr [114, 116, 121, 128] N0 M'
set_option maxRecDepth 20000 in
theorem c_m_book_191 (d : Nat) (N : Mm) (lv : Nat) (hlv : lv < 2) (f0 g : Nat → Int32) (hg : N.1 114 = g) (σ τ : Nat → Nat) (hR : Rs f0 (N.1 116) τ) (hτ : ∀ k, k < 90 → τ k = σ k) (n : Nat) (hn8 : n ≤ 8) (H : Nat → Nat → Nat) (hn : g 25 = nI n) (hH : HMr (N.1 121) n H) (hb : ∀ i, i < 88 → N.1 122 i = nI (sft σ i)) (wy rt : Nat) (hrt : rt < 1000) (hst : rt = 0 → τ = σ) (h0 : N.1 128 0 = nI wy) (h1 : N.1 128 1 = nI rt) (j : Int32) : Wn (d + 9) 136 (PBe N lv f0 g σ n H wy rt τ) (191, [(3, .int j), (2, .int (bkR wy rt)), (0, .ref 114), (1, .int (nI lv))], [], N) := by
  refine Wn.run (tab := tb_m_book) rfl 8 (c' := (204, [(3, .int j), (2, .int (bkR wy rt)), (0, .ref 114), (1, .int (nI lv))], [], (mI N 128 (upd (N.1 128) 2 (N.1 116 90))))) (o := [shp 114 = (0, 10), shp 114 = (0, 10), aok shp 116 0 (nI 90), aok shp 128 0 (nI 2)]) rfl ⟨rfl, rfl, ⟨rfl, vp_in_nI (by decide) (by decide)⟩, ⟨rfl, vp_in_nI (by decide) (by decide)⟩⟩ ?_
  rw [hR.1 90 (by decide)]
  generalize hM1 : (mI N 128 (upd (N.1 128) 2 (nI (τ 90)))) = N1
  refine Wn.run (tab := tb_m_book) rfl 8 (c' := (217, [(3, .int j), (2, .int (bkR wy rt)), (0, .ref 114), (1, .int (nI lv))], [], (mI N1 128 (upd (N1.1 128) 3 (N1.1 116 91))))) (o := [shp 114 = (0, 10), shp 114 = (0, 10), aok shp 116 0 (nI 91), aok shp 128 0 (nI 3)]) rfl ⟨rfl, rfl, ⟨rfl, vp_in_nI (by decide) (by decide)⟩, ⟨rfl, vp_in_nI (by decide) (by decide)⟩⟩ ?_
  rw [show N1.1 116 91 = nI (τ 91) from by rw [(fr_1I hM1 116 (by decide)).1]; exact hR.1 91 (by decide)]
  generalize hM2 : (mI N1 128 (upd (N1.1 128) 3 (nI (τ 91)))) = N2
  refine Wn.run (tab := tb_m_book) rfl 3 (c' := (222, [(3, .int j), (2, .int (bkR wy rt)), (0, .ref 114), (1, .int (nI lv))], [], (mI N2 114 (upd (N2.1 114) 38 (nI 1))))) (o := [shp 114 = (0, 10), is01 (nI 1)]) rfl ⟨rfl, (Or.inr rfl)⟩ ?_
  generalize hM3 : (mI N2 114 (upd (N2.1 114) 38 (nI 1))) = N3
  have f2 : Fr [128] N N2 := fr_tr (fr_1I hM1) (fr_1I hM2) (by decide)
  have f3 : Fr [114, 128] N N3 := fr_tr (fr_up f2 (by decide)) (fr_1I hM3) (by decide)
  have g3 : N3.1 114 = upd g 38 (nI 1) := by rw [mI_eq hM3, (f2 114 (by decide)).1, hg]
  have R3 : Rs f0 (N3.1 116) τ := fr_rs f3 (by decide) hR
  have e128 : N3.1 128 = upd (upd (N.1 128) 2 (nI (τ 90))) 3 (nI (τ 91)) := by rw [(fr_1I hM3 128 (by decide)).1, mI_eq hM2, mI_eq hM1]
  have v128 : N3.1 128 0 = nI wy ∧ N3.1 128 1 = nI rt ∧ N3.1 128 2 = nI (τ 90) ∧ N3.1 128 3 = nI (τ 91) := by
    rw [e128]
    exact ⟨h0, h1, rfl, rfl⟩
  have H3 : HMr (N3.1 121) n H := HMr_fr f3 (by decide) hH
  have B3 : ∀ i, i < 88 → N3.1 122 i = nI (sft σ i) := by rw [(f3 122 (by decide)).1]; exact hb
  refine Wn.run (tab := tb_m_book) rfl 3 (c' := (if ¬ (nI lv) = (nI 1) then 276 else 227, [(3, .int j), (2, .int (bkR wy rt)), (0, .ref 114), (1, .int (nI lv))], [], N3)) (o := []) rfl trivial ?_
  by_cases cl : lv = 1
  · rw [if_neg (fun q => q ((n_eq rfl rfl (by omega) (by omega)).mpr cl))]
    refine Wn.run (tab := tb_m_book) rfl 5 (c' := (if (N3.1 128 1) ≤ 0 then 276 else 236, [(3, .int j), (2, .int (bkR wy rt)), (0, .ref 114), (1, .int (nI lv))], [], N3)) (o := [shp 114 = (0, 10), aok shp 128 0 (nI 1)]) rfl ⟨rfl, ⟨rfl, vp_in_nI (by decide) (by decide)⟩⟩ ?_
    rw [v128.2.1]
    by_cases cr : 0 < rt
    · rw [if_neg (mt (n_le rfl nI_0.symm (by omega) (by omega)).mp (show ¬ rt ≤ 0 by omega))]
      have cc : lv = 1 ∧ 0 < rt := ⟨cl, cr⟩
      refine Wn.run (tab := tb_m_book) rfl 1 (c' := (237, [(3, .int j), (2, .int (bkR wy rt)), (0, .ref 114), (1, .int (nI lv))], [.ref 114], N3)) (o := []) rfl trivial ?_
      refine Wn.callV (p := 114) (n := 1) (ix := 321) (ci := (10)) (PK N3 (N3.1 114) n H τ) [] [] rfl rfl rfl rfl (Nat.le_of_ble_eq_true rfl) (Nat.le_of_ble_eq_true rfl) (c_m_keep _ N3 f0 _ τ n H R3 rfl (by rw [g3, pk_un (by decide)]; exact hn) hn8 H3) ?_
      rintro _ N4 ⟨rfl, k1, k2, k3⟩
      rw [g3] at k2
      show Wn _ 136 _ (240, [(3, .int j), (2, .int (bkR wy rt)), (0, .ref 114), (1, .int (nI lv))], [], N4)
      refine Wn.run (tab := tb_m_book) rfl 2 (c' := (242, [(3, .int (nI 0)), (2, .int (bkR wy rt)), (0, .ref 114), (1, .int (nI lv))], [], N4)) (o := []) rfl trivial ?_
      have hp1 := hpn_pos n
      have hp8 := hpn_le hn8
      have loop : ∀ (m z : Nat) (O : Mm), 88 - z = m → z ≤ 88 → O.1 121 = cpB (N4.1 121) (fun i => nI (sft σ i)) (88 * (hpn n - 1)) z → Fr [121] N4 O → Wn (d + 9) 136 (PBe N lv f0 g σ n H wy rt τ) (242, [(3, .int (nI z)), (2, .int (bkR wy rt)), (0, .ref 114), (1, .int (nI lv))], [], O) := by
        intro m
        induction m using Nat.strongRecOn with
        | _ m ih =>
          intro z O hm hz hu hFO
          refine Wn.run (tab := tb_m_book) rfl 3 (c' := (if (nI 88) ≤ (nI z) then 276 else 248, [(3, .int (nI z)), (2, .int (bkR wy rt)), (0, .ref 114), (1, .int (nI lv))], [], O)) (o := []) rfl trivial ?_
          by_cases hz8 : 88 ≤ z
          · rw [if_pos ((n_le rfl rfl (by omega) (by omega)).mpr hz8)]
            have ez : z = 88 := by omega
            subst ez
            refine Wn.run (tab := tb_m_book) rfl 2 (c' := (if ¬ (nI lv) = 0 then 284 else 280, [(3, .int (nI 88)), (2, .int (bkR wy rt)), (0, .ref 114), (1, .int (nI lv))], [], O)) (o := []) rfl trivial ?_
            rw [if_pos (show ¬ (nI lv) = 0 by rw [cl]; decide)]
            refine Wn.run (tab := tb_m_book) rfl 1 (c' := (285, [(3, .int (nI 88)), (2, .int (bkR wy rt)), (0, .ref 114), (1, .int (nI lv))], [.int (bkR wy rt)], O)) (o := []) rfl trivial ?_
            refine Wn.iret rfl ⟨rfl, ?_, ?_, ?_, ?_, ?_, ?_, ?_⟩
            · rw [if_pos cc]; exact fr_rs hFO (by decide) (fr_rs k3 (by decide) R3)
            · rw [if_pos cc, if_pos cc, hu]; exact HMr_last hn8 k1
            · rw [if_pos cc, (hFO 114 (by decide)).1, k2, pk_us]
            · rw [(hFO 114 (by decide)).1, k2, pk_un (by decide), pk_us]
            · rw [(hFO 128 (by decide)).1, (k3 128 (by decide)).1]; exact v128
            · rw [(hFO 114 (by decide)).1, k2]; exact Gx_up (Gx_up (Gx_rf _ _) (by decide)) (by decide)
            · exact fr_tr (fr_tr (fr_up f3 (by decide)) k3 (by decide)) hFO (by decide)
          · rw [if_neg (mt (n_le rfl rfl (by omega) (by omega)).mp hz8)]
            have e25 : O.1 114 25 = nI (hpn n) := by rw [(hFO 114 (by decide)).1, k2, pk_us]
            have eix : ((nI 88) * ((O.1 114 25) - (nI 1))) + (nI z) = nI (88 * (hpn n - 1) + z) := by rw [e25, n_sub rfl rfl hp1, pk_mul, nI_add]
            have ix9 : 88 * (hpn n - 1) + z < 704 := by omega
            have kx3 : aok shp 121 0 (((nI 88) * ((O.1 114 25) - (nI 1))) + (nI z)) := ak1 (n := 704) rfl rfl eix ix9
            refine Wn.run (tab := tb_m_book) rfl 15 (c' := (270, [(3, .int (nI z)), (2, .int (bkR wy rt)), (0, .ref 114), (1, .int (nI lv))], [], (mI O 121 (upd (O.1 121) ((((nI 88) * ((O.1 114 25) - (nI 1))) + (nI z))).toNatClampNeg (O.1 122 ((nI z)).toNatClampNeg))))) (o := [shp 114 = (0, 10), shp 114 = (0, 10), shp 114 = (0, 10), aok shp 122 0 (nI z), aok shp 121 0 (((nI 88) * ((O.1 114 25) - (nI 1))) + (nI z))]) rfl ⟨rfl, rfl, rfl, (ak1 (n := 88) rfl rfl rfl (by omega)), kx3⟩ ?_
            rw [show O.1 122 ((nI z)).toNatClampNeg = nI (sft σ z) from by rw [nI_clamp (by omega), (hFO 122 (by decide)).1, (k3 122 (by decide)).1]; exact B3 z (by omega), show ((((nI 88) * ((O.1 114 25) - (nI 1))) + (nI z))).toNatClampNeg = 88 * (hpn n - 1) + z from cl1 eix (by omega)]
            generalize hO2 : (mI O 121 (upd (O.1 121) (88 * (hpn n - 1) + z) (nI (sft σ z)))) = O2
            refine Wn.run (tab := tb_m_book) rfl 2 (c' := (242, [(3, .int ((nI z) + (nI 1))), (2, .int (bkR wy rt)), (0, .ref 114), (1, .int (nI lv))], [], O2)) (o := []) rfl trivial ?_
            rw [nI_add]
            refine ih (88 - (z + 1)) (by omega) (z + 1) O2 rfl (by omega) ?_ (fr_tr hFO (fr_1I hO2) (by decide))
            rw [mI_eq hO2, hu]
            exact cpBI_s _ (fun i => nI (sft σ i)) _ z
      exact loop 88 0 N4 rfl (by omega) (by rw [cpB_0]) (fr_rf _ _)
    · rw [if_pos ((n_le rfl nI_0.symm (by omega) (by omega)).mpr (show rt ≤ 0 by omega))]
      have cc : ¬ (lv = 1 ∧ 0 < rt) := fun q => cr q.2
      refine Wn.run (tab := tb_m_book) rfl 2 (c' := (if ¬ (nI lv) = 0 then 284 else 280, [(3, .int j), (2, .int (bkR wy rt)), (0, .ref 114), (1, .int (nI lv))], [], N3)) (o := []) rfl trivial ?_
      rw [if_pos (show ¬ (nI lv) = 0 by rw [cl]; decide)]
      refine Wn.run (tab := tb_m_book) rfl 1 (c' := (285, [(3, .int j), (2, .int (bkR wy rt)), (0, .ref 114), (1, .int (nI lv))], [.int (bkR wy rt)], N3)) (o := []) rfl trivial ?_
      rw [hst (by omega)] at R3
      refine Wn.iret rfl ⟨rfl, ?_, ?_, ?_, ?_, ?_, ?_, ?_⟩
      · rw [if_neg cc]; exact R3
      · rw [if_neg cc, if_neg cc]; exact H3
      · rw [if_neg cc, g3, pk_un (by decide)]; exact hn
      · rw [g3, pk_us]
      · exact v128
      · rw [g3]; exact Gx_up (Gx_rf _ _) (by decide)
      · exact fr_up f3 (by decide)
  · rw [if_pos (mt (n_eq rfl rfl (by omega) (by omega)).mp cl)]
    have cc : ¬ (lv = 1 ∧ 0 < rt) := fun q => cl q.1
    refine Wn.run (tab := tb_m_book) rfl 2 (c' := (if ¬ (nI lv) = 0 then 284 else 280, [(3, .int j), (2, .int (bkR wy rt)), (0, .ref 114), (1, .int (nI lv))], [], N3)) (o := []) rfl trivial ?_
    rw [if_neg (show ¬ ¬ (nI lv) = 0 by rw [show lv = 0 by omega]; decide)]
    refine Wn.run (tab := tb_m_book) rfl 1 (c' := (281, [(3, .int j), (2, .int (bkR wy rt)), (0, .ref 114), (1, .int (nI lv))], [.ref 114], N3)) (o := []) rfl trivial ?_
    refine Wn.callV (p := 114) (n := 1) (ix := 350) (ci := (10)) (PB N3 f0 (mrg τ σ)) [] [] rfl rfl rfl rfl (Nat.le_of_ble_eq_true rfl) (Nat.le_of_ble_eq_true rfl) (c_m_back _ N3 f0 τ σ R3 B3) ?_
    rintro _ N4 ⟨rfl, k1, k2⟩
    show Wn _ 136 _ (284, [(3, .int j), (2, .int (bkR wy rt)), (0, .ref 114), (1, .int (nI lv))], [], N4)
    refine Wn.run (tab := tb_m_book) rfl 1 (c' := (285, [(3, .int j), (2, .int (bkR wy rt)), (0, .ref 114), (1, .int (nI lv))], [.int (bkR wy rt)], N4)) (o := []) rfl trivial ?_
    refine Wn.iret rfl ⟨rfl, ?_, ?_, ?_, ?_, ?_, ?_, ?_⟩
    · rw [if_neg cc]; exact Rs_cg k1 (fun k hk => mrg_eq hτ hk)
    · rw [if_neg cc, if_neg cc]; exact HMr_fr k2 (by decide) H3
    · rw [if_neg cc, (k2 114 (by decide)).1, g3, pk_un (by decide)]; exact hn
    · rw [(k2 114 (by decide)).1, g3, pk_us]
    · rw [(k2 128 (by decide)).1]; exact v128
    · rw [(k2 114 (by decide)).1, g3]; exact Gx_up (Gx_rf _ _) (by decide)
    · exact fr_tr (fr_up f3 (by decide)) k2 (by decide)
set_option maxRecDepth 20000 in
theorem c_m_book_111 (d : Nat) (lv : Nat) (f0 g0 : Nat → Int32) (N0 : Mm) (k np : Nat) (hk : k ≤ 40) (E : Nat → Bke) (hE : ∀ i, i < k → EOk np (E i)) (Q : Po) : ∀ (m i : Nat) (σ : Nat → Nat) (N : Mm), i + m = k → Rs f0 (N.1 116) σ → Inv σ → σ 2 = np → (∀ r, r < 6 → σ (172 + r) + m < 1073741824) → N.1 128 0 = nI 0 → N.1 128 1 = nI i → BkM N k E → N.1 114 36 = nI k → Fr [114, 116, 128] N0 N → Gx [22] g0 (N.1 114) → (∀ (j : Int32) (N' : Mm), Rs f0 (N'.1 116) (bkL E m i σ).2.2 → N'.1 128 0 = nI (bkL E m i σ).2.1 → N'.1 128 1 = nI (bkL E m i σ).1 → Fr [114, 116, 128] N0 N' → Gx [22] g0 (N'.1 114) → Wn (d + 9) 136 Q (191, [(3, .int j), (2, .int (bkR (bkL E m i σ).2.1 (bkL E m i σ).1)), (0, .ref 114), (1, .int (nI lv))], [], N')) → Wn (d + 9) 136 Q (111, [(3, .int (nI i)), (2, .int (-1 : Int32)), (0, .ref 114), (1, .int (nI lv))], [], N) := by
  intro m
  induction m with
  | zero =>
    intro i σ N him hR hV hnp hp h0 h1 hb h36 hF hx cont
    have ei : i = k := by omega
    refine Wn.run (tab := tb_m_book) rfl 4 (c' := (if (N.1 114 36) ≤ (nI i) then 191 else 119, [(3, .int (nI i)), (2, .int (-1 : Int32)), (0, .ref 114), (1, .int (nI lv))], [], N)) (o := [shp 114 = (0, 10)]) rfl rfl ?_
    rw [h36, if_pos ((n_le rfl rfl (by omega) (by omega)).mpr (show k ≤ i by omega))]
    exact cont (nI i) N hR h0 h1 hF hx
  | succ m ih =>
    intro i σ N him hR hV hnp hp h0 h1 hb h36 hF hx cont
    have e0 : EOk (σ 2) (E i) := by rw [hnp]; exact hE i (by omega)
    have hp1 : ∀ r, r < 6 → σ (172 + r) + 1 < 1073741824 := fun r hr => by have := hp r hr; omega
    refine Wn.run (tab := tb_m_book) rfl 4 (c' := (if (N.1 114 36) ≤ (nI i) then 191 else 119, [(3, .int (nI i)), (2, .int (-1 : Int32)), (0, .ref 114), (1, .int (nI lv))], [], N)) (o := [shp 114 = (0, 10)]) rfl rfl ?_
    rw [h36, if_neg (mt (n_le rfl rfl (by omega) (by omega)).mp (show ¬ k ≤ i by omega))]
    refine Wn.run (tab := tb_m_book) rfl 2 (c' := (if 0 ≤ (-1 : Int32) then 191 else 123, [(3, .int (nI i)), (2, .int (-1 : Int32)), (0, .ref 114), (1, .int (nI lv))], [], N)) (o := []) rfl trivial ?_
    rw [if_neg (show ¬ 0 ≤ (-1 : Int32) by decide)]
    have i0 : (nI 3) * (nI i) = nI (3 * i) := pk_mul _ _
    have i1 : ((nI 3) * (nI i)) + (nI 1) = nI (3 * i + 1) := by rw [i0, nI_add]
    have i2 : ((nI 3) * (nI i)) + (nI 2) = nI (3 * i + 2) := by rw [i0, nI_add]
    have kx0 : aok shp 118 0 ((nI 3) * (nI i)) := ak1 (n := 135) rfl rfl i0 (by omega)
    have kx1 : aok shp 118 0 (((nI 3) * (nI i)) + (nI 1)) := ak1 (n := 135) rfl rfl i1 (by omega)
    have kx2 : aok shp 118 0 (((nI 3) * (nI i)) + (nI 2)) := ak1 (n := 135) rfl rfl i2 (by omega)
    have bi := hb i (by omega)
    refine Wn.run (tab := tb_m_book) rfl 26 (c' := (157, [(3, .int (nI i)), (2, .int (-1 : Int32)), (0, .ref 114), (1, .int (nI lv))], [.int (N.1 118 ((((nI 3) * (nI i)) + (nI 2))).toNatClampNeg), .int (N.1 118 ((((nI 3) * (nI i)) + (nI 1))).toNatClampNeg), .int (N.1 118 (((nI 3) * (nI i))).toNatClampNeg), .ref 114, .int (nI 0), .ref 128], N)) (o := [shp 114 = (0, 10), shp 114 = (0, 10), aok shp 118 0 ((nI 3) * (nI i)), shp 114 = (0, 10), aok shp 118 0 (((nI 3) * (nI i)) + (nI 1)), shp 114 = (0, 10), aok shp 118 0 (((nI 3) * (nI i)) + (nI 2))]) rfl ⟨rfl, rfl, kx0, rfl, kx1, rfl, kx2⟩ ?_
    rw [show (((nI 3) * (nI i))).toNatClampNeg = 3 * i from cl1 i0 (by omega), show ((((nI 3) * (nI i)) + (nI 1))).toNatClampNeg = 3 * i + 1 from cl1 i1 (by omega), show ((((nI 3) * (nI i)) + (nI 2))).toNatClampNeg = 3 * i + 2 from cl1 i2 (by omega), bi.1, bi.2.1]
    refine Wn.callV (p := 114) (n := 4) (ix := 419) (ci := (10)) (PDo N f0 (N.1 114) (doS σ (E i)) (doW σ (E i))) [.int (nI (E i).1), .int (nI (E i).2.1), .int (N.1 118 (3 * i + 2))] [.int (nI 0), .ref 128] rfl rfl rfl rfl (Nat.le_of_ble_eq_true rfl) (Nat.le_of_ble_eq_true rfl) (c_m_does (d + 0) N f0 _ σ hR hV rfl (E i) e0 _ bi.2.2 hp1) ?_
    rintro _ N1 ⟨rfl, a1, a2, a3⟩
    show Wn _ 136 _ (160, [(3, .int (nI i)), (2, .int (-1 : Int32)), (0, .ref 114), (1, .int (nI lv))], [.int (nI (doW σ (E i))), .int (nI 0), .ref 128], N1)
    refine Wn.run (tab := tb_m_book) rfl 1 (c' := (161, [(3, .int (nI i)), (2, .int (-1 : Int32)), (0, .ref 114), (1, .int (nI lv))], [], (mI N1 128 (upd (N1.1 128) 0 (nI (doW σ (E i))))))) (o := [aok shp 128 0 (nI 0)]) rfl ⟨rfl, vp_in_nI (by decide) (by decide)⟩ ?_
    generalize hM2 : (mI N1 128 (upd (N1.1 128) 0 (nI (doW σ (E i))))) = N2
    have f2 := fr_1I hM2
    have wl := doW_le (σ := σ) (e := E i)
    have v0 : N2.1 128 0 = nI (doW σ (E i)) := by rw [mI_eq hM2, pk_us]
    have v1 : N2.1 128 1 = nI i := by rw [mI_eq hM2, pk_un (by decide), (a3 128 (by decide)).1]; exact h1
    have F2 : Fr [114, 116, 128] N0 N2 := fr_tr (fr_tr hF a3 (by decide)) f2 (by decide)
    have X2 : Gx [22] g0 (N2.1 114) := by rw [(f2 114 (by decide)).1]; exact Gx_tr hx a2
    have R2 : Rs f0 (N2.1 116) (doS σ (E i)) := fr_rs f2 (by decide) a1
    have k2 : N2.1 114 36 = nI k := by rw [(f2 114 (by decide)).1]; exact (a2 36 (by decide)).trans h36
    refine Wn.run (tab := tb_m_book) rfl 5 (c' := (if (N2.1 128 0) ≤ 0 then 175 else 170, [(3, .int (nI i)), (2, .int (-1 : Int32)), (0, .ref 114), (1, .int (nI lv))], [], N2)) (o := [shp 114 = (0, 10), aok shp 128 0 (nI 0)]) rfl ⟨rfl, ⟨rfl, vp_in_nI (by decide) (by decide)⟩⟩ ?_
    rw [v0]
    by_cases c : doW σ (E i) = 0
    · rw [if_pos ((n_le rfl nI_0.symm (by omega) (by omega)).mpr (show doW σ (E i) ≤ 0 by omega))]
      have el : bkL E (m + 1) i σ = bkL E m (i + 1) (doS σ (E i)) := if_pos c
      rw [el] at cont
      refine Wn.run (tab := tb_m_book) rfl 8 (c' := (185, [(3, .int (nI i)), (2, .int (-1 : Int32)), (0, .ref 114), (1, .int (nI lv))], [], (mI N2 128 (upd (N2.1 128) 1 ((N2.1 128 1) + (nI 1)))))) (o := [shp 114 = (0, 10), aok shp 128 0 (nI 1), aok shp 128 0 (nI 1)]) rfl ⟨rfl, ⟨rfl, vp_in_nI (by decide) (by decide)⟩, ⟨rfl, vp_in_nI (by decide) (by decide)⟩⟩ ?_
      rw [v1, nI_add]
      generalize hM3 : (mI N2 128 (upd (N2.1 128) 1 (nI (i + 1)))) = N3
      have f3 := fr_1I hM3
      refine Wn.run (tab := tb_m_book) rfl 2 (c' := (111, [(3, .int ((nI i) + (nI 1))), (2, .int (-1 : Int32)), (0, .ref 114), (1, .int (nI lv))], [], N3)) (o := []) rfl trivial ?_
      rw [nI_add]
      refine ih (i + 1) (doS σ (E i)) N3 (by omega) (fr_rs f3 (by decide) R2) (doS_inv hV e0 hp1) (by rw [doS_lo hV e0 (by decide)]; exact hnp) (fun r hr => by have := hp r hr; have := doS_pr hV e0 hr; omega) ?_ ?_ ?_ ?_ (fr_tr F2 f3 (by decide)) ?_ cont
      · rw [mI_eq hM3, pk_un (by decide), v0, c]
      · rw [mI_eq hM3, pk_us]
      · intro q hq; rw [(f3 118 (by decide)).1, (f2 118 (by decide)).1, (a3 118 (by decide)).1]; exact hb q hq
      · rw [(f3 114 (by decide)).1]; exact k2
      · rw [(f3 114 (by decide)).1]; exact X2
    · rw [if_neg (mt (n_le rfl nI_0.symm (by omega) (by omega)).mp (show ¬ doW σ (E i) ≤ 0 by omega))]
      have el : bkL E (m + 1) i σ = (i, doW σ (E i), doS σ (E i)) := if_neg c
      rw [el] at cont
      have er : bkR (doW σ (E i)) i = nI i := if_neg c
      dsimp only at cont
      rw [er] at cont
      refine Wn.run (tab := tb_m_book) rfl 5 (c' := (111, [(3, .int ((nI i) + (nI 1))), (2, .int (nI i)), (0, .ref 114), (1, .int (nI lv))], [], N2)) (o := []) rfl trivial ?_
      rw [nI_add]
      refine Wn.run (tab := tb_m_book) rfl 4 (c' := (if (N2.1 114 36) ≤ (nI (i + 1)) then 191 else 119, [(3, .int (nI (i + 1))), (2, .int (nI i)), (0, .ref 114), (1, .int (nI lv))], [], N2)) (o := [shp 114 = (0, 10)]) rfl rfl ?_
      rw [k2]
      refine Wn.br (fun _ => cont _ N2 R2 v0 v1 F2 X2) (fun _ => ?_)
      refine Wn.run (tab := tb_m_book) rfl 2 (c' := (if 0 ≤ (nI i) then 191 else 123, [(3, .int (nI (i + 1))), (2, .int (nI i)), (0, .ref 114), (1, .int (nI lv))], [], N2)) (o := []) rfl trivial ?_
      rw [if_pos (show 0 ≤ (nI i) from nI_ge0 (by omega))]
      exact cont _ N2 R2 v0 v1 F2 X2
