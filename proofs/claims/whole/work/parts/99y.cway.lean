/-! Way, by the class: the sides. -/
set_option maxRecDepth 20000 in
theorem w_wy_nearerSide (d : Nat) (M : Mm) (σ : Nat → Nat) (hL : LkC M 3 σ) (hB : Bd σ) (f : Nat → Nat) (hr : ∀ e, e < 64 → M.1 84 e = nI (f e)) (fi : ∀ e, f e ≤ 1000) (c : Nat) (hc : c < 64) (z k : Nat) (hz : z < 4) (hb : bes σ c z = some k) (hlt : f k < f c) (hmin : ∀ t, t < z → ∀ k2, bes σ c t = some k2 → ¬ f k2 < f c) (Q : Po) (hQ : Q (some (.int (nI z))) M) : Wn (d + 3) 239 Q (0, lv_args 0 [.ref 83, .ref 3, .int (nI c)], [], M) := by
  have fc := fi c
  have rc : M.1 84 ((nI c)).toNatClampNeg = nI (f c) := by rw [nI_clamp (by omega)]; exact hr c hc
  refine Wn.run (tab := tb_wy_nearerSide) rfl 2 (c' := (2, [(3, .int (nI 0)), (0, .ref 83), (1, .ref 3), (2, .int (nI c))], [], M)) (o := []) rfl trivial ?_
  have loop : ∀ (m s : Nat), z - s = m → s ≤ z → Wn (d + 3) 239 Q (2, [(3, .int (nI s)), (0, .ref 83), (1, .ref 3), (2, .int (nI c))], [], M) := by
    intro m
    induction m using Nat.strongRecOn with
    | _ m ih =>
      intro s hm hs
      refine Wn.run (tab := tb_wy_nearerSide) rfl 3 (c' := (if (nI 4) ≤ (nI s) then 45 else 7, [(3, .int (nI s)), (0, .ref 83), (1, .ref 3), (2, .int (nI c))], [], M)) (o := []) rfl trivial ?_
      rw [if_neg (mt (n_le (a := 4) rfl rfl (by omega) (by omega)).mp (show ¬ 4 ≤ s by omega))]
      refine Wn.run (tab := tb_wy_nearerSide) rfl 3 (c' := (10, [(3, .int (nI s)), (0, .ref 83), (1, .ref 3), (2, .int (nI c))], [.int (nI s), .int (nI c), .ref 3], M)) (o := []) rfl trivial ?_
      refine Wn.callV (p := 3) (n := 3) (ix := 55) (ci := (2)) (fun r0 M1 => r0 = some (.int (oI (bes σ c s))) ∧ M = M1) [.int (nI c), .int (nI s)] [] rfl rfl rfl rfl (Nat.le_of_ble_eq_true rfl) (Nat.le_of_ble_eq_true rfl) (w_lk_beside _ M 3 σ hL hB c s hc (by omega) _ ⟨rfl, rfl⟩) ?_
      rintro _ _ ⟨rfl, rfl⟩
      show Wn _ 239 _ (13, [(3, .int (nI s)), (0, .ref 83), (1, .ref 3), (2, .int (nI c))], [.int (oI (bes σ c s))], M)
      refine Wn.run (tab := tb_wy_nearerSide) rfl 4 (c' := (if (oI (bes σ c s)) = (-1 : Int32) then 39 else 21, [(4, .int (oI (bes σ c s))), (3, .int (nI s)), (0, .ref 83), (1, .ref 3), (2, .int (nI c))], [], M)) (o := []) rfl trivial ?_
      have z39 : ∀ kk : Int32, s < z → Wn (d + 3) 239 Q (39, [(4, .int kk), (3, .int (nI s)), (0, .ref 83), (1, .ref 3), (2, .int (nI c))], [], M) := by
        intro kk h
        refine Wn.run (tab := tb_wy_nearerSide) rfl 2 (c' := (2, [(3, .int ((nI s) + (nI 1))), (4, .int kk), (0, .ref 83), (1, .ref 3), (2, .int (nI c))], [], M)) (o := []) rfl trivial ?_
        rw [nI_add]
        refine Wn.lvp [0, 2, 3, 4] (lv' := [(3, .int (nI (s + 1))), (0, .ref 83), (1, .ref 3), (2, .int (nI c))]) rfl ?_
        exact ih (z - (s + 1)) (by omega) (s + 1) rfl (by omega)
      cases hb2 : bes σ c s with
      | none =>
        rw [if_pos (show oI none = (-1 : Int32) from rfl)]
        exact z39 _ (by
          by_cases e : s = z
          · rw [e, hb] at hb2; cases hb2
          · omega)
      | some b =>
        have b64 := bes_lt hB hc hb2
        have fb := fi b
        have rb : M.1 84 ((nI b)).toNatClampNeg = nI (f b) := by rw [nI_clamp (by omega)]; exact hr b b64
        rw [if_neg (show ¬ oI (some b) = (-1 : Int32) from nI_m1 (by omega))]
        show Wn _ 239 _ (21, [(4, .int (nI b)), (3, .int (nI s)), (0, .ref 83), (1, .ref 3), (2, .int (nI c))], [], M)
        refine Wn.run (tab := tb_wy_nearerSide) rfl 9 (c' := (if (M.1 84 ((nI c)).toNatClampNeg) ≤ (M.1 84 ((nI b)).toNatClampNeg) then 39 else 37, [(4, .int (nI b)), (3, .int (nI s)), (0, .ref 83), (1, .ref 3), (2, .int (nI c))], [], M)) (o := [shp 83 = (0, 7), aok shp 84 0 (nI b), shp 83 = (0, 7), aok shp 84 0 (nI c)]) rfl ⟨rfl, (ak1 (n := 64) rfl rfl rfl (by omega)), rfl, (ak1 (n := 64) rfl rfl rfl (by omega))⟩ ?_
        rw [rb, rc]
        by_cases cx : f c ≤ f b
        · rw [if_pos ((n_le rfl rfl (by omega) (by omega)).mpr cx)]
          refine z39 _ ?_
          by_cases e : s = z
          · rw [e, hb] at hb2; cases hb2; omega
          · omega
        rw [if_neg (mt (n_le rfl rfl (by omega) (by omega)).mp cx)]
        have es : s = z := by
          by_cases e : s = z
          · exact e
          · exact absurd (show f b < f c by omega) (hmin s (by omega) b hb2)
        subst es
        refine Wn.run (tab := tb_wy_nearerSide) rfl 1 (c' := (38, [(4, .int (nI b)), (3, .int (nI s)), (0, .ref 83), (1, .ref 3), (2, .int (nI c))], [.int (nI s)], M)) (o := []) rfl trivial ?_
        exact Wn.iret rfl hQ
  exact loop (z - 0) 0 rfl (Nat.zero_le _)
def PNz (M0 : Mm) (σ : Nat → Nat) (q gl n : Nat) : Po := fun r0 M' => r0 = none ∧ Fr [83, 86] M0 M' ∧ M'.1 83 = upd (M0.1 83) 3 (nI n) ∧ ∃ u w, SdW σ q gl n u w ∧ ∀ e, e < n → M'.1 86 e = nI (u e)
set_option maxRecDepth 20000 in
theorem c_wy_noteSides (d : Nat) (M : Mm) (σ : Nat → Nat) (hS : StC M 6 σ) (hB : Bd σ) (q gl : Nat) (hq : q < σ 2) (hgl : gl < 64) (f : Nat → Nat) (hr : ∀ e, e < 64 → M.1 84 e = nI (f e)) (fi : ∀ e, f e ≤ 1000) (hF : HFW σ q gl 1000 f) (hop : ∀ c, c < 64 → f c < 1000 → opW σ q c ∧ inL σ c) (n : Nat) (hn : DWW σ q gl (σ (160 + q)) n) (hfn : f (σ (160 + q)) = n) : Wn (d + 4) 238 (PNz M σ q gl n) (0, lv_args 0 [.ref 83, .ref 3, .int (nI (σ (160 + q)))], [], M) := by
  have b6 := Bd_2 hB
  have fq := Bd_q hB q (by omega)
  have n64 := DWW_64 hgl hn
  have rst : M.1 84 ((nI (σ (160 + q)))).toNatClampNeg = nI n := by rw [nI_clamp (by omega), ← hfn]; exact hr _ (by omega)
  refine Wn.run (tab := tb_wy_noteSides) rfl 8 (c' := (12, [(3, .int (nI (σ (160 + q)))), (0, .ref 83), (1, .ref 3), (2, .int (nI (σ (160 + q))))], [], (mI M 83 (upd (M.1 83) 3 (M.1 84 ((nI (σ (160 + q)))).toNatClampNeg))))) (o := [shp 83 = (0, 7), aok shp 84 0 (nI (σ (160 + q))), shp 83 = (0, 7)]) rfl ⟨rfl, (ak1 (n := 64) rfl rfl rfl (by omega)), rfl⟩ ?_
  rw [rst]
  generalize hM1 : (mI M 83 (upd (M.1 83) 3 (nI n))) = M1
  have f1 := fr_1I hM1
  have F1 : Fr [83, 86] M M1 := fr_up f1 (by decide)
  have g1 : M1.1 83 = upd (M.1 83) 3 (nI n) := mI_eq hM1
  refine Wn.run (tab := tb_wy_noteSides) rfl 2 (c' := (15, [(4, .int (nI 0)), (3, .int (nI (σ (160 + q)))), (0, .ref 83), (1, .ref 3), (2, .int (nI (σ (160 + q))))], [], M1)) (o := []) rfl trivial ?_
  have main : ∀ (m i : Nat) (u w : Nat → Nat) (N : Mm), n - i = m → i ≤ n → SdP σ q gl n i u w → Fr [83, 86] M N → N.1 83 = upd (M.1 83) 3 (nI n) → (∀ e, e < i → N.1 86 e = nI (u e)) → Wn (d + 4) 238 (PNz M σ q gl n) (15, [(4, .int (nI i)), (3, .int (nI (w i))), (0, .ref 83), (1, .ref 3), (2, .int (nI (σ (160 + q))))], [], N) := by
    intro m
    induction m using Nat.strongRecOn with
    | _ m ih =>
      intro i u w N hm hi hP FN gN hu
      have w64 := hP.2.2.2
      have SN : StC N 6 σ := fr_st FN hS (by decide)
      have rN : ∀ e, e < 64 → N.1 84 e = nI (f e) := by rw [(FN 84 (by decide)).1]; exact hr
      have r3 : N.1 83 3 = nI n := by rw [gN, pk_us]
      refine Wn.run (tab := tb_wy_noteSides) rfl 4 (c' := (if (N.1 83 3) ≤ (nI i) then 76 else 24, [(4, .int (nI i)), (3, .int (nI (w i))), (0, .ref 83), (1, .ref 3), (2, .int (nI (σ (160 + q))))], [], N)) (o := [shp 83 = (0, 7)]) rfl rfl ?_
      rw [r3]
      by_cases ce : n ≤ i
      · rw [if_pos ((n_le rfl rfl (by omega) (by omega)).mpr ce)]
        have ei : i = n := by omega
        subst ei
        exact Wn.vret rfl ⟨rfl, FN, gN, u, w, SdP_end hP, hu⟩
      rw [if_neg (mt (n_le rfl rfl (by omega) (by omega)).mp ce)]
      refine Wn.run (tab := tb_wy_noteSides) rfl 3 (c' := (if (nI 64) ≤ (nI i) then 76 else 31, [(4, .int (nI i)), (3, .int (nI (w i))), (0, .ref 83), (1, .ref 3), (2, .int (nI (σ (160 + q))))], [], N)) (o := []) rfl trivial ?_
      rw [if_neg (mt (n_le (a := 64) rfl rfl (by omega) (by omega)).mp (show ¬ 64 ≤ i by omega))]
      obtain ⟨v, hv⟩ : ∃ v, v + 1 = n - i := ⟨n - i - 1, by omega⟩
      have hd : DWW σ q gl (w i) (v + 1) := by rw [hv]; exact hP.2.2.1
      have ev : n - 1 - i = v := by omega
      have fw : f (w i) = v + 1 := (HF_D hF w64 hd.1 (by omega)).mp hd
      obtain ⟨_, win, z, hz, k, hb, k64, hk, hmn⟩ := way_first hd
      have fk : f k = v := (HF_D hF k64 hk.1 (by omega)).mp hk
      have hmin : ∀ t, t < z → ∀ k2, bes σ (w i) t = some k2 → ¬ f k2 < f (w i) := by
        intro t ht k2 hb2 hl
        have k264 := bes_lt hB w64 hb2
        have o2 := (hop k2 k264 (by omega)).1
        have d2 := (HF_D hF k264 o2 (show f k2 < 1000 by omega)).mpr rfl
        have lo := way_lo hd w64 win (by omega) hb2 k264 d2
        have e2 : f k2 = v := by omega
        rw [e2] at d2
        exact hmn t ht k2 hb2 d2
      refine Wn.run (tab := tb_wy_noteSides) rfl 3 (c' := (34, [(4, .int (nI i)), (3, .int (nI (w i))), (0, .ref 83), (1, .ref 3), (2, .int (nI (σ (160 + q))))], [.int (nI (w i)), .ref 3, .ref 83], N)) (o := []) rfl trivial ?_
      refine Wn.callV (p := 83) (n := 3) (ix := 60) (ci := (7)) (fun r0 M1 => r0 = some (.int (nI z)) ∧ N = M1) [.ref 3, .int (nI (w i))] [] rfl rfl rfl rfl (Nat.le_of_ble_eq_true rfl) (Nat.le_of_ble_eq_true rfl) (w_wy_nearerSide _ N σ SN.2.1 hB f rN fi (w i) w64 z k hz hb (by omega) hmin _ ⟨rfl, rfl⟩) ?_
      rintro _ _ ⟨rfl, rfl⟩
      show Wn _ 238 _ (37, [(4, .int (nI i)), (3, .int (nI (w i))), (0, .ref 83), (1, .ref 3), (2, .int (nI (σ (160 + q))))], [.int (nI z)], N)
      refine Wn.run (tab := tb_wy_noteSides) rfl 4 (c' := (43, [(5, .int (nI z)), (4, .int (nI i)), (3, .int (nI (w i))), (0, .ref 83), (1, .ref 3), (2, .int (nI (σ (160 + q))))], [.int (nI z), .int (nI (w i)), .ref 3], N)) (o := []) rfl trivial ?_
      refine Wn.callV (p := 3) (n := 3) (ix := 55) (ci := (2)) (fun r0 M1 => r0 = some (.int (oI (bes σ (w i) z))) ∧ N = M1) [.int (nI (w i)), .int (nI z)] [] rfl rfl rfl rfl (Nat.le_of_ble_eq_true rfl) (Nat.le_of_ble_eq_true rfl) (w_lk_beside _ N 3 σ SN.2.1 hB (w i) z w64 hz _ ⟨rfl, rfl⟩) ?_
      rw [hb]
      rintro _ _ ⟨rfl, rfl⟩
      show Wn _ 238 _ (46, [(5, .int (nI z)), (4, .int (nI i)), (3, .int (nI (w i))), (0, .ref 83), (1, .ref 3), (2, .int (nI (σ (160 + q))))], [.int (nI k)], N)
      refine Wn.run (tab := tb_wy_noteSides) rfl 6 (c' := (57, [(6, .int (nI k)), (5, .int (nI z)), (4, .int (nI i)), (3, .int (nI (w i))), (0, .ref 83), (1, .ref 3), (2, .int (nI (σ (160 + q))))], [], (mI N 86 (upd (N.1 86) ((nI i)).toNatClampNeg (nI z))))) (o := [shp 83 = (0, 7), aok shp 86 0 (nI i)]) rfl ⟨rfl, (ak1 (n := 64) rfl rfl rfl (by omega))⟩ ?_
      rw [show ((nI i)).toNatClampNeg = i from nI_clamp (by omega)]
      generalize hN3 : (mI N 86 (upd (N.1 86) i (nI z))) = N3
      have f3 := fr_1I hN3
      have u3 : ∀ e, e < i + 1 → N3.1 86 e = nI (su u i z e) := by
        intro e he
        rw [mI_eq hN3]
        unfold su
        by_cases ez : e = i
        · rw [if_pos ez, ez, pk_us]
        · rw [if_neg ez, pk_un ez]; exact hu e (by omega)
      refine Wn.run (tab := tb_wy_noteSides) rfl 3 (c' := (if ¬ (nI k) = (-1 : Int32) then 67 else 63, [(6, .int (nI k)), (5, .int (nI z)), (4, .int (nI i)), (3, .int (nI (w i))), (0, .ref 83), (1, .ref 3), (2, .int (nI (σ (160 + q))))], [], N3)) (o := []) rfl trivial ?_
      rw [if_pos (show ¬ nI k = (-1 : Int32) from nI_m1 (by omega))]
      refine Wn.run (tab := tb_wy_noteSides) rfl 4 (c' := (15, [(4, .int ((nI i) + (nI 1))), (3, .int (nI k)), (6, .int (nI k)), (5, .int (nI z)), (0, .ref 83), (1, .ref 3), (2, .int (nI (σ (160 + q))))], [], N3)) (o := []) rfl trivial ?_
      rw [nI_add]
      have ewk : su w (i + 1) k (i + 1) = k := by unfold su; rw [if_pos rfl]
      refine Wn.lvp [0, 1, 4, 5, 6] (lv' := [(4, .int (nI (i + 1))), (3, .int (nI k)), (0, .ref 83), (1, .ref 3), (2, .int (nI (σ (160 + q))))]) rfl ?_
      have nx := ih (n - (i + 1)) (by omega) (i + 1) _ _ N3 rfl (by omega) (SdP_up hP hz hb k64 (by rw [ev]; exact hk) (by rw [ev]; exact hmn)) (fr_tr FN f3 (by decide)) (by rw [(f3 83 (by decide)).1]; exact gN) u3
      rw [ewk] at nx
      exact nx
  exact main n 0 _ _ M1 (by omega) (Nat.zero_le _) (SdP_0 hn (by omega)) F1 g1 (fun e he => absurd he (Nat.not_lt_zero _))
set_option maxRecDepth 20000 in
theorem c_wy_fewestSteps (d : Nat) (M : Mm) (σ : Nat → Nat) (hS : StC M 6 σ) (hI : Inv σ) (q gl : Nat) (hq : q < σ 2) (hfl : ¬ fal σ q = true) (hgl : gl < 64) (hin : inL σ gl) : Wn (d + 5) 236 (PWy M σ q gl [84, 85] [83, 84, 85, 86] 83 3 86 (M.1 83)) (0, lv_args 0 [.ref 83, .ref 6, .int (nI q), .int (nI gl)], [], M) := by
  have hB := hI.1
  have b6 := Bd_2 hB
  have fq := Bd_q hB q (by omega)
  have hst : σ (160 + q) < 64 := by omega
  have ig := Bd_c hB gl hgl
  have rst : M.1 8 ((nI q)).toNatClampNeg = nI (σ (160 + q)) := by rw [nI_clamp (by omega)]; exact hS.2.2.2.2.1 q hq
  have ri : M.1 7 ((nI gl)).toNatClampNeg = nI (σ (96 + gl)) := by rw [nI_clamp (by omega)]; exact hS.2.2.2.1 gl hgl hin
  have z31 : opW σ q gl → Wn (d + 5) 236 (PWy M σ q gl [84, 85] [83, 84, 85, 86] 83 3 86 (M.1 83)) (31, [(4, .int (nI (σ (160 + q)))), (0, .ref 83), (1, .ref 6), (2, .int (nI q)), (3, .int (nI gl))], [], M) := by
    intro ho
    refine Wn.run (tab := tb_wy_fewestSteps) rfl 4 (c' := (35, [(4, .int (nI (σ (160 + q)))), (0, .ref 83), (1, .ref 6), (2, .int (nI q)), (3, .int (nI gl))], [.int (nI gl), .int (nI q), .ref 6, .ref 83], M)) (o := []) rfl trivial ?_
    refine Wn.callV (p := 83) (n := 4) (ix := 37) (ci := (7)) (PMz M σ q gl) [.ref 6, .int (nI q), .int (nI gl)] [] rfl rfl rfl rfl (Nat.le_of_ble_eq_true rfl) (Nat.le_of_ble_eq_true rfl) (c_wy_measureFrom _ M σ hS hI q gl hq hfl hgl hin ho) ?_
    rintro _ M1 ⟨rfl, F1, f, hr, fi, hF, hop⟩
    have fs := fi (σ (160 + q))
    have rs : M1.1 84 ((nI (σ (160 + q)))).toNatClampNeg = nI (f (σ (160 + q))) := by rw [nI_clamp (by omega)]; exact hr _ hst
    have oo := hF (σ (160 + q)) hst (Or.inl rfl)
    show Wn _ 236 _ (38, [(4, .int (nI (σ (160 + q)))), (0, .ref 83), (1, .ref 6), (2, .int (nI q)), (3, .int (nI gl))], [], M1)
    refine Wn.run (tab := tb_wy_fewestSteps) rfl 6 (c' := (if ¬ (M1.1 84 ((nI (σ (160 + q)))).toNatClampNeg) = (nI 1000) then 53 else 51, [(4, .int (nI (σ (160 + q)))), (0, .ref 83), (1, .ref 6), (2, .int (nI q)), (3, .int (nI gl))], [], M1)) (o := [shp 83 = (0, 7), aok shp 84 0 (nI (σ (160 + q)))]) rfl ⟨rfl, (ak1 (n := 64) rfl rfl rfl (by omega))⟩ ?_
    rw [rs]
    unfold ouN at oo
    by_cases cn : f (σ (160 + q)) = 1000
    · rw [if_neg (fun e => e ((n_eq rfl rfl (by omega) (by omega)).mpr cn))]
      rw [if_neg (by omega)] at oo
      refine Wn.run (tab := tb_wy_fewestSteps) rfl 1 (c' := (52, [(4, .int (nI (σ (160 + q)))), (0, .ref 83), (1, .ref 6), (2, .int (nI q)), (3, .int (nI gl))], [.int (-1 : Int32)], M1)) (o := []) rfl trivial ?_
      exact Wn.iret rfl ⟨none, ⟨fun h => absurd ho h, fun _ => oo⟩, rfl, fun _ => ⟨F1, (F1 83 (by decide)).1⟩, fun n e => (by cases e)⟩
    rw [if_pos (mt (n_eq rfl rfl (by omega) (by omega)).mp cn)]
    rw [if_pos (by omega)] at oo
    obtain ⟨n, hn⟩ : ∃ n, f (σ (160 + q)) = n := ⟨_, rfl⟩
    rw [hn] at oo
    have hd : DWW σ q gl (σ (160 + q)) n := ⟨Or.inl rfl, oo⟩
    refine Wn.run (tab := tb_wy_fewestSteps) rfl 4 (c' := (60, [(4, .int (nI (σ (160 + q)))), (0, .ref 83), (1, .ref 6), (2, .int (nI q)), (3, .int (nI gl))], [.int (nI (σ (160 + q))), .ref (lkp 6), .ref 83], M1)) (o := [shp 6 = (0, 5)]) rfl rfl ?_
    refine Wn.callV (p := 83) (n := 3) (ix := 45) (ci := (7)) (PNz M1 σ q gl n) [.ref 3, .int (nI (σ (160 + q)))] [] rfl rfl rfl rfl (Nat.le_of_ble_eq_true rfl) (Nat.le_of_ble_eq_true rfl) (c_wy_noteSides _ M1 σ (fr_st F1 hS (by decide)) hB q gl hq hgl f hr fi hF hop n hd hn) ?_
    rintro _ M2 ⟨rfl, F2, g2, u, w, hw, hu⟩
    have g3 : M2.1 83 3 = nI n := by rw [g2, pk_us]
    show Wn _ 236 _ (63, [(4, .int (nI (σ (160 + q)))), (0, .ref 83), (1, .ref 6), (2, .int (nI q)), (3, .int (nI gl))], [], M2)
    refine Wn.run (tab := tb_wy_fewestSteps) rfl 2 (c' := (67, [(4, .int (nI (σ (160 + q)))), (0, .ref 83), (1, .ref 6), (2, .int (nI q)), (3, .int (nI gl))], [.int (M2.1 83 3)], M2)) (o := [shp 83 = (0, 7)]) rfl rfl ?_
    rw [g3]
    refine Wn.iret rfl ⟨some n, ⟨fun h => absurd ho h, fun _ => oo⟩, rfl, fun e => (by cases e), fun n2 e => ?_⟩
    cases e
    exact ⟨DWW_64 hgl hd, fr_tr (fr_up F1 (by decide)) F2 (by decide), by rw [g2, (F1 83 (by decide)).1], u, w, hw, hu⟩
  refine Wn.run (tab := tb_wy_fewestSteps) rfl 5 (c' := (8, [(4, .int (M.1 8 ((nI q)).toNatClampNeg)), (0, .ref 83), (1, .ref 6), (2, .int (nI q)), (3, .int (nI gl))], [], M)) (o := [shp 6 = (0, 5), aok shp 8 0 (nI q)]) rfl ⟨rfl, (ak1 (n := 6) rfl rfl rfl (by omega))⟩ ?_
  rw [rst]
  refine Wn.run (tab := tb_wy_fewestSteps) rfl 3 (c' := (if (nI gl) = (nI (σ (160 + q))) then 31 else 14, [(4, .int (nI (σ (160 + q)))), (0, .ref 83), (1, .ref 6), (2, .int (nI q)), (3, .int (nI gl))], [], M)) (o := []) rfl trivial ?_
  by_cases cg : gl = σ (160 + q)
  · rw [if_pos ((n_eq rfl rfl (by omega) (by omega)).mpr cg)]
    exact z31 (Or.inl cg)
  rw [if_neg (mt (n_eq rfl rfl (by omega) (by omega)).mp cg)]
  refine Wn.run (tab := tb_wy_fewestSteps) rfl 3 (c' := (17, [(4, .int (nI (σ (160 + q)))), (0, .ref 83), (1, .ref 6), (2, .int (nI q)), (3, .int (nI gl))], [.int (nI gl), .int (nI q), .ref 6], M)) (o := []) rfl trivial ?_
  have X30 : ldX σ gl (nI q) (σ 2) + σ (78 + q) < 2 ^ 30 := by have := ldX_le σ gl (nI q) (fun z hz => (Bd_q hB z hz).2.1) (σ 2) (by omega); omega
  refine Wn.callV (p := 6) (n := 3) (ix := 30) (ci := (5)) (fun r0 M1 => r0 = some (.int (nI (ldX σ gl (nI q) (σ 2) + σ (78 + q)))) ∧ M = M1) [.int (nI q), .int (nI gl)] [] rfl rfl rfl rfl (Nat.le_of_ble_eq_true rfl) (Nat.le_of_ble_eq_true rfl) (w_st_loadWith _ M 6 σ hS hB q gl hq (by omega) _ ⟨rfl, rfl⟩) ?_
  rintro _ _ ⟨rfl, rfl⟩
  show Wn _ 236 _ (20, [(4, .int (nI (σ (160 + q)))), (0, .ref 83), (1, .ref 6), (2, .int (nI q)), (3, .int (nI gl))], [.int (nI (ldX σ gl (nI q) (σ 2) + σ (78 + q)))], M)
  refine Wn.run (tab := tb_wy_fewestSteps) rfl 5 (c' := (if (nI (ldX σ gl (nI q) (σ 2) + σ (78 + q))) ≤ (M.1 7 ((nI gl)).toNatClampNeg) then 31 else 29, [(4, .int (nI (σ (160 + q)))), (0, .ref 83), (1, .ref 6), (2, .int (nI q)), (3, .int (nI gl))], [], M)) (o := [shp 6 = (0, 5), aok shp 7 0 (nI gl)]) rfl ⟨rfl, (ak1 (n := 64) rfl rfl rfl (by omega))⟩ ?_
  rw [ri]
  by_cases cx : ldX σ gl (nI q) (σ 2) + σ (78 + q) ≤ σ (96 + gl)
  · rw [if_pos ((n_le rfl rfl (by omega) (by omega)).mpr cx)]
    exact z31 ((opX hI hq hfl).mp cx)
  rw [if_neg (mt (n_le rfl rfl (by omega) (by omega)).mp cx)]
  refine Wn.run (tab := tb_wy_fewestSteps) rfl 1 (c' := (30, [(4, .int (nI (σ (160 + q)))), (0, .ref 83), (1, .ref 6), (2, .int (nI q)), (3, .int (nI gl))], [.int (-1 : Int32)], M)) (o := []) rfl trivial ?_
  have no : ¬ opW σ q gl := fun h => cx ((opX hI hq hfl).mpr h)
  exact Wn.iret rfl ⟨none, ⟨fun _ => rfl, fun h => absurd h no⟩, rfl, fun _ => ⟨fr_rf _ _, rfl⟩, fun n e => (by cases e)⟩
theorem c_i_way (d : Nat) (M : Mm) (σ : Nat → Nat) (hS : StC M 6 σ) (hI : Inv σ) (q x y : Nat) (hq : q < σ 2) (hx : x < σ 0) (hy : y < σ 1) (hf : ¬ fal σ q = true) : Wn (d + 6) 17 (PWy M σ q (8 * y + x) [84, 85] [83, 84, 85, 86] 83 3 86 (M.1 83)) (0, lv_args 0 [.ref 0, .int (nI q), .int (nI x), .int (nI y)], [], M) := by
  have hB := hI.1
  have w9 := hB.2.1
  have h9 := hB.2.2.2.1
  refine Wn.run (tab := tb_i_way) rfl 4 (c' := (4, [(0, .ref 0), (1, .int (nI q)), (2, .int (nI x)), (3, .int (nI y))], [.int (nI y), .int (nI x), .int (nI q), .ref 0], M)) (o := []) rfl trivial ?_
  refine Wn.callV (p := 0) (n := 4) (ix := 290) (ci := (9)) (fun r0 M0 => r0 = some (.int (nI 1)) ∧ M = M0) [.int (nI q), .int (nI x), .int (nI y)] [] rfl rfl rfl rfl (Nat.le_of_ble_eq_true rfl) (Nat.le_of_ble_eq_true rfl) (w_i_canSetOut _ M σ hS hB _ _ _ _ (fun _ => ⟨rfl, rfl⟩) (fun h => absurd (cso_n hB hq hx hy hf) h)) ?_
  rintro _ _ ⟨rfl, rfl⟩
  show Wn _ 17 _ (7, [(0, .ref 0), (1, .int (nI q)), (2, .int (nI x)), (3, .int (nI y))], [.int (nI 1)], M)
  refine Wn.run (tab := tb_i_way) rfl 1 (c' := (if (nI 1) = 0 then 34 else 10, [(0, .ref 0), (1, .int (nI q)), (2, .int (nI x)), (3, .int (nI y))], [], M)) (o := []) rfl trivial ?_
  rw [if_neg (show ¬ nI 1 = 0 by decide)]
  refine Wn.run (tab := tb_i_way) rfl 11 (c' := (28, [(0, .ref 0), (1, .int (nI q)), (2, .int (nI x)), (3, .int (nI y))], [.int (((nI 8) * (nI y)) + (nI x)), .int (nI q), .ref 6, .ref 83], M)) (o := [shp 0 = (0, 9), shp 0 = (0, 9), shp 2 = (0, 8)]) rfl ⟨rfl, rfl, rfl⟩ ?_
  rw [pk_mul, nI_add]
  refine Wn.callV (p := 83) (n := 4) (ix := 294) (ci := (7)) ((PWy M σ q (8 * y + x) [84, 85] [83, 84, 85, 86] 83 3 86 (M.1 83))) [.ref 6, .int (nI q), .int (nI (8 * y + x))] [] rfl rfl rfl rfl (Nat.le_of_ble_eq_true rfl) (Nat.le_of_ble_eq_true rfl) (c_wy_fewestSteps _ M σ hS hI q _ hq hf (by omega) ⟨by omega, by omega⟩) ?_
  rintro _ M1 ⟨o, ho, rfl, h1⟩
  show Wn _ 17 _ (31, [(0, .ref 0), (1, .int (nI q)), (2, .int (nI x)), (3, .int (nI y))], [.int (oI o)], M1)
  refine Wn.run (tab := tb_i_way) rfl 1 (c' := (35, [(0, .ref 0), (1, .int (nI q)), (2, .int (nI x)), (3, .int (nI y))], [.int (oI o)], M1)) (o := []) rfl trivial ?_
  exact Wn.iret rfl ⟨o, ho, rfl, h1⟩
