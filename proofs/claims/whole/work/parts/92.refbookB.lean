/-! The reference's book, all of it. -/
/-- the reference behind a book -/
def PBK (M0 : Mm) (f0 g : Nat → Int32) (lv : Nat) (σ : Nat → Nat) (n : Nat) (H : Nat → Nat → Nat) (res : Flt ⊕ (Nat × (Nat → Bke))) : Po := fun r0 M' => M'.1 114 0 = nI 0 ∧ M'.1 114 2 = nI 0 ∧ Gx [0, 2, 3, 4, 5, 11, 12, 13, 14, 15, 16, 18, 20, 22, 25, 36, 38] g (M'.1 114) ∧ Fr [114, 116, 118, 121, 122, 128] M0 M' ∧ match res with
  | .inl f => r0 = some (.int ((-2 : Int32) - nI f.2)) ∧ M'.1 114 15 = nI f.1 ∧ M'.1 116 = M0.1 116 ∧ M'.1 121 = M0.1 121 ∧ M'.1 128 = M0.1 128 ∧ M'.1 114 25 = g 25 ∧ M'.1 114 38 = g 38
  | .inr (k, E) => r0 = some (.int (bkR (bkL E k 0 σ).2.1 (bkL E k 0 σ).1)) ∧ M'.1 114 15 = nI 0 ∧ M'.1 114 38 = nI 1 ∧ (M'.1 128 0 = nI (bkL E k 0 σ).2.1 ∧ M'.1 128 1 = nI (bkL E k 0 σ).1 ∧ M'.1 128 2 = nI ((bkL E k 0 σ).2.2 90) ∧ M'.1 128 3 = nI ((bkL E k 0 σ).2.2 91)) ∧ Rs f0 (M'.1 116) (if lv = 1 ∧ 0 < (bkL E k 0 σ).1 then (bkL E k 0 σ).2.2 else σ) ∧ HMr (M'.1 121) (if lv = 1 ∧ 0 < (bkL E k 0 σ).1 then hpn n else n) (if lv = 1 ∧ 0 < (bkL E k 0 σ).1 then hpH n H σ else H) ∧ M'.1 114 25 = nI (if lv = 1 ∧ 0 < (bkL E k 0 σ).1 then hpn n else n)
/-- where the lines are read -/
def BInv (M : Mm) (g : Nat → Int32) (T : Nat → Nat) (L k : Nat) (E : Nat → Bke) (p : Nat) (N : Mm) : Prop := TkM N T L 400 p ∧ N.1 114 36 = nI k ∧ N.1 114 15 = nI 0 ∧ N.1 114 0 = nI 0 ∧ N.1 114 2 = nI 0 ∧ BkM N k E ∧ Gx [0, 2, 3, 4, 5, 11, 12, 13, 14, 15, 16, 18, 20, 36] g (N.1 114) ∧ Fr [114, 118] M N
set_option maxRecDepth 20000 in
theorem c_m_book_83 (d : Nat) (M N : Mm) (lv : Nat) (hlv : lv < 2) (f0 g : Nat → Int32) (T : Nat → Nat) (L k : Nat) (E : Nat → Bke) (p : Nat) (hI : BInv M g T L k E p N) (hk : k ≤ 40) (σ : Nat → Nat) (hE : ∀ i, i < k → EOk (σ 2) (E i)) (hR : Rs f0 (M.1 116) σ) (hV : Inv σ) (n : Nat) (hn8 : n ≤ 8) (H : Nat → Nat → Nat) (hn : g 25 = nI n) (hH : HMr (M.1 121) n H) (hp : ∀ r, r < 6 → σ (172 + r) + 41 < 1073741824) : Wn (d + 9) 136 (PBK M f0 g lv σ n H (.inr (k, E))) (83, [(0, .ref 114), (1, .int (nI lv))], [], N) := by
  obtain ⟨i1, i2, i3, i4, i5, i6, i7, i8⟩ := hI
  refine Wn.run (tab := tb_m_book) rfl 1 (c' := (84, [(0, .ref 114), (1, .int (nI lv))], [.ref 114], N)) (o := []) rfl trivial ?_
  refine Wn.callV (p := 114) (n := 1) (ix := 347) (ci := (10)) (PT N σ) [] [] rfl rfl rfl rfl (Nat.le_of_ble_eq_true rfl) (Nat.le_of_ble_eq_true rfl) (c_m_tries _ N f0 σ (fr_rs i8 (by decide) hR)) ?_
  rintro _ N1 ⟨rfl, t1, t2⟩
  show Wn _ 136 _ (87, [(0, .ref 114), (1, .int (nI lv))], [], N1)
  refine Wn.run (tab := tb_m_book) rfl 2 (c' := (89, [(2, .int (nI 0)), (0, .ref 114), (1, .int (nI lv))], [], N1)) (o := []) rfl trivial ?_
  have loop : ∀ (m z : Nat) (O : Mm), 4 - z = m → z ≤ 4 → (∀ q, q < z → O.1 128 q = nI 0) → Fr [128] N1 O → Wn (d + 9) 136 (PBK M f0 g lv σ n H (.inr (k, E))) (89, [(2, .int (nI z)), (0, .ref 114), (1, .int (nI lv))], [], O) := by
    intro m
    induction m using Nat.strongRecOn with
    | _ m ih =>
      intro z O hm hz hz0 hFO
      refine Wn.run (tab := tb_m_book) rfl 3 (c' := (if (nI 4) ≤ (nI z) then 107 else 94, [(2, .int (nI z)), (0, .ref 114), (1, .int (nI lv))], [], O)) (o := []) rfl trivial ?_
      by_cases hz4 : 4 ≤ z
      · rw [if_pos ((n_le rfl rfl (by omega) (by omega)).mpr hz4)]
        refine Wn.run (tab := tb_m_book) rfl 4 (c' := (111, [(3, .int (nI 0)), (2, .int (-1 : Int32)), (0, .ref 114), (1, .int (nI lv))], [], O)) (o := []) rfl trivial ?_
        have FO : Fr [114, 118, 122, 128] M O := fr_tr (fr_tr (fr_up i8 (by decide)) t2 (by decide)) hFO (by decide)
        have e114 : O.1 114 = N.1 114 := ((hFO 114 (by decide)).1).trans (t2 114 (by decide)).1
        refine c_m_book_111 d lv f0 (O.1 114) O k (σ 2) hk E hE _ k 0 σ O (by omega) (fr_rs FO (by decide) hR) hV rfl (fun r hr => by have := hp r hr; omega) (hz0 0 (by omega)) (hz0 1 (by omega)) ?_ (by rw [e114]; exact i2) (fr_rf _ _) (Gx_rf _ _) ?_
        · intro q hq; rw [(hFO 118 (by decide)).1, (t2 118 (by decide)).1]; exact i6 q hq
        · intro jj N5 c1 c2 c3 c4 c5
          have bok := bkL_ok (E := E) (np := σ 2) k 0 σ hV rfl (fun i _ hi => hE i (by omega)) (fun r hr => by have := hp r hr; omega)
          have stay := bkL_stay (E := E) (m := k) (i := 0) (σ := σ) (fun h => hE 0 h)
          have e5 : Gx [22] (N.1 114) (N5.1 114) := by rw [← e114]; exact c5
          have F5 : Fr [114, 116, 118, 122, 128] M N5 := fr_tr (fr_up FO (by decide)) c4 (by decide)
          refine (c_m_book_191 d N5 lv hlv f0 _ rfl σ _ c1 bok.2.1 n hn8 H ?_ (HMr_fr F5 (by decide) hH) ?_ _ _ (by have := bok.2.2.2.1; omega) stay c2 c3 jj).mono ?_
          · exact ((e5 25 (by decide)).trans (i7 25 (by decide))).trans hn
          · rw [(c4 122 (by decide)).1, (hFO 122 (by decide)).1]; exact t1
          · rintro r0 M' ⟨p1, p2, p3, p4, p5, p6, p7, p8⟩
            have g0 : Gx [22, 25, 38] (N.1 114) (M'.1 114) := Gx_tr2 (Gx_sub e5 (by decide)) p7 (by decide)
            refine ⟨(g0 0 (by decide)).trans i4, (g0 2 (by decide)).trans i5, Gx_tr2 (Gx_sub i7 (by decide)) g0 (by decide), fr_tr (fr_up F5 (by decide)) p8 (by decide), p1, (g0 15 (by decide)).trans i3, p5, p6, p2, p3, p4⟩
      · rw [if_neg (mt (n_le rfl rfl (by omega) (by omega)).mp hz4)]
        refine Wn.run (tab := tb_m_book) rfl 5 (c' := (101, [(2, .int (nI z)), (0, .ref 114), (1, .int (nI lv))], [], (mI O 128 (upd (O.1 128) ((nI z)).toNatClampNeg (nI 0))))) (o := [shp 114 = (0, 10), aok shp 128 0 (nI z)]) rfl ⟨rfl, (ak1 (n := 4) rfl rfl rfl (by omega))⟩ ?_
        rw [nI_clamp (by omega)]
        generalize hO2 : (mI O 128 (upd (O.1 128) z (nI 0))) = O2
        refine Wn.run (tab := tb_m_book) rfl 2 (c' := (89, [(2, .int ((nI z) + (nI 1))), (0, .ref 114), (1, .int (nI lv))], [], O2)) (o := []) rfl trivial ?_
        rw [nI_add]
        refine ih (4 - (z + 1)) (by omega) (z + 1) O2 rfl (by omega) (fun q hq => ?_) (fr_tr hFO (fr_1I hO2) (by decide))
        rw [mI_eq hO2]
        by_cases e : q = z
        · rw [e, pk_us]
        · rw [pk_un e]; exact hz0 q (by omega)
  exact loop 4 0 N1 rfl (by omega) (fun q hq => absurd hq (by omega)) (fr_rf _ _)
set_option maxRecDepth 20000 in
theorem c_m_book_39 (d : Nat) (M : Mm) (lv : Nat) (hlv : lv < 2) (f0 g : Nat → Int32) (T : Nat → Nat) (L : Nat) (hv : Rsv M) (σ : Nat → Nat) (hR : Rs f0 (M.1 116) σ) (hV : Inv σ) (n : Nat) (hn8 : n ≤ 8) (H : Nat → Nat → Nat) (hn : g 25 = nI n) (hH : HMr (M.1 121) n H) (hp : ∀ r, r < 6 → σ (172 + r) + 41 < 1073741824) (ν : Nat → Int64) (hN : ∀ q, q < σ 2 → M.2.1 119 q = ν q) : ∀ (f k : Nat) (E : Nat → Bke) (p : Nat) (N : Mm), L < p + f → k ≤ 40 → (∀ i, i < k → EOk (σ 2) (E i)) → BInv M g T L k E p N → Wn (d + 9) 136 (PBK M f0 g lv σ n H (bkS T L 400 ν (σ 2) f k E p)) (39, [(0, .ref 114), (1, .int (nI lv))], [], N) := by
  intro f
  have b2 := Bd_2 hV.1
  induction f with
  | zero => intro k E p N h1 _ _ h2; have := h2.1.2.2.2.2.2.2.2.2.2.2.2; omega
  | succ f ih =>
    intro k E p N hpn hk hE hI
    obtain ⟨hK, i2, i3, i4, i5, i6, i7, i8⟩ := id hI
    have hpL := hK.2.2.2.2.2.2.2.2.2.2.2
    refine Wn.run (tab := tb_m_book) rfl 3 (c' := (if (N.1 114 11) = 0 then 83 else 46, [(0, .ref 114), (1, .int (nI lv))], [], N)) (o := [shp 114 = (0, 10)]) rfl rfl ?_
    refine Wn.br (fun hz => ?_) (fun hz => ?_)
    · have hz := (TkM_0 hK).mp hz
      rw [show bkS T L 400 ν (σ 2) (f + 1) k E p = .inr (k, E) from if_pos hz]
      exact c_m_book_83 d M N lv hlv f0 g T L k E p hI hk σ hE hR hV n hn8 H hn hH hp
    · have hz := mt (TkM_0 hK).mpr hz
      have e1 : bkS T L 400 ν (σ 2) (f + 1) k E p = match rdB T L 400 p ν (σ 2) k with
        | .inl f => .inl f
        | .inr (p2, e) => if tKd T L 400 p2 = 4 then bkS T L 400 ν (σ 2) f (k + 1) (suB E k e) (tNx T L p2) else .inl (1, tAt T L 400 p2) := if_neg hz
      refine Wn.run (tab := tb_m_book) rfl 1 (c' := (47, [(0, .ref 114), (1, .int (nI lv))], [.ref 114], N)) (o := []) rfl trivial ?_
      refine Wn.callV (p := 114) (n := 1) (ix := 416) (ci := (10)) (PBm N (N.1 114) T L 400 k (rdB T L 400 p ν (σ 2) k)) [] [] rfl rfl rfl rfl (Nat.le_of_ble_eq_true rfl) (Nat.le_of_ble_eq_true rfl) (c_m_bookLine (d + 5) N _ T L 400 p rfl hK (Rsv_fr i8 (by decide) hv) (σ 2) b2 (by rw [(i8 116 (by decide)).1]; exact hR.1 2 (by decide)) ν (by intro q hq; rw [Nat.zero_add, (i8 119 (by decide)).2.1]; exact hN q hq) k hk i2) ?_
      intro r0 M1 hres
      have flt : ∀ (N2 : Mm) (f : Flt), N2.1 114 15 = nI f.1 → N2.1 114 16 = nI f.2 → Gx KR (N.1 114) (N2.1 114) → Fr [114, 118] M N2 → Wn (d + 9) 136 (PBK M f0 g lv σ n H (.inl f)) (62, [(0, .ref 114), (1, .int (nI lv))], [], N2) := by
        intro N2 f h15 h16 hx2 hF2
        refine Wn.run (tab := tb_m_book) rfl 4 (c' := (69, [(0, .ref 114), (1, .int (nI lv))], [.int ((-2 : Int32) - (N2.1 114 16))], N2)) (o := [shp 114 = (0, 10)]) rfl rfl ?_
        rw [h16]
        exact Wn.iret rfl ⟨(hx2 0 (by decide)).trans i4, (hx2 2 (by decide)).trans i5, Gx_tr2 (Gx_sub i7 (by decide)) hx2 (by decide), fr_up hF2 (by decide), rfl, h15, (hF2 116 (by decide)).1, (hF2 121 (by decide)).1, (hF2 128 (by decide)).1, (hx2 25 (by decide)).trans (i7 25 (by decide)), (hx2 38 (by decide)).trans (i7 38 (by decide))⟩
      cases hq : rdB T L 400 p ν (σ 2) k with
      | inl f =>
        rw [hq] at hres e1
        obtain ⟨a1, a2, rfl, a5, a6⟩ := hres
        rw [e1]
        show Wn _ 136 _ (50, [(0, .ref 114), (1, .int (nI lv))], [.int (nI 0)], M1)
        refine Wn.run (tab := tb_m_book) rfl 1 (c' := (if (nI 0) = 0 then 62 else 53, [(0, .ref 114), (1, .int (nI lv))], [], M1)) (o := []) rfl trivial ?_
        rw [if_pos (show nI 0 = 0 by decide)]
        exact flt M1 f a5 a6 a1 (fr_tr i8 a2 (by decide))
      | inr v =>
        obtain ⟨p2, e⟩ := v
        rw [hq] at hres e1
        obtain ⟨a1, a2, rfl, a5, ⟨a6, a7, a8⟩, a9, a10⟩ := hres
        rw [e1]
        dsimp only
        have ok := rdB_ok hpL hq
        show Wn _ 136 _ (50, [(0, .ref 114), (1, .int (nI lv))], [.int (nI 1)], M1)
        refine Wn.run (tab := tb_m_book) rfl 1 (c' := (if (nI 1) = 0 then 62 else 53, [(0, .ref 114), (1, .int (nI lv))], [], M1)) (o := []) rfl trivial ?_
        rw [if_neg (show ¬ nI 1 = 0 by decide)]
        refine Wn.run (tab := tb_m_book) rfl 2 (c' := (56, [(0, .ref 114), (1, .int (nI lv))], [.int (nI 59), .ref 114], M1)) (o := []) rfl trivial ?_
        by_cases h4 : tKd T L 400 p2 = 4
        · rw [if_pos h4]
          refine Wn.callV (p := 114) (n := 2) (ix := 250) (ci := (10)) (PTm M1 (M1.1 114) T L 400 (tNx T L p2) [4, 11, 12, 13, 14] (M1.1 114 18) (some (.int (nI 1)))) [.int (nI 59)] [] rfl rfl rfl rfl (Nat.le_of_ble_eq_true rfl) (Nat.le_of_ble_eq_true rfl) (c_m_sign_ok (d + 6) M1 _ T L 400 p2 rfl a5 h4) ?_
          rintro r0 M2 ⟨rfl, b1, b2', b3, b4, b5⟩
          show Wn _ 136 _ (59, [(0, .ref 114), (1, .int (nI lv))], [.int (nI 1)], M2)
          refine Wn.run (tab := tb_m_book) rfl 1 (c' := (if ¬ (nI 1) = 0 then 70 else 62, [(0, .ref 114), (1, .int (nI lv))], [], M2)) (o := []) rfl trivial ?_
          rw [if_pos (show ¬ nI 1 = 0 by decide)]
          have e36 : M2.1 114 36 = nI k := (b3 36 (by decide)).trans ((a1 36 (by decide)).trans i2)
          refine Wn.run (tab := tb_m_book) rfl 6 (c' := (80, [(0, .ref 114), (1, .int (nI lv))], [], (mI M2 114 (upd (M2.1 114) 36 ((M2.1 114 36) + (nI 1)))))) (o := [shp 114 = (0, 10), shp 114 = (0, 10)]) rfl ⟨rfl, rfl⟩ ?_
          rw [e36, nI_add]
          generalize hM3 : (mI M2 114 (upd (M2.1 114) 36 (nI (k + 1)))) = M3
          refine Wn.run (tab := tb_m_book) rfl 1 (c' := (39, [(0, .ref 114), (1, .int (nI lv))], [], M3)) (o := []) rfl trivial ?_
          have f3 := fr_1I hM3
          have u : ∀ x, ¬ x = 36 → M3.1 114 x = M2.1 114 x := fun x hx => by rw [mI_eq hM3]; exact pk_un hx
          have gx3 : Gx [4, 11, 12, 13, 14, 15, 16, 18, 20, 36] (N.1 114) (M3.1 114) := fun x hx => (u x (fun e => hx (by rw [e]; decide))).trans ((b3 x (fun e => hx ((show ∀ y, y ∈ [4, 11, 12, 13, 14] → y ∈ [4, 11, 12, 13, 14, 15, 16, 18, 20, 36] by decide) x e))).trans (a1 x (fun e => hx ((show ∀ y, y ∈ KR → y ∈ [4, 11, 12, 13, 14, 15, 16, 18, 20, 36] by decide) x e))))
          have tn := tNx_le (T := T) (mo := 400) ok.2.1 (by omega) (by omega)
          refine ih (k + 1) (suB E k e) (tNx T L p2) M3 (by omega) (by omega) (fun i hi => ?_) ⟨TkM_up hM3 (by decide) b1, ?_, ?_, ?_, ?_, ?_, Gx_tr2 i7 gx3 (by decide), fr_tr (fr_tr (fr_tr i8 a2 (by decide)) b5 (by decide)) f3 (by decide)⟩
          · unfold suB
            by_cases ei : i = k
            · rw [if_pos ei]; exact ok.1
            · rw [if_neg ei]; exact hE i (by omega)
          · rw [mI_eq hM3, pk_us]
          · exact (u 15 (by decide)).trans ((b3 15 (by decide)).trans (a10.trans i3))
          · exact (gx3 0 (by decide)).trans i4
          · exact (gx3 2 (by decide)).trans i5
          · intro i hi
            rw [(f3 118 (by decide)).1, (b5 118 (by decide)).1]
            unfold suB
            by_cases ei : i = k
            · rw [if_pos ei, ei]; exact ⟨a6, a7, a8⟩
            · rw [if_neg ei, a9 _ (by omega), a9 _ (by omega), a9 _ (by omega)]; exact i6 i (by omega)
        · rw [if_neg h4]
          refine Wn.callV (p := 114) (n := 2) (ix := 250) (ci := (10)) (PFm M1 (M1.1 114) 1 (tAt T L 400 p2) (some (.int (nI 0)))) [.int (nI 59)] [] rfl rfl rfl rfl (Nat.le_of_ble_eq_true rfl) (Nat.le_of_ble_eq_true rfl) (c_m_sign_no (d + 7) M1 _ T L 400 p2 rfl a5 h4) ?_
          rintro r0 M2 ⟨rfl, b1, b2', b3, b4⟩
          show Wn _ 136 _ (59, [(0, .ref 114), (1, .int (nI lv))], [.int (nI 0)], M2)
          refine Wn.run (tab := tb_m_book) rfl 1 (c' := (if ¬ (nI 0) = 0 then 70 else 62, [(0, .ref 114), (1, .int (nI lv))], [], M2)) (o := []) rfl trivial ?_
          rw [if_neg (show ¬ ¬ nI 0 = 0 by decide)]
          exact flt M2 (1, tAt T L 400 p2) b1 b2' (Gx_tr2 a1 b3 (fun _ h => h)) (fr_tr (fr_tr i8 a2 (by decide)) b4 (by decide))
set_option maxRecDepth 20000 in
theorem c_m_book (d : Nat) (M : Mm) (lv : Nat) (hlv : lv < 2) (f0 g : Nat → Int32) (T : Nat → Nat) (L : Nat) (hg : M.1 114 = g) (hL2 : g 2 = nI L) (hT : TM (M.1 115) T L) (hL9 : L ≤ 940) (hv : Rsv M) (σ : Nat → Nat) (hR : Rs f0 (M.1 116) σ) (hV : Inv σ) (n : Nat) (hn8 : n ≤ 8) (H : Nat → Nat → Nat) (hn : g 25 = nI n) (hH : HMr (M.1 121) n H) (hp : ∀ r, r < 6 → σ (172 + r) + 41 < 1073741824) (ν : Nat → Int64) (hN : ∀ q, q < σ 2 → M.2.1 119 q = ν q) : Wn (d + 9) 136 (PBK M f0 g lv σ n H (bkS T L 400 ν (σ 2) (L + 1) 0 bk0 0)) (0, lv_args 0 [.ref 114, .int (nI lv)], [], M) := by
  refine Wn.run (tab := tb_m_book) rfl 3 (c' := (5, [(0, .ref 114), (1, .int (nI lv))], [], (mI M 114 (upd (M.1 114) 0 (nI 0))))) (o := [shp 114 = (0, 10)]) rfl rfl ?_
  generalize hM1 : (mI M 114 (upd (M.1 114) 0 (nI 0))) = M1
  have g1 : M1.1 114 = upd g 0 (nI 0) := by rw [← hg]; exact mI_eq hM1
  refine Wn.run (tab := tb_m_book) rfl 3 (c' := (8, [(0, .ref 114), (1, .int (nI lv))], [.int (nI 1), .int (nI 0), .int (nI lv)], M1)) (o := []) rfl trivial ?_
  refine Wn.callS (n := 3) (ix := 194) (fun r0 M0 => r0 = some (.int (b2 (0 ≤ lv ∧ lv ≤ 1))) ∧ M1 = M0) [.int (nI lv), .int (nI 0), .int (nI 1)] [] rfl rfl rfl (Nat.le_of_ble_eq_true rfl) (Nat.le_of_ble_eq_true rfl) (w_m_isInN _ lv 0 1 (by omega) (by omega) (by omega) M1 _ ⟨rfl, rfl⟩) ?_
  rintro _ _ ⟨rfl, rfl⟩
  show Wn _ 136 _ (11, [(0, .ref 114), (1, .int (nI lv))], [.int (b2 (0 ≤ lv ∧ lv ≤ 1))], M1)
  refine Wn.run (tab := tb_m_book) rfl 1 (c' := (if ¬ (b2 (0 ≤ lv ∧ lv ≤ 1)) = 0 then 18 else 14, [(0, .ref 114), (1, .int (nI lv))], [], M1)) (o := []) rfl trivial ?_
  rw [if_pos (b2_n0.mpr (show 0 ≤ lv ∧ lv ≤ 1 by omega))]
  refine Wn.run (tab := tb_m_book) rfl 2 (c' := (22, [(0, .ref 114), (1, .int (nI lv))], [.int (nI 400), .ref 114], M1)) (o := []) rfl trivial ?_
  refine Wn.callV (p := 114) (n := 2) (ix := 241) (ci := (10)) (PTa M1 (M1.1 114) L (nI 400)) [.int (nI 400)] [] rfl rfl rfl rfl (Nat.le_of_ble_eq_true rfl) (Nat.le_of_ble_eq_true rfl) (c_m_taken _ M1 _ rfl L (by rw [g1, pk_un (by decide)]; exact hL2) (nI 400)) ?_
  rintro r0 M2 ⟨rfl, t1, t2, t3⟩
  show Wn _ 136 _ (25, [(0, .ref 114), (1, .int (nI lv))], [], M2)
  refine Wn.run (tab := tb_m_book) rfl 3 (c' := (30, [(0, .ref 114), (1, .int (nI lv))], [], (mI M2 114 (upd (M2.1 114) 15 (nI 0))))) (o := [shp 114 = (0, 10)]) rfl rfl ?_
  generalize hM3 : (mI M2 114 (upd (M2.1 114) 15 (nI 0))) = M3
  refine Wn.run (tab := tb_m_book) rfl 3 (c' := (35, [(0, .ref 114), (1, .int (nI lv))], [], (mI M3 114 (upd (M3.1 114) 36 (nI 0))))) (o := [shp 114 = (0, 10)]) rfl rfl ?_
  generalize hM4 : (mI M3 114 (upd (M3.1 114) 36 (nI 0))) = M4
  have e4 : M4.1 114 = upd (upd (upd (upd (upd (upd (upd g 0 (nI 0)) 3 (nI L)) 2 (nI 0)) 4 (nI 0)) 5 (nI 400)) 15 (nI 0)) 36 (nI 0) := by rw [mI_eq hM4, mI_eq hM3, t1, g1]
  have f4 : Fr [114] M M4 := fr_tr (fr_tr (fr_tr (fr_1I hM1) t3 (by decide)) (fr_1I hM3) (by decide)) (fr_1I hM4) (by decide)
  refine Wn.run (tab := tb_m_book) rfl 1 (c' := (36, [(0, .ref 114), (1, .int (nI lv))], [.ref 114], M4)) (o := []) rfl trivial ?_
  refine Wn.callV (p := 114) (n := 1) (ix := 191) (ci := (10)) (PNx M4 (M4.1 114) T L 400 0) [] [] rfl rfl rfl rfl (Nat.le_of_ble_eq_true rfl) (Nat.le_of_ble_eq_true rfl) (c_m_next (d + 7) M4 _ _ T L 400 0 rfl (by rw [e4]; exact rfl) (by rw [e4]; exact rfl) (by rw [e4]; exact rfl) ((f4 115 (by decide)).1) hT hL9 (by decide) (by omega)) ?_
  rintro r0 M5 ⟨rfl, n1, n2, n3, n4⟩
  show Wn _ 136 _ (39, [(0, .ref 114), (1, .int (nI lv))], [], M5)
  refine c_m_book_39 d M lv hlv f0 g T L hv σ hR hV n hn8 H hn hH hp ν hN (L + 1) 0 bk0 0 M5 (by omega) (by omega) (fun i hi => absurd hi (by omega)) ⟨n1, ?_, ?_, ?_, ?_, fun i hi => absurd hi (by omega), ?_, fr_up (fr_tr f4 n4 (by decide)) (by decide)⟩
  · rw [n2 36 (by decide), e4]; exact rfl
  · rw [n2 15 (by decide), e4]; exact rfl
  · rw [n2 0 (by decide), e4]; exact rfl
  · rw [n2 2 (by decide), e4]; exact rfl
  · refine Gx_tr2 (K1 := KN) ?_ n2 (by decide)
    rw [e4]
    exact Gx_up (Gx_up (Gx_up (Gx_up (Gx_up (Gx_up (Gx_up (Gx_rf _ _) (by decide)) (by decide)) (by decide)) (by decide)) (by decide)) (by decide)) (by decide)
def PBn (M0 : Mm) (g : Nat → Int32) (r : Int32) : Po := fun r0 M' => r0 = some (.int r) ∧ M'.1 114 = upd g 0 (nI 0) ∧ M'.2 = M0.2 ∧ Fr [114] M0 M'
theorem c_m_book_no (d : Nat) (M : Mm) (g : Nat → Int32) (hg : M.1 114 = g) (k : Int32) (hk : ¬ ((nI 0).toInt ≤ k.toInt ∧ k.toInt ≤ (nI 1).toInt)) : Wn (d + 1) 136 (PBn M g (-1000)) (0, lv_args 0 [.ref 114, .int k], [], M) := by
  refine Wn.run (tab := tb_m_book) rfl 3 (c' := (5, [(0, .ref 114), (1, .int k)], [], (mI M 114 (upd (M.1 114) 0 (nI 0))))) (o := [shp 114 = (0, 10)]) rfl rfl ?_
  generalize hM1 : (mI M 114 (upd (M.1 114) 0 (nI 0))) = M1
  have g1 : M1.1 114 = upd g 0 (nI 0) := by rw [← hg]; exact mI_eq hM1
  refine Wn.run (tab := tb_m_book) rfl 3 (c' := (8, [(0, .ref 114), (1, .int k)], [.int (nI 1), .int (nI 0), .int k], M1)) (o := []) rfl trivial ?_
  refine Wn.callS (n := 3) (ix := 194) (fun r0 M0 => r0 = some (.int (b2 ((nI 0).toInt ≤ k.toInt ∧ k.toInt ≤ (nI 1).toInt))) ∧ M1 = M0) [.int k, .int (nI 0), .int (nI 1)] [] rfl rfl rfl (Nat.le_of_ble_eq_true rfl) (Nat.le_of_ble_eq_true rfl) (w_m_isInT _ k (nI 0) (nI 1) M1 _ ⟨rfl, rfl⟩) ?_
  rintro _ _ ⟨rfl, rfl⟩
  show Wn _ 136 _ (11, [(0, .ref 114), (1, .int k)], [.int (b2 ((nI 0).toInt ≤ k.toInt ∧ k.toInt ≤ (nI 1).toInt))], M1)
  refine Wn.run (tab := tb_m_book) rfl 1 (c' := (if ¬ (b2 ((nI 0).toInt ≤ k.toInt ∧ k.toInt ≤ (nI 1).toInt)) = 0 then 18 else 14, [(0, .ref 114), (1, .int k)], [], M1)) (o := []) rfl trivial ?_
  rw [if_neg (fun q => q (b2_e0.mpr hk))]
  refine Wn.run (tab := tb_m_book) rfl 1 (c' := (17, [(0, .ref 114), (1, .int k)], [.int (-1000 : Int32)], M1)) (o := []) rfl trivial ?_
  exact Wn.iret rfl ⟨rfl, g1, by rw [← hM1]; rfl, fr_1I hM1⟩
