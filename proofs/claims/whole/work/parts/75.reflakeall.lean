/-! The reference's lake. -/
def KL : List Nat := [0, 2, 3, 4, 5, 11, 12, 13, 14, 15, 16, 18, 19, 20, 25]
/-- behind lake(): a fault, or a lake told -/
def PLm (M0 : Mm) (g : Nat → Int32) (res : Flt ⊕ (Nat × Dst)) : Po := fun r0 M' => Gx KL g (M'.1 114) ∧ Fr [114, 116, 117, 119] M0 M' ∧ M'.1 114 0 = nI 0 ∧ M'.1 114 2 = nI 0 ∧ match res with
  | .inl f => r0 = some (.int ((-1 : Int32) - nI f.2)) ∧ M'.1 114 15 = nI f.1 ∧ M'.1 116 = M0.1 116 ∧ (∀ q, q < 6 → M'.2.1 119 q = M0.2.1 119 q) ∧ M'.1 114 25 = g 25
  | .inr (k, st) => r0 = some (.int (nI k)) ∧ M'.1 114 15 = nI 0 ∧ (∀ k, k < 359 → M'.1 116 k = nI (lkS st.2.1 k)) ∧ (∀ q, q < st.2.1 2 → M'.2.1 119 q = st.2.2.1 q) ∧ M'.1 114 25 = nI 0 ∧ DB st.2.1
theorem Gx_sub {K K' : List Nat} {g g' : Nat → Int32} (h : Gx K g g') (hs : ∀ k, k ∈ K → k ∈ K') : Gx K' g g' := fun k hk => h k (fun q => hk (hs k q))
theorem Gx_tr2 {K K1 : List Nat} {g g1 g2 : Nat → Int32} (h : Gx K g g1) (h1 : Gx K1 g1 g2) (hs : ∀ k, k ∈ K1 → k ∈ K) : Gx K g g2 := fun k hk => (h1 k (fun q => hk (hs k q))).trans (h k hk)
theorem KR_KL : ∀ k, k ∈ KR → k ∈ KL := by decide
theorem Rsv_fr {L : List Nat} {M M' : Mm} (hF : Fr L M M') (hp : ¬ 120 ∈ L) (h : Rsv M) : Rsv M' := fun k hk => by rw [(hF 120 hp).2.1]; exact h k hk
theorem TkM_0 {M : Mm} {T : Nat → Nat} {L mo p : Nat} (h : TkM M T L mo p) : (M.1 114 11 = 0) ↔ tKd T L mo p = 0 := by
  rw [h.2.2.2.1]
  have cl := tCd_le (tKd T L mo p)
  exact ⟨fun q => (tCd_0 (tKd_le _ _ _ _)).mp ((n_eq rfl nI_0.symm (by omega) (by omega)).mp q), fun q => (n_eq rfl nI_0.symm (by omega) (by omega)).mpr ((tCd_0 (tKd_le _ _ _ _)).mpr q)⟩
def LInv (M : Mm) (g : Nat → Int32) (T : Nat → Nat) (L k : Nat) (st : Dst) (N : Mm) : Prop := TkM N T L 900 st.1 ∧ (∀ k, k < 90 → N.1 117 k = nI (st.2.1 k)) ∧ DB st.2.1 ∧ (∀ q, q < st.2.1 2 → N.2.1 119 (6 + q) = st.2.2.1 q) ∧ st.2.2.2.1 < 32 ∧ N.1 114 20 = nI st.2.2.2.1 ∧ N.2.1 114 21 = st.2.2.2.2 ∧ N.1 114 19 = nI k ∧ N.1 114 15 = nI 0 ∧ N.1 114 0 = nI 0 ∧ N.1 114 2 = nI 0 ∧ N.1 114 25 = g 25 ∧ Rsv N ∧ Gx KL g (N.1 114) ∧ Fr [114, 117, 119] M N ∧ (∀ q, q < 6 → N.2.1 119 q = M.2.1 119 q)
set_option maxRecDepth 20000 in
theorem c_m_lake_40 (d : Nat) (M : Mm) (g : Nat → Int32) (T : Nat → Nat) (L : Nat) : ∀ (n k : Nat) (st : Dst) (N : Mm), L < st.1 + n → k + n ≤ 5000 → LInv M g T L k st N → Wn (d + 6) 72 (PLm M g (lnS T L 900 n k st)) (40, [(0, .ref 114)], [], N) := by
  intro n
  induction n with
  | zero => intro k st N h1 _ h2; have := h2.1.2.2.2.2.2.2.2.2.2.2.2; omega
  | succ n ih =>
    intro k st N hn hk5 ⟨hK, hh, hδ, hN, ho5, ho, hic, h19, h15, h0, h2, h25, hv, hx, hF, h6⟩
    obtain ⟨p, δ, ν, o, ic⟩ := st
    dsimp only at hK hh hδ hN ho5 ho hic hn
    have hpL := hK.2.2.2.2.2.2.2.2.2.2.2
    refine Wn.run (tab := tb_m_lake) rfl 3 (c' := (if (N.1 114 11) = 0 then 83 else 47, [(0, .ref 114)], [], N)) (o := [shp 114 = (0, 10)]) rfl rfl ?_
    refine Wn.br (fun hz => ?_) (fun hz => ?_)
    · have hz := (TkM_0 hK).mp hz
      have e : lnS T L 900 (n + 1) k (p, δ, ν, o, ic) = .inr (k, (p, δ, ν, o, ic)) := if_pos hz
      rw [e]
      refine (c_m_lake_83 (d + 6) N _ rfl k h19 δ hh _ rfl).mono ?_
      rintro r0 M' ⟨rfl, q1, q2, q3, q4⟩
      refine ⟨?_, fr_tr (fr_up hF (by decide)) q4 (by decide), ?_, ?_, rfl, ?_, q2, ?_, ?_, hδ⟩
      · rw [q1]; exact Gx_up hx (by decide)
      · rw [q1, pk_un (by decide)]; exact h0
      · rw [q1, pk_un (by decide)]; exact h2
      · rw [q1, pk_un (by decide)]; exact h15
      · intro q hq
        have h6 : q < 6 := Nat.lt_of_lt_of_le hq hδ.2.2.1
        rw [q3]
        exact Eq.trans (if_pos h6) (hN q hq)
      · rw [q1, pk_us]
    · have hz := mt (TkM_0 hK).mpr hz
      have e1 : lnS T L 900 (n + 1) k (p, δ, ν, o, ic) = match rdLn T L 900 p δ ν o ic with
        | .inl f => .inl f
        | .inr s2 => if tKd T L 900 s2.1 = 4 then lnS T L 900 n (k + 1) (tNx T L s2.1, s2.2) else .inl (1, tAt T L 900 s2.1) := if_neg hz
      refine Wn.run (tab := tb_m_lake) rfl 1 (c' := (48, [(0, .ref 114)], [.ref 114], N)) (o := []) rfl trivial ?_
      refine Wn.callV (p := 114) (n := 1) (ix := 247) (ci := (10)) (PRm N (N.1 114) T L 900 (rdLn T L 900 p δ ν o ic)) [] [] rfl rfl rfl rfl (Nat.le_of_ble_eq_true rfl) (Nat.le_of_ble_eq_true rfl) (c_m_readLine _ N _ T L 900 p rfl hK δ hh hδ ν hN o ho ho5 ic hic hv) ?_
      intro r0 M1 hres
      cases hq : rdLn T L 900 p δ ν o ic with
      | inl f =>
        rw [hq] at hres e1
        obtain ⟨a1, a2, a3, rfl, a5, a6⟩ := hres
        rw [e1]
        show Wn _ 72 _ (51, [(0, .ref 114)], [.int (nI 0)], M1)
        refine Wn.run (tab := tb_m_lake) rfl 1 (c' := (if (nI 0) = 0 then 63 else 54, [(0, .ref 114)], [], M1)) (o := []) rfl trivial ?_
        rw [if_pos (show nI 0 = 0 by decide)]
        refine Wn.run (tab := tb_m_lake) rfl 4 (c' := (69, [(0, .ref 114)], [.int ((-1 : Int32) - (M1.1 114 16))], M1)) (o := [shp 114 = (0, 10)]) rfl rfl ?_
        rw [a6]
        exact Wn.iret rfl ⟨Gx_tr2 hx a1 KR_KL, fr_tr (fr_up hF (by decide)) a2 (by decide), (a1 0 (by decide)).trans h0, (a1 2 (by decide)).trans h2, rfl, a5, ((a2 116 (by decide)).1).trans (hF 116 (by decide)).1, fun q hq => (a3 q hq).trans (h6 q hq), (a1 25 (by decide)).trans h25⟩
      | inr s2 =>
        rw [hq] at hres e1
        obtain ⟨a1, a2, a3, rfl, a5, a6, a7, a8, a9, a10⟩ := hres
        rw [e1]
        dsimp only
        have hok := rdLn_ok hpL hδ ho5 hq
        obtain ⟨p2, δ2, ν2, o2, ic2⟩ := s2
        obtain ⟨k1, k2, k3, k4⟩ := hok
        dsimp only at a5 a6 a7 a8 a9 k1 k2 k3 k4 e1 ⊢
        show Wn _ 72 _ (51, [(0, .ref 114)], [.int (nI 1)], M1)
        refine Wn.run (tab := tb_m_lake) rfl 1 (c' := (if (nI 1) = 0 then 63 else 54, [(0, .ref 114)], [], M1)) (o := []) rfl trivial ?_
        rw [if_neg (show ¬ nI 1 = 0 by decide)]
        refine Wn.run (tab := tb_m_lake) rfl 2 (c' := (57, [(0, .ref 114)], [.int (nI 59), .ref 114], M1)) (o := []) rfl trivial ?_
        by_cases h4 : tKd T L 900 p2 = 4
        · rw [if_pos h4]
          refine Wn.callV (p := 114) (n := 2) (ix := 250) (ci := (10)) (PTm M1 (M1.1 114) T L 900 (tNx T L p2) [4, 11, 12, 13, 14] (M1.1 114 18) (some (.int (nI 1)))) [.int (nI 59)] [] rfl rfl rfl rfl (Nat.le_of_ble_eq_true rfl) (Nat.le_of_ble_eq_true rfl) (c_m_sign_ok (d + 3) M1 _ T L 900 p2 rfl a5 h4) ?_
          rintro r0 M2 ⟨rfl, b1, b2, b3, b4, b5⟩
          show Wn _ 72 _ (60, [(0, .ref 114)], [.int (nI 1)], M2)
          refine Wn.run (tab := tb_m_lake) rfl 1 (c' := (if ¬ (nI 1) = 0 then 70 else 63, [(0, .ref 114)], [], M2)) (o := []) rfl trivial ?_
          rw [if_pos (show ¬ nI 1 = 0 by decide)]
          have e19 : M2.1 114 19 = nI k := (b3 19 (by decide)).trans ((a1 19 (by decide)).trans h19)
          refine Wn.run (tab := tb_m_lake) rfl 6 (c' := (80, [(0, .ref 114)], [], (mI M2 114 (upd (M2.1 114) 19 ((M2.1 114 19) + (nI 1)))))) (o := [shp 114 = (0, 10), shp 114 = (0, 10)]) rfl ⟨rfl, rfl⟩ ?_
          rw [e19, nI_add]
          generalize hM3 : (mI M2 114 (upd (M2.1 114) 19 (nI (k + 1)))) = M3
          refine Wn.run (tab := tb_m_lake) rfl 1 (c' := (40, [(0, .ref 114)], [], M3)) (o := []) rfl trivial ?_
          have u : ∀ x, ¬ x = 19 → M3.1 114 x = M2.1 114 x := fun x hx => by rw [mI_eq hM3]; exact pk_un hx
          have f3 := fr_1I hM3
          have gx3 : Gx [4, 11, 12, 13, 14, 15, 16, 18, 19, 20] (N.1 114) (M3.1 114) := fun x hx => (u x (fun e => hx (by rw [e]; decide))).trans ((b3 x (fun e => hx ((show ∀ y, y ∈ [4, 11, 12, 13, 14] → y ∈ [4, 11, 12, 13, 14, 15, 16, 18, 19, 20] by decide) x e))).trans (a1 x (fun e => hx ((show ∀ y, y ∈ KR → y ∈ [4, 11, 12, 13, 14, 15, 16, 18, 19, 20] by decide) x e))))
          have tn := tNx_le (T := T) (mo := 900) k1 (by omega) (by omega)
          refine ih (k + 1) (tNx T L p2, δ2, ν2, o2, ic2) M3 (by dsimp only; omega) (by omega) ⟨TkM_up hM3 (by decide) b1, ?_, k3, ?_, k4, ?_, ?_, ?_, ?_, ?_, ?_, ?_, ?_, Gx_tr2 hx gx3 (by decide), ?_, ?_⟩
          · intro x hx9; rw [(f3 117 (by decide)).1, (b5 117 (by decide)).1]; exact a6 x hx9
          · intro q hq9; rw [(f3 119 (by decide)).2.1, (b5 119 (by decide)).2.1]; exact a7 q hq9
          · exact (u 20 (by decide)).trans ((b3 20 (by decide)).trans a8)
          · have e3 : M3.2.1 114 = M2.2.1 114 := by rw [← hM3]; rfl
            dsimp only; rw [e3]; exact (b4 21 (by decide)).trans a9
          · rw [mI_eq hM3, pk_us]
          · exact (u 15 (by decide)).trans ((b3 15 (by decide)).trans (a10.trans h15))
          · exact (gx3 0 (by decide)).trans h0
          · exact (gx3 2 (by decide)).trans h2
          · exact (gx3 25 (by decide)).trans h25
          · exact Rsv_fr f3 (by decide) (Rsv_fr b5 (by decide) (Rsv_fr a2 (by decide) hv))
          · exact fr_tr (fr_tr (fr_tr hF a2 (by decide)) b5 (by decide)) f3 (by decide)
          · intro q hq9; rw [(f3 119 (by decide)).2.1, (b5 119 (by decide)).2.1]; exact (a3 q hq9).trans (h6 q hq9)
        · rw [if_neg h4]
          refine Wn.callV (p := 114) (n := 2) (ix := 250) (ci := (10)) (PFm M1 (M1.1 114) 1 (tAt T L 900 p2) (some (.int (nI 0)))) [.int (nI 59)] [] rfl rfl rfl rfl (Nat.le_of_ble_eq_true rfl) (Nat.le_of_ble_eq_true rfl) (c_m_sign_no (d + 4) M1 _ T L 900 p2 rfl a5 h4) ?_
          rintro r0 M2 ⟨rfl, b1, b2, b3, b4⟩
          show Wn _ 72 _ (60, [(0, .ref 114)], [.int (nI 0)], M2)
          refine Wn.run (tab := tb_m_lake) rfl 1 (c' := (if ¬ (nI 0) = 0 then 70 else 63, [(0, .ref 114)], [], M2)) (o := []) rfl trivial ?_
          rw [if_neg (show ¬ ¬ nI 0 = 0 by decide)]
          refine Wn.run (tab := tb_m_lake) rfl 4 (c' := (69, [(0, .ref 114)], [.int ((-1 : Int32) - (M2.1 114 16))], M2)) (o := [shp 114 = (0, 10)]) rfl rfl ?_
          rw [b2]
          have gx2 : Gx KR (N.1 114) (M2.1 114) := Gx_tr2 a1 b3 (fun _ h => h)
          exact Wn.iret rfl ⟨Gx_tr2 hx gx2 KR_KL, fr_tr (fr_tr (fr_up hF (by decide)) a2 (by decide)) b4 (by decide), (gx2 0 (by decide)).trans h0, (gx2 2 (by decide)).trans h2, rfl, b1, ((b4 116 (by decide)).1).trans (((a2 116 (by decide)).1).trans (hF 116 (by decide)).1), fun q hq => by rw [(b4 119 (by decide)).2.1]; exact (a3 q hq).trans (h6 q hq), (gx2 25 (by decide)).trans h25⟩
set_option maxRecDepth 20000 in
theorem c_m_lake (d : Nat) (M : Mm) (g : Nat → Int32) (T : Nat → Nat) (L : Nat) (hg : M.1 114 = g) (hL2 : g 2 = nI L) (hT : TM (M.1 115) T L) (hL9 : L ≤ 940) (hv : Rsv M) : Wn (d + 6) 72 (PLm M g (lnS T L 900 (L + 1) 0 lk0)) (0, lv_args 0 [.ref 114], [], M) := by
  refine Wn.run (tab := tb_m_lake) rfl 3 (c' := (5, [(0, .ref 114)], [], (mI M 114 (upd (M.1 114) 0 (nI 0))))) (o := [shp 114 = (0, 10)]) rfl rfl ?_
  generalize hM1 : (mI M 114 (upd (M.1 114) 0 (nI 0))) = M1
  have g1 : M1.1 114 = upd g 0 (nI 0) := by rw [← hg]; exact mI_eq hM1
  refine Wn.run (tab := tb_m_lake) rfl 2 (c' := (9, [(0, .ref 114)], [.int (nI 900), .ref 114], M1)) (o := []) rfl trivial ?_
  refine Wn.callV (p := 114) (n := 2) (ix := 241) (ci := (10)) (PTa M1 (M1.1 114) L (nI 900)) [.int (nI 900)] [] rfl rfl rfl rfl (Nat.le_of_ble_eq_true rfl) (Nat.le_of_ble_eq_true rfl) (c_m_taken (d + 5) M1 _ rfl L (by rw [g1, pk_un (by decide)]; exact hL2) (nI 900)) ?_
  rintro r0 M2 ⟨rfl, t1, t2, t3⟩
  show Wn _ 72 _ (12, [(0, .ref 114)], [], M2)
  refine Wn.run (tab := tb_m_lake) rfl 3 (c' := (17, [(0, .ref 114)], [], (mI M2 114 (upd (M2.1 114) 15 (nI 0))))) (o := [shp 114 = (0, 10)]) rfl rfl ?_
  generalize hM3 : (mI M2 114 (upd (M2.1 114) 15 (nI 0))) = M3
  refine Wn.run (tab := tb_m_lake) rfl 3 (c' := (22, [(0, .ref 114)], [], (mI M3 114 (upd (M3.1 114) 19 (nI 0))))) (o := [shp 114 = (0, 10)]) rfl rfl ?_
  generalize hM4 : (mI M3 114 (upd (M3.1 114) 19 (nI 0))) = M4
  refine Wn.run (tab := tb_m_lake) rfl 3 (c' := (27, [(0, .ref 114)], [], (mI M4 114 (upd (M4.1 114) 20 (nI 0))))) (o := [shp 114 = (0, 10)]) rfl rfl ?_
  generalize hM5 : (mI M4 114 (upd (M4.1 114) 20 (nI 0))) = M5
  refine Wn.run (tab := tb_m_lake) rfl 3 (c' := (32, [(0, .ref 114)], [], (mJ M5 114 (vp_updL (M5.2.1 114) 21 (0 : Int64))))) (o := [shp 114 = (0, 10)]) rfl rfl ?_
  generalize hM6 : (mJ M5 114 (vp_updL (M5.2.1 114) 21 (0 : Int64))) = M6
  have e6 : M6.1 114 = upd (upd (upd (M2.1 114) 15 (nI 0)) 19 (nI 0)) 20 (nI 0) := by
    have e : M6.1 = M5.1 := by rw [← hM6]; rfl
    rw [e, mI_eq hM5, mI_eq hM4, mI_eq hM3]
  have f6 : Fr [114] M M6 := fr_tr (fr_tr (fr_tr (fr_tr (fr_tr (fr_1I hM1) t3 (by decide)) (fr_1I hM3) (by decide)) (fr_1I hM4) (by decide)) (fr_1I hM5) (by decide)) (fr_1J hM6) (by decide)
  refine Wn.run (tab := tb_m_lake) rfl 1 (c' := (33, [(0, .ref 114)], [.ref 114], M6)) (o := []) rfl trivial ?_
  refine Wn.callV (p := 114) (n := 1) (ix := 145) (ci := (10)) (PH M6 dl0) [] [] rfl rfl rfl rfl (Nat.le_of_ble_eq_true rfl) (Nat.le_of_ble_eq_true rfl) (c_m_clears (d + 4) M6) ?_
  rintro r0 M7 ⟨rfl, c1, c2⟩
  show Wn _ 72 _ (36, [(0, .ref 114)], [], M7)
  have e7 : M7.1 114 = upd (upd (upd (upd (upd (upd (upd (upd g 0 (nI 0)) 3 (nI L)) 2 (nI 0)) 4 (nI 0)) 5 (nI 900)) 15 (nI 0)) 19 (nI 0)) 20 (nI 0) := by rw [(c2 114 (by decide)).1, e6, t1, g1]
  have e115 : M7.1 115 = M.1 115 := ((c2 115 (by decide)).1).trans (f6 115 (by decide)).1
  refine Wn.run (tab := tb_m_lake) rfl 1 (c' := (37, [(0, .ref 114)], [.ref 114], M7)) (o := []) rfl trivial ?_
  refine Wn.callV (p := 114) (n := 1) (ix := 191) (ci := (10)) (PNx M7 (M7.1 114) T L 900 0) [] [] rfl rfl rfl rfl (Nat.le_of_ble_eq_true rfl) (Nat.le_of_ble_eq_true rfl) (c_m_next (d + 4) M7 _ _ T L 900 0 rfl (by rw [e7]; exact rfl) (by rw [e7]; exact rfl) (by rw [e7]; exact rfl) e115 hT hL9 (by decide) (by omega)) ?_
  rintro r0 M8 ⟨rfl, n1, n2, n3, n4⟩
  show Wn _ 72 _ (40, [(0, .ref 114)], [], M8)
  refine c_m_lake_40 d M g T L (L + 1) 0 lk0 M8 (by show L < 0 + (L + 1); omega) (by omega) ⟨n1, ?_, DB_0, fun q hq => absurd hq (by show ¬ q < 0; omega), (by decide), ?_, ?_, ?_, ?_, ?_, ?_, ?_, ?_, ?_, ?_, ?_⟩
  · intro k hk; rw [(n4 117 (by decide)).1]; exact c1 k hk
  · rw [n2 20 (by decide), e7]; exact rfl
  · rw [n3 21 (by decide), (c2 114 (by decide)).2.1, mJ_eq hM6]; exact pk_uLs
  · rw [n2 19 (by decide), e7]; exact rfl
  · rw [n2 15 (by decide), e7]; exact rfl
  · rw [n2 0 (by decide), e7]; exact rfl
  · rw [n2 2 (by decide), e7]; exact rfl
  · rw [n2 25 (by decide), e7]; exact rfl
  · exact Rsv_fr n4 (by decide) (Rsv_fr c2 (by decide) (Rsv_fr f6 (by decide) hv))
  · refine Gx_tr2 (K1 := KN) ?_ n2 (by decide)
    rw [e7]
    exact Gx_up (Gx_up (Gx_up (Gx_up (Gx_up (Gx_up (Gx_up (Gx_up (Gx_rf _ _) (by decide)) (by decide)) (by decide)) (by decide)) (by decide)) (by decide)) (by decide)) (by decide)
  · exact fr_tr (fr_tr (fr_up f6 (by decide)) c2 (by decide)) n4 (by decide)
  · intro q hq
    rw [(n4 119 (by decide)).2.1, (c2 119 (by decide)).2.1, (f6 119 (by decide)).2.1]
