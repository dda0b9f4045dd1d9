/-! The reference reads. -/
theorem kcs_val (n : Int64) (d : Nat) : ∀ (l : List Int) (k : Nat), kcs n d l k = d ∨ ∃ i, i < l.length ∧ kcs n d l k = k + i ∧ Int64.ofInt (l.getD i 0) = n
  | [], _ => Or.inl rfl
  | c :: r, k => by
    by_cases h : Int64.ofInt c = n
    · right
      refine ⟨0, by simp, ?_, by simpa using h⟩
      show (if Int64.ofInt c = n then k else _) = _
      rw [if_pos h]
      rfl
    · have e : kcs n d (c :: r) k = kcs n d r (k + 1) := by
        show (if Int64.ofInt c = n then k else _) = _
        rw [if_neg h]
      rw [e]
      rcases kcs_val n d r (k + 1) with h1 | ⟨i, h1, h2, h3⟩
      · exact Or.inl h1
      · exact Or.inr ⟨i + 1, by simpa using h1, by omega, by simpa using h3⟩
theorem kc_codes : ∀ c, c < 36 → 4 ≤ c → ∀ d, d < 4 → kc (Int64.ofInt (kcodes.getD c 0)) d = c := by decide +kernel
theorem kc_code {n : Int64} {d c : Nat} (hc : 4 ≤ c) (hc2 : c < 36) (hd : d < 4) : kc n d = c ↔ n = Int64.ofInt (kcodes.getD c 0) := by
  constructor
  · intro h
    rcases kcs_val n d kcodes 0 with h1 | ⟨i, h1, h2, h3⟩
    · unfold kc at h; omega
    · unfold kc at h
      have : i = c := by omega
      rw [← h3, this]
  · intro h
    rw [h]
    exact kc_codes c hc2 hc d hd
theorem tk_code {T : Nat → Nat} {L mo p c : Nat} (hT : ∀ k, k < L → T k < 256) (hc : 10 ≤ c) (hc2 : c < 36) (h : tKd T L mo p = 3 ∨ (10 ≤ tKd T L mo p ∧ tKd T L mo p < 36)) : tNm T L p = Int64.ofInt (kcodes.getD c 0) ↔ tKd T L mo p = c := by
  have tc := tKd_cases (mo := mo) (p := p) hT
  have e : tKd T L mo p = kc (tNm T L p) 3 := by
    rcases tc with ⟨_, h1⟩ | ⟨_, h1 | h1 | h1 | h1⟩
    · omega
    · omega
    · exact h1.2.2.2.2
    · omega
    · omega
  rw [e]
  exact (kc_code (by omega) hc2 (by decide)).symm
theorem tk_sign {T : Nat → Nat} {L mo p c : Nat} (hT : ∀ k, k < L → T k < 256) (hc : 4 ≤ c) (hc2 : c ≤ 9) (h : 4 ≤ tKd T L mo p ∧ tKd T L mo p ≤ 9) : (nI (T (sk T L p))).toInt64 = Int64.ofInt (kcodes.getD c 0) ↔ tKd T L mo p = c := by
  have tc := tKd_cases (mo := mo) (p := p) hT
  have e : tKd T L mo p = kc (nI (T (sk T L p))).toInt64 1 := by
    rcases tc with ⟨_, h1⟩ | ⟨_, h1 | h1 | h1 | h1⟩
    · omega
    · exact h1.2.2
    · omega
    · omega
    · omega
  rw [e]
  exact (kc_code hc (by omega) (by decide)).symm
theorem tCd_1 {k : Nat} (h : k ≤ 36) : tCd k = 1 ↔ (k = 3 ∨ (10 ≤ k ∧ k < 36)) := by unfold tCd; repeat (first | omega | split)
theorem tCd_2 {k : Nat} (h : k ≤ 36) : tCd k = 2 ↔ k = 2 := by unfold tCd; repeat (first | omega | split)
theorem tCd_3 {k : Nat} (h : k ≤ 36) : tCd k = 3 ↔ (4 ≤ k ∧ k ≤ 9) := by unfold tCd; repeat (first | omega | split)
theorem tCd_0 {k : Nat} (h : k ≤ 36) : tCd k = 0 ↔ k = 0 := by unfold tCd; repeat (first | omega | split)
theorem tCd_le (k : Nat) : tCd k ≤ 4 := by unfold tCd; repeat (first | omega | split)
theorem TkM_T {M : Mm} {T : Nat → Nat} {L mo p : Nat} (h : TkM M T L mo p) : ∀ k, k < L → T k < 256 := fun k hk => (h.2.2.2.2.2.2.2.2.1 k hk).2
theorem w_m_isWord (d : Nat) (M : Mm) (T : Nat → Nat) (L mo p c : Nat) (h : TkM M T L mo p) (hc : 10 ≤ c) (hc2 : c < 36) (n : Int64) (hn : n = Int64.ofInt (kcodes.getD c 0)) (Q : Po) (hQ : Q (some (.int (b2 (tKd T L mo p = c)))) M) : Wn (d + 0) 59 Q (0, lv_args 0 [.ref 114, .long n], [], M) := by
  have hT := TkM_T h
  obtain ⟨q1, q2, q3, q4, q5, q6, q7, q8, q9⟩ := h
  have kl := tKd_le T L mo p
  have cl := tCd_le (tKd T L mo p)
  have c1 := tCd_1 kl
  refine Wn.run (tab := tb_m_isWord) rfl 4 (c' := (if ¬ (M.1 114 11) = (nI 1) then 21 else 8, [(0, .ref 114), (1, .long n)], [], M)) (o := [shp 114 = (0, 10)]) rfl rfl ?_
  rw [q4]
  refine Wn.br (fun h1 => ?_) (fun h1 => ?_)
  · have h1 := mt (n_eq rfl rfl (by omega) (by omega)).mpr h1
    refine Wn.run (tab := tb_m_isWord) rfl 1 (c' := (22, [(0, .ref 114), (1, .long n)], [.int (nI 0)], M)) (o := []) rfl trivial ?_
    rw [b2_f (by omega)] at hQ
    exact Wn.zret rfl (Or.inl rfl) hQ
  · have h1 := (n_eq rfl rfl (by omega) (by omega)).mp (Classical.not_not.mp h1)
    have hw := c1.mp h1
    refine Wn.run (tab := tb_m_isWord) rfl 5 (c' := (if ¬ (lg_cmp (M.2.1 114 17) n) = 0 then 21 else 17, [(0, .ref 114), (1, .long n)], [], M)) (o := [shp 114 = (0, 10)]) rfl rfl ?_
    rw [q8 hw]
    have key := tk_code (c := c) hT hc hc2 hw
    refine Wn.br (fun h2 => ?_) (fun h2 => ?_)
    · refine Wn.run (tab := tb_m_isWord) rfl 1 (c' := (22, [(0, .ref 114), (1, .long n)], [.int (nI 0)], M)) (o := []) rfl trivial ?_
      rw [b2_f (fun e => h2 ((lg_cmp_eq _ _).mpr (by rw [hn]; exact key.mpr e)))] at hQ
      exact Wn.zret rfl (Or.inl rfl) hQ
    · have h2 := (lg_cmp_eq _ _).mp (Classical.not_not.mp h2)
      refine Wn.run (tab := tb_m_isWord) rfl 2 (c' := (22, [(0, .ref 114), (1, .long n)], [.int (nI 1)], M)) (o := []) rfl trivial ?_
      rw [b2_t (key.mp (by rw [← hn]; exact h2))] at hQ
      exact Wn.zret rfl (Or.inr rfl) hQ
theorem w_m_isSign (d : Nat) (M : Mm) (T : Nat → Nat) (L mo p c x : Nat) (h : TkM M T L mo p) (hc : 4 ≤ c) (hc2 : c ≤ 9) (hx : x < 256) (hn : Int64.ofNat x = Int64.ofInt (kcodes.getD c 0)) (Q : Po) (hQ : Q (some (.int (b2 (tKd T L mo p = c)))) M) : Wn (d + 0) 60 Q (0, lv_args 0 [.ref 114, .int (nI x)], [], M) := by
  have hT := TkM_T h
  have hpL := h.2.2.2.2.2.2.2.2.2.2.2
  obtain ⟨q1, q2, q3, q4, q5, q6, q7, q8, q9⟩ := h
  have kl := tKd_le T L mo p
  have cl := tCd_le (tKd T L mo p)
  have c1 := tCd_3 kl
  refine Wn.run (tab := tb_m_isSign) rfl 4 (c' := (if ¬ (M.1 114 11) = (nI 3) then 20 else 8, [(0, .ref 114), (1, .int (nI x))], [], M)) (o := [shp 114 = (0, 10)]) rfl rfl ?_
  rw [q4]
  refine Wn.br (fun h1 => ?_) (fun h1 => ?_)
  · have h1 := mt (n_eq rfl rfl (by omega) (by omega)).mpr h1
    refine Wn.run (tab := tb_m_isSign) rfl 1 (c' := (21, [(0, .ref 114), (1, .int (nI x))], [.int (nI 0)], M)) (o := []) rfl trivial ?_
    rw [b2_f (by omega)] at hQ
    exact Wn.zret rfl (Or.inl rfl) hQ
  · have h1 := (n_eq rfl rfl (by omega) (by omega)).mp (Classical.not_not.mp h1)
    have hw := c1.mp h1
    have tc := tKd_cases (mo := mo) (p := p) hT
    have m9 := mn_le L mo
    have hs : T (sk T L p) < 256 := hT _ (by omega)
    refine Wn.run (tab := tb_m_isSign) rfl 4 (c' := (if ¬ (M.1 114 14) = (nI x) then 20 else 16, [(0, .ref 114), (1, .int (nI x))], [], M)) (o := [shp 114 = (0, 10)]) rfl rfl ?_
    rw [q7 hw]
    have key := tk_sign (c := c) hT hc hc2 hw
    rw [nI_64 (by omega)] at key
    refine Wn.br (fun h2 => ?_) (fun h2 => ?_)
    · have h2 := mt (n_eq rfl rfl (by omega) (by omega)).mpr h2
      refine Wn.run (tab := tb_m_isSign) rfl 1 (c' := (21, [(0, .ref 114), (1, .int (nI x))], [.int (nI 0)], M)) (o := []) rfl trivial ?_
      rw [b2_f (fun e => h2 (by
        have e9 := (key.mpr e).trans hn.symm
        have e8 := congrArg Int64.toInt e9
        rw [Int64.toInt_ofNat_of_lt (by omega), Int64.toInt_ofNat_of_lt (by omega)] at e8
        omega))] at hQ
      exact Wn.zret rfl (Or.inl rfl) hQ
    · have h2 := (n_eq rfl rfl (by omega) (by omega)).mp (Classical.not_not.mp h2)
      refine Wn.run (tab := tb_m_isSign) rfl 2 (c' := (21, [(0, .ref 114), (1, .int (nI x))], [.int (nI 1)], M)) (o := []) rfl trivial ?_
      rw [b2_t (key.mp (by rw [h2]; exact hn))] at hQ
      exact Wn.zret rfl (Or.inr rfl) hQ
/-- behind a fault of the reference; behind what it took -/
def KR : List Nat := [4, 11, 12, 13, 14, 15, 16, 18, 20]
def PFm (M0 : Mm) (g : Nat → Int32) (fk fp : Nat) (r : Option Value) : Po := fun r0 M' => r0 = r ∧ M'.1 114 15 = nI fk ∧ M'.1 114 16 = nI fp ∧ Gx KR g (M'.1 114) ∧ Fr [114] M0 M'
def PTm (M0 : Mm) (g : Nat → Int32) (T : Nat → Nat) (L mo p : Nat) (K : List Nat) (gt : Int32) (r : Option Value) : Po := fun r0 M' => r0 = r ∧ TkM M' T L mo p ∧ M'.1 114 18 = gt ∧ Gx K g (M'.1 114) ∧ (∀ k, ¬ k = 17 → M'.2.1 114 k = M0.2.1 114 k) ∧ Fr [114] M0 M'
theorem TkM_up {M M' : Mm} {T : Nat → Nat} {L mo p k : Nat} {v : Int32} (hM : mI M 114 (upd (M.1 114) k v) = M') (hk : ¬ k ∈ [3, 4, 5, 11, 12, 14]) (h : TkM M T L mo p) : TkM M' T L mo p := by
  have e : ∀ x, x ∈ [3, 4, 5, 11, 12, 14] → M'.1 114 x = M.1 114 x := fun x hx => by
    rw [mI_eq hM]
    exact pk_un (fun e => hk (e ▸ hx))
  have e2 : M'.2.1 114 = M.2.1 114 := by rw [← hM]; rfl
  have e3 : M'.1 115 = M.1 115 := mI_ne hM (by decide)
  unfold TkM
  rw [e 3 (by decide), e 4 (by decide), e 5 (by decide), e 11 (by decide), e 12 (by decide), e 14 (by decide), e2, e3]
  exact h
theorem TkM_fr {K : List Nat} {M M' : Mm} {T : Nat → Nat} {L mo p : Nat} (hF : Fr K M M') (hp : ¬ 114 ∈ K ∧ ¬ 115 ∈ K) (h : TkM M T L mo p) : TkM M' T L mo p := by
  obtain ⟨e1, e2, e3⟩ := hF 114 hp.1
  obtain ⟨f1, f2, f3⟩ := hF 115 hp.2
  unfold TkM
  rw [e1, e2, f1]
  exact h
theorem c_m_nx (d : Nat) (M : Mm) (g : Nat → Int32) (T : Nat → Nat) (L mo p : Nat) (hg : M.1 114 = g) (h : TkM M T L mo p) (h0 : ¬ tKd T L mo p = 0) (h36 : ¬ tKd T L mo p = 36) : Wn (d + 1) 57 (PNx M g T L mo (tNx T L p)) (0, lv_args 0 [.ref 114], [], M) := by
  obtain ⟨q1, q2, q3, q4, q5, q6, q7, q8, q9, q10, q11, q12⟩ := h
  have hx := tNx_le q12 h0 h36
  exact c_m_next d M g (M.1 115) T L mo (tNx T L p) hg (by rw [← hg]; exact q1) (by rw [← hg]; exact q2) (by rw [← hg]; exact q5 h0 h36) rfl q9 q10 q11 hx.1
theorem TkM_uJ {M M' : Mm} {T : Nat → Nat} {L mo p k : Nat} {v : Int64} (hM : mJ M 114 (vp_updL (M.2.1 114) k v) = M') (hk : ¬ k = 17) (h : TkM M T L mo p) : TkM M' T L mo p := by
  have e1 : M'.1 = M.1 := by rw [← hM]; rfl
  have e2 : M'.2.1 114 17 = M.2.1 114 17 := by rw [mJ_eq hM]; exact pk_uLn (fun e => hk e.symm)
  unfold TkM
  rw [e1, e2]
  exact h
theorem jo_tr {M M' : Mm} {J : Nat → Int64} (h : ∀ k, ¬ k = 17 → M.2.1 114 k = J k) (h2 : ∀ k, ¬ k = 17 → M'.2.1 114 k = M.2.1 114 k) : ∀ k, ¬ k = 17 → M'.2.1 114 k = J k := fun k hk => (h2 k hk).trans (h k hk)
theorem jo_stI {M M' : Mm} {p : Nat} {f : Nat → Int32} {J : Nat → Int64} (hM : mI M p f = M') (h : ∀ k, ¬ k = 17 → M.2.1 114 k = J k) : ∀ k, ¬ k = 17 → M'.2.1 114 k = J k := by rw [← hM]; exact h
theorem jo_fr {L : List Nat} {M M' : Mm} {J : Nat → Int64} (hF : Fr L M M') (hp : ¬ 114 ∈ L) (h : ∀ k, ¬ k = 17 → M.2.1 114 k = J k) : ∀ k, ¬ k = 17 → M'.2.1 114 k = J k := by rw [(hF 114 hp).2.1]; exact h
def PBd (M0 : Mm) (g : Nat → Int32) (fk fp : Int32) : Po := fun r0 M' => r0 = some (.int (nI 0)) ∧ M'.1 114 = upd (upd g 15 fk) 16 fp ∧ M'.2 = M0.2 ∧ Fr [114] M0 M'
set_option maxRecDepth 20000 in
theorem c_m_bad (d : Nat) (M : Mm) (g : Nat → Int32) (T : Nat → Nat) (L mo p : Nat) (hg : M.1 114 = g) (hK : TkM M T L mo p) (fk : Int32) : Wn (d + 0) 58 (PBd M g fk (nI (tAt T L mo p))) (0, lv_args 0 [.ref 114, .int fk], [], M) := by
  have hF := fr_rf [114] M
  have hO : ∀ k, ¬ k = 17 → M.2.1 114 k = M.2.1 114 k := fun _ _ => rfl
  have kl := tKd_le T L mo p
  have hL9 := hK.2.2.2.2.2.2.2.2.2.1
  refine Wn.run (tab := tb_m_bad) rfl 3 (c' := (5, [(0, .ref 114), (1, .int fk)], [], (mI M 114 (upd (M.1 114) 15 fk)))) (o := [shp 114 = (0, 10)]) rfl rfl ?_
  generalize hM2 : (mI M 114 (upd (M.1 114) 15 fk)) = M1
  have ht3 := TkM_up hM2 (by decide) hK
  have hk4 := fI_up hM2 hg
  have ho5 := jo_stI hM2 hO
  have hF6 := fr_sI hF hM2 (by decide)
  show Wn _ 58 _ (5, [(0, .ref 114), (1, .int fk)], [], M1)
  refine Wn.run (tab := tb_m_bad) rfl 4 (c' := (13, [(0, .ref 114), (1, .int fk)], [], (mI M1 114 (upd (M1.1 114) 16 (M1.1 114 12))))) (o := [shp 114 = (0, 10), shp 114 = (0, 10)]) rfl ⟨rfl, rfl⟩ ?_
  rw [show (M1.1 114 12) = (nI (tAt T L mo p)) from ht3.2.2.1]
  generalize hM8 : (mI M1 114 (upd (M1.1 114) 16 (nI (tAt T L mo p)))) = M7
  have ht9 := TkM_up hM8 (by decide) ht3
  have hk10 := fI_up hM8 hk4
  have ho11 := jo_stI hM8 ho5
  have hF12 := fr_sI hF6 hM8 (by decide)
  show Wn _ 58 _ (13, [(0, .ref 114), (1, .int fk)], [], M7)
  refine Wn.run (tab := tb_m_bad) rfl 1 (c' := (14, [(0, .ref 114), (1, .int fk)], [.int (nI 0)], M7)) (o := []) rfl trivial ?_
  exact Wn.zret rfl (Or.inl rfl) ⟨rfl, hk10, by rw [← hM8, ← hM2]; rfl, hF12⟩
set_option maxRecDepth 20000 in
theorem c_m_sign_ok (d : Nat) (M : Mm) (g : Nat → Int32) (T : Nat → Nat) (L mo p : Nat) (hg : M.1 114 = g) (hK : TkM M T L mo p) (hk : tKd T L mo p = 4) : Wn (d + 2) 61 (PTm M g T L mo (tNx T L p) [4, 11, 12, 13, 14] (g 18) (some (.int (nI 1)))) (0, lv_args 0 [.ref 114, .int (nI 59)], [], M) := by
  have hF := fr_rf [114] M
  have hO : ∀ k, ¬ k = 17 → M.2.1 114 k = M.2.1 114 k := fun _ _ => rfl
  have kl := tKd_le T L mo p
  have hL9 := hK.2.2.2.2.2.2.2.2.2.1
  refine Wn.run (tab := tb_m_sign) rfl 2 (c' := (2, [(0, .ref 114), (1, .int (nI 59))], [.int (nI 59), .ref 114], M)) (o := []) rfl trivial ?_
  refine Wn.callV (p := 114) (n := 2) (ix := 185) (ci := (10)) (fun r0 M0 => r0 = some (.int (b2 (tKd T L mo p = 4))) ∧ M = M0) [.int (nI 59)] [] rfl rfl rfl rfl (Nat.le_of_ble_eq_true rfl) (Nat.le_of_ble_eq_true rfl) (w_m_isSign _ M T L mo p 4 59 hK (by decide) (by decide) (by decide) (by decide) _ ⟨rfl, rfl⟩) ?_
  rintro _ _ ⟨rfl, rfl⟩
  show Wn _ 61 _ (5, [(0, .ref 114), (1, .int (nI 59))], [.int (b2 (tKd T L mo p = 4))], M)
  refine Wn.run (tab := tb_m_sign) rfl 1 (c' := (if ¬ (b2 (tKd T L mo p = 4)) = 0 then 14 else 8, [(0, .ref 114), (1, .int (nI 59))], [], M)) (o := []) rfl trivial ?_
  rw [if_pos (b2_n0.mpr (by omega))]
  show Wn _ 61 _ (14, [(0, .ref 114), (1, .int (nI 59))], [], M)
  refine Wn.run (tab := tb_m_sign) rfl 1 (c' := (15, [(0, .ref 114), (1, .int (nI 59))], [.ref 114], M)) (o := []) rfl trivial ?_
  refine Wn.callV (p := 114) (n := 1) (ix := 191) (ci := (10)) (PNx M g T L mo (tNx T L p)) [] [] rfl rfl rfl rfl (Nat.le_of_ble_eq_true rfl) (Nat.le_of_ble_eq_true rfl) (c_m_nx _ M g T L mo p hg hK (by omega) (by omega)) ?_
  rintro _ M1 ⟨rfl, ht2, hx3, hj4, hF5⟩
  show Wn _ 61 _ (18, [(0, .ref 114), (1, .int (nI 59))], [], M1)
  obtain ⟨g6, hg7⟩ : ∃ g9, M1.1 114 = g9 := ⟨_, rfl⟩
  have hx8 := hx3
  rw [hg7] at hx8
  have hf9 : g6 18 = (g 18) := (hx8 18 (by decide)).trans (show g 18 = (g 18) from rfl)
  have ho10 := jo_tr hO hj4
  have hF11 := fr_tr hF hF5 (by decide)
  refine Wn.run (tab := tb_m_sign) rfl 1 (c' := (19, [(0, .ref 114), (1, .int (nI 59))], [.int (nI 1)], M1)) (o := []) rfl trivial ?_
  exact Wn.zret rfl (Or.inr rfl) ⟨rfl, ht2, by rw [hg7]; exact hf9, by rw [hg7]; exact (Gx_tr (Gx_rf _ _) (Gx_mono hx8 (by decide))), ho10, hF11⟩
set_option maxRecDepth 20000 in
theorem c_m_sign_no (d : Nat) (M : Mm) (g : Nat → Int32) (T : Nat → Nat) (L mo p : Nat) (hg : M.1 114 = g) (hK : TkM M T L mo p) (hk : ¬ tKd T L mo p = 4) : Wn (d + 1) 61 (PFm M g 1 (tAt T L mo p) (some (.int (nI 0)))) (0, lv_args 0 [.ref 114, .int (nI 59)], [], M) := by
  have hF := fr_rf [114] M
  have hO : ∀ k, ¬ k = 17 → M.2.1 114 k = M.2.1 114 k := fun _ _ => rfl
  have kl := tKd_le T L mo p
  have hL9 := hK.2.2.2.2.2.2.2.2.2.1
  refine Wn.run (tab := tb_m_sign) rfl 2 (c' := (2, [(0, .ref 114), (1, .int (nI 59))], [.int (nI 59), .ref 114], M)) (o := []) rfl trivial ?_
  refine Wn.callV (p := 114) (n := 2) (ix := 185) (ci := (10)) (fun r0 M0 => r0 = some (.int (b2 (tKd T L mo p = 4))) ∧ M = M0) [.int (nI 59)] [] rfl rfl rfl rfl (Nat.le_of_ble_eq_true rfl) (Nat.le_of_ble_eq_true rfl) (w_m_isSign _ M T L mo p 4 59 hK (by decide) (by decide) (by decide) (by decide) _ ⟨rfl, rfl⟩) ?_
  rintro _ _ ⟨rfl, rfl⟩
  show Wn _ 61 _ (5, [(0, .ref 114), (1, .int (nI 59))], [.int (b2 (tKd T L mo p = 4))], M)
  refine Wn.run (tab := tb_m_sign) rfl 1 (c' := (if ¬ (b2 (tKd T L mo p = 4)) = 0 then 14 else 8, [(0, .ref 114), (1, .int (nI 59))], [], M)) (o := []) rfl trivial ?_
  rw [if_neg (fun h9 => h9 (b2_e0.mpr (by omega)))]
  show Wn _ 61 _ (8, [(0, .ref 114), (1, .int (nI 59))], [], M)
  refine Wn.run (tab := tb_m_sign) rfl 2 (c' := (10, [(0, .ref 114), (1, .int (nI 59))], [.int (nI 1), .ref 114], M)) (o := []) rfl trivial ?_
  refine Wn.callV (p := 114) (n := 2) (ix := 188) (ci := (10)) (PBd M g (nI 1) (nI (tAt T L mo p))) [.int (nI 1)] [] rfl rfl rfl rfl (Nat.le_of_ble_eq_true rfl) (Nat.le_of_ble_eq_true rfl) (c_m_bad _ M g T L mo p hg hK (nI 1)) ?_
  rintro _ M1 ⟨rfl, hg2, hs3, hF4⟩
  show Wn _ 61 _ (13, [(0, .ref 114), (1, .int (nI 59))], [.int (nI 0)], M1)
  have hF5 := fr_tr hF hF4 (by decide)
  exact Wn.zret rfl (Or.inl rfl) ⟨rfl, by rw [hg2]; exact ((pk_un (by decide)).trans pk_us), by rw [hg2]; exact pk_us, by rw [hg2]; exact (Gx_up (Gx_up (Gx_rf _ _) (by decide)) (by decide)), hF5⟩
set_option maxRecDepth 20000 in
theorem c_m_takes_ok (d : Nat) (M : Mm) (g : Nat → Int32) (T : Nat → Nat) (L mo p : Nat) (hg : M.1 114 = g) (hK : TkM M T L mo p) (lo hi : Nat) (hlo : lo < 1000) (hhi : hi < 1000) (hk : tKd T L mo p = 2) (hv : lo ≤ tVl T L p ∧ tVl T L p ≤ hi) : Wn (d + 2) 63 (PTm M g T L mo (tNx T L p) [4, 11, 12, 13, 14, 18] (nI (tVl T L p)) (some (.int (nI 1)))) (0, lv_args 0 [.ref 114, .int (nI lo), .int (nI hi)], [], M) := by
  have hF := fr_rf [114] M
  have hO : ∀ k, ¬ k = 17 → M.2.1 114 k = M.2.1 114 k := fun _ _ => rfl
  have kl := tKd_le T L mo p
  have hL9 := hK.2.2.2.2.2.2.2.2.2.1
  have tv9 : tKd T L mo p = 2 → tVl T L p < 1000 := fun h => tVl_lt (TkM_T hK) h
  refine Wn.run (tab := tb_m_takes) rfl 4 (c' := (if (M.1 114 11) = (nI 2) then 14 else 8, [(0, .ref 114), (1, .int (nI lo)), (2, .int (nI hi))], [], M)) (o := [shp 114 = (0, 10)]) rfl rfl ?_
  rw [if_pos (by rw [hK.2.2.2.1]; exact congrArg nI ((tCd_2 (tKd_le _ _ _ _)).mpr (by omega)))]
  show Wn _ 63 _ (14, [(0, .ref 114), (1, .int (nI lo)), (2, .int (nI hi))], [], M)
  refine Wn.run (tab := tb_m_takes) rfl 4 (c' := (20, [(0, .ref 114), (1, .int (nI lo)), (2, .int (nI hi))], [.int (nI hi), .int (nI lo), .int (M.1 114 14)], M)) (o := [shp 114 = (0, 10)]) rfl rfl ?_
  rw [show (M.1 114 14) = (nI (tVl T L p)) from (hK.2.2.2.2.2.1 (by omega))]
  refine Wn.callS (n := 3) (ix := 194) (fun r0 M0 => r0 = some (.int (b2 (lo ≤ (tVl T L p) ∧ (tVl T L p) ≤ hi))) ∧ M = M0) [.int (nI (tVl T L p)), .int (nI lo), .int (nI hi)] [] rfl rfl rfl (Nat.le_of_ble_eq_true rfl) (Nat.le_of_ble_eq_true rfl) (w_m_isInN _ (tVl T L p) lo hi (by omega) (by omega) (by omega) M _ ⟨rfl, rfl⟩) ?_
  rintro _ _ ⟨rfl, rfl⟩
  show Wn _ 63 _ (23, [(0, .ref 114), (1, .int (nI lo)), (2, .int (nI hi))], [.int (b2 (lo ≤ (tVl T L p) ∧ (tVl T L p) ≤ hi))], M)
  refine Wn.run (tab := tb_m_takes) rfl 1 (c' := (if ¬ (b2 (lo ≤ (tVl T L p) ∧ (tVl T L p) ≤ hi)) = 0 then 32 else 26, [(0, .ref 114), (1, .int (nI lo)), (2, .int (nI hi))], [], M)) (o := []) rfl trivial ?_
  rw [if_pos (b2_n0.mpr (by omega))]
  show Wn _ 63 _ (32, [(0, .ref 114), (1, .int (nI lo)), (2, .int (nI hi))], [], M)
  refine Wn.run (tab := tb_m_takes) rfl 4 (c' := (40, [(0, .ref 114), (1, .int (nI lo)), (2, .int (nI hi))], [], (mI M 114 (upd (M.1 114) 18 (M.1 114 14))))) (o := [shp 114 = (0, 10), shp 114 = (0, 10)]) rfl ⟨rfl, rfl⟩ ?_
  rw [show (M.1 114 14) = (nI (tVl T L p)) from (hK.2.2.2.2.2.1 (by omega))]
  generalize hM2 : (mI M 114 (upd (M.1 114) 18 (nI (tVl T L p)))) = M1
  have ht3 := TkM_up hM2 (by decide) hK
  have hk4 := fI_up hM2 hg
  have ho5 := jo_stI hM2 hO
  have hF6 := fr_sI hF hM2 (by decide)
  show Wn _ 63 _ (40, [(0, .ref 114), (1, .int (nI lo)), (2, .int (nI hi))], [], M1)
  refine Wn.run (tab := tb_m_takes) rfl 1 (c' := (41, [(0, .ref 114), (1, .int (nI lo)), (2, .int (nI hi))], [.ref 114], M1)) (o := []) rfl trivial ?_
  refine Wn.callV (p := 114) (n := 1) (ix := 191) (ci := (10)) (PNx M1 (upd g 18 (nI (tVl T L p))) T L mo (tNx T L p)) [] [] rfl rfl rfl rfl (Nat.le_of_ble_eq_true rfl) (Nat.le_of_ble_eq_true rfl) (c_m_nx _ M1 (upd g 18 (nI (tVl T L p))) T L mo p hk4 ht3 (by omega) (by omega)) ?_
  rintro _ M7 ⟨rfl, ht8, hx9, hj10, hF11⟩
  show Wn _ 63 _ (44, [(0, .ref 114), (1, .int (nI lo)), (2, .int (nI hi))], [], M7)
  obtain ⟨g12, hg13⟩ : ∃ g9, M7.1 114 = g9 := ⟨_, rfl⟩
  have hx14 := hx9
  rw [hg13] at hx14
  have hf15 : g12 18 = (nI (tVl T L p)) := (hx14 18 (by decide)).trans (show (upd g 18 (nI (tVl T L p))) 18 = (nI (tVl T L p)) from pk_us)
  have ho16 := jo_tr ho5 hj10
  have hF17 := fr_tr hF6 hF11 (by decide)
  refine Wn.run (tab := tb_m_takes) rfl 1 (c' := (45, [(0, .ref 114), (1, .int (nI lo)), (2, .int (nI hi))], [.int (nI 1)], M7)) (o := []) rfl trivial ?_
  exact Wn.zret rfl (Or.inr rfl) ⟨rfl, ht8, by rw [hg13]; exact hf15, by rw [hg13]; exact (Gx_tr (Gx_up (Gx_rf _ _) (by decide)) (Gx_mono hx14 (by decide))), ho16, hF17⟩
set_option maxRecDepth 20000 in
theorem c_m_takes_no1 (d : Nat) (M : Mm) (g : Nat → Int32) (T : Nat → Nat) (L mo p : Nat) (hg : M.1 114 = g) (hK : TkM M T L mo p) (lo hi : Nat) (hlo : lo < 1000) (hhi : hi < 1000) (hk : ¬ tKd T L mo p = 2) : Wn (d + 1) 63 (PFm M g 1 (tAt T L mo p) (some (.int (nI 0)))) (0, lv_args 0 [.ref 114, .int (nI lo), .int (nI hi)], [], M) := by
  have hF := fr_rf [114] M
  have hO : ∀ k, ¬ k = 17 → M.2.1 114 k = M.2.1 114 k := fun _ _ => rfl
  have kl := tKd_le T L mo p
  have hL9 := hK.2.2.2.2.2.2.2.2.2.1
  have tv9 : tKd T L mo p = 2 → tVl T L p < 1000 := fun h => tVl_lt (TkM_T hK) h
  refine Wn.run (tab := tb_m_takes) rfl 4 (c' := (if (M.1 114 11) = (nI 2) then 14 else 8, [(0, .ref 114), (1, .int (nI lo)), (2, .int (nI hi))], [], M)) (o := [shp 114 = (0, 10)]) rfl rfl ?_
  rw [if_neg (by rw [hK.2.2.2.1]; intro q9; have q8 := (nI_eq (by have := tCd_le (tKd T L mo p); omega) (by omega)).mp q9; have q7 := (tCd_2 (tKd_le _ _ _ _)).mp q8; omega)]
  show Wn _ 63 _ (8, [(0, .ref 114), (1, .int (nI lo)), (2, .int (nI hi))], [], M)
  refine Wn.run (tab := tb_m_takes) rfl 2 (c' := (10, [(0, .ref 114), (1, .int (nI lo)), (2, .int (nI hi))], [.int (nI 1), .ref 114], M)) (o := []) rfl trivial ?_
  refine Wn.callV (p := 114) (n := 2) (ix := 188) (ci := (10)) (PBd M g (nI 1) (nI (tAt T L mo p))) [.int (nI 1)] [] rfl rfl rfl rfl (Nat.le_of_ble_eq_true rfl) (Nat.le_of_ble_eq_true rfl) (c_m_bad _ M g T L mo p hg hK (nI 1)) ?_
  rintro _ M1 ⟨rfl, hg2, hs3, hF4⟩
  show Wn _ 63 _ (13, [(0, .ref 114), (1, .int (nI lo)), (2, .int (nI hi))], [.int (nI 0)], M1)
  have hF5 := fr_tr hF hF4 (by decide)
  exact Wn.zret rfl (Or.inl rfl) ⟨rfl, by rw [hg2]; exact ((pk_un (by decide)).trans pk_us), by rw [hg2]; exact pk_us, by rw [hg2]; exact (Gx_up (Gx_up (Gx_rf _ _) (by decide)) (by decide)), hF5⟩
set_option maxRecDepth 20000 in
theorem c_m_takes_no2 (d : Nat) (M : Mm) (g : Nat → Int32) (T : Nat → Nat) (L mo p : Nat) (hg : M.1 114 = g) (hK : TkM M T L mo p) (lo hi : Nat) (hlo : lo < 1000) (hhi : hi < 1000) (hk : tKd T L mo p = 2) (hv : ¬ (lo ≤ tVl T L p ∧ tVl T L p ≤ hi)) : Wn (d + 1) 63 (PFm M g 2 (tAt T L mo p) (some (.int (nI 0)))) (0, lv_args 0 [.ref 114, .int (nI lo), .int (nI hi)], [], M) := by
  have hF := fr_rf [114] M
  have hO : ∀ k, ¬ k = 17 → M.2.1 114 k = M.2.1 114 k := fun _ _ => rfl
  have kl := tKd_le T L mo p
  have hL9 := hK.2.2.2.2.2.2.2.2.2.1
  have tv9 : tKd T L mo p = 2 → tVl T L p < 1000 := fun h => tVl_lt (TkM_T hK) h
  refine Wn.run (tab := tb_m_takes) rfl 4 (c' := (if (M.1 114 11) = (nI 2) then 14 else 8, [(0, .ref 114), (1, .int (nI lo)), (2, .int (nI hi))], [], M)) (o := [shp 114 = (0, 10)]) rfl rfl ?_
  rw [if_pos (by rw [hK.2.2.2.1]; exact congrArg nI ((tCd_2 (tKd_le _ _ _ _)).mpr (by omega)))]
  show Wn _ 63 _ (14, [(0, .ref 114), (1, .int (nI lo)), (2, .int (nI hi))], [], M)
  refine Wn.run (tab := tb_m_takes) rfl 4 (c' := (20, [(0, .ref 114), (1, .int (nI lo)), (2, .int (nI hi))], [.int (nI hi), .int (nI lo), .int (M.1 114 14)], M)) (o := [shp 114 = (0, 10)]) rfl rfl ?_
  rw [show (M.1 114 14) = (nI (tVl T L p)) from (hK.2.2.2.2.2.1 (by omega))]
  refine Wn.callS (n := 3) (ix := 194) (fun r0 M0 => r0 = some (.int (b2 (lo ≤ (tVl T L p) ∧ (tVl T L p) ≤ hi))) ∧ M = M0) [.int (nI (tVl T L p)), .int (nI lo), .int (nI hi)] [] rfl rfl rfl (Nat.le_of_ble_eq_true rfl) (Nat.le_of_ble_eq_true rfl) (w_m_isInN _ (tVl T L p) lo hi (by omega) (by omega) (by omega) M _ ⟨rfl, rfl⟩) ?_
  rintro _ _ ⟨rfl, rfl⟩
  show Wn _ 63 _ (23, [(0, .ref 114), (1, .int (nI lo)), (2, .int (nI hi))], [.int (b2 (lo ≤ (tVl T L p) ∧ (tVl T L p) ≤ hi))], M)
  refine Wn.run (tab := tb_m_takes) rfl 1 (c' := (if ¬ (b2 (lo ≤ (tVl T L p) ∧ (tVl T L p) ≤ hi)) = 0 then 32 else 26, [(0, .ref 114), (1, .int (nI lo)), (2, .int (nI hi))], [], M)) (o := []) rfl trivial ?_
  rw [if_neg (fun h9 => h9 (b2_e0.mpr (by omega)))]
  show Wn _ 63 _ (26, [(0, .ref 114), (1, .int (nI lo)), (2, .int (nI hi))], [], M)
  refine Wn.run (tab := tb_m_takes) rfl 2 (c' := (28, [(0, .ref 114), (1, .int (nI lo)), (2, .int (nI hi))], [.int (nI 2), .ref 114], M)) (o := []) rfl trivial ?_
  refine Wn.callV (p := 114) (n := 2) (ix := 188) (ci := (10)) (PBd M g (nI 2) (nI (tAt T L mo p))) [.int (nI 2)] [] rfl rfl rfl rfl (Nat.le_of_ble_eq_true rfl) (Nat.le_of_ble_eq_true rfl) (c_m_bad _ M g T L mo p hg hK (nI 2)) ?_
  rintro _ M1 ⟨rfl, hg2, hs3, hF4⟩
  show Wn _ 63 _ (31, [(0, .ref 114), (1, .int (nI lo)), (2, .int (nI hi))], [.int (nI 0)], M1)
  have hF5 := fr_tr hF hF4 (by decide)
  exact Wn.zret rfl (Or.inl rfl) ⟨rfl, by rw [hg2]; exact ((pk_un (by decide)).trans pk_us), by rw [hg2]; exact pk_us, by rw [hg2]; exact (Gx_up (Gx_up (Gx_rf _ _) (by decide)) (by decide)), hF5⟩
