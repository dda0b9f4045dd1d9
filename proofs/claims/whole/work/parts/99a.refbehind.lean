/-! The reference's behind; its sentence. -/
theorem nt_len (S : List Nat) : ∀ st, (ntS S st).2.2.1 + (ntS S st).1.length = st.2.1 + S.length := by
  induction S with
  | nil => intro st; rfl
  | cons x S ih =>
    intro st
    unfold ntS
    by_cases c : x = 27
    · rw [if_pos c, ih]; show st.2.1 + 1 + S.length = st.2.1 + (S.length + 1); omega
    · rw [if_neg c]
theorem jn_len (tl : Nat) (S : List Nat) : ∀ st, (jnS tl S st).2.2.1 + (jnS tl S st).1.length = st.2.1 + S.length := by
  induction S with
  | nil => intro st; rfl
  | cons x S ih =>
    intro st
    unfold jnS
    by_cases c : x = 26 ∨ (x = 25 ∧ tl = 25)
    · rw [if_pos c, ih]; show st.2.1 + 1 + S.length = st.2.1 + (S.length + 1); omega
    · rw [if_neg c]
theorem nt_cn (S : List Nat) : ∀ st, cnS (ntS S st).1 ≤ cnS S := by
  induction S with
  | nil => intro st; exact Nat.le_refl _
  | cons x S ih =>
    intro st
    unfold ntS
    by_cases c : x = 27
    · rw [if_pos c, cnS_c]; have := ih (sAdd 27 0 0 st); omega
    · rw [if_neg c]; exact Nat.le_refl _
theorem jn_cn (tl : Nat) (S : List Nat) : ∀ st, cnS (jnS tl S st).1 ≤ cnS S := by
  induction S with
  | nil => intro st; exact Nat.le_refl _
  | cons x S ih =>
    intro st
    unfold jnS
    by_cases c : x = 26 ∨ (x = 25 ∧ tl = 25)
    · rw [if_pos c, cnS_c]; have := ih (sAdd x 0 0 st); omega
    · rw [if_neg c]; exact Nat.le_refl _
theorem jn_hd {tl : Nat} (htl : tl = 25) {S : List Nat} : ∀ {st : Sst} {x : Nat} {S3 : List Nat}, (jnS tl S st).1 = x :: S3 → ¬ x = 26 ∧ ¬ x = 25 := by
  induction S with
  | nil => intro st x S3 h; cases h
  | cons y S ih =>
    intro st x S3 h
    unfold jnS at h
    by_cases c : y = 26 ∨ (y = 25 ∧ tl = 25)
    · rw [if_pos c] at h; exact ih h
    · rw [if_neg c] at h; cases h; omega
/-- the bounds of a place -/
def CB (c : Cst) : Prop := c.2.2.2.1 + c.2.1.length + (if c.1 = true then 1 else 0) ≤ 2 * c.2.2.2.2.1 ∧ c.2.2.2.2.1 ≤ 20 ∧ cnS c.2.1 ≤ 8
theorem leafS_n {T : Nat → Nat} {L mo : Nat} {ν : Nat → Int64} {np c : Nat} {s1 s2 : Sst} (h : leafS T L mo ν np c s1 = .inr s2) : s2.2.1 = s1.2.1 + 1 ∧ s2.2.2.1 = s1.2.2.1 := by
  unfold leafS at h
  by_cases c1 : c = 28 ∨ c = 29
  · rw [if_pos c1] at h; cases h; exact ⟨rfl, rfl⟩
  rw [if_neg c1] at h
  by_cases c2 : c = 30 ∨ c = 31
  · rw [if_pos c2] at h
    by_cases c3 : ¬ tKd T L mo s1.1 = 3
    · rw [if_pos c3] at h; cases h
    rw [if_neg c3] at h
    cases hq : pcl ν (tNm T L s1.1) np with
    | none => rw [hq] at h; cases h
    | some q => rw [hq] at h; cases h; exact ⟨rfl, rfl⟩
  rw [if_neg c2] at h
  by_cases c3 : ¬ (5 ≤ tKd T L mo s1.1 ∧ tKd T L mo s1.1 ≤ 7)
  · rw [if_pos c3] at h; cases h
  rw [if_neg c3] at h
  cases hq : tkN T L mo (tNx T L s1.1) 0 999 with
  | inl e => rw [hq] at h; cases h
  | inr v => obtain ⟨x, p3⟩ := v; rw [hq] at h; cases h; exact ⟨rfl, rfl⟩
theorem opS_cb {T : Nat → Nat} {L mo : Nat} {ν : Nat → Int64} {np : Nat} {S : List Nat} {st : Sst} {c2 : Cst} (h : CB (false, S, st)) (hq : opS T L mo ν np S st = .inr c2) : CB c2 := by
  obtain ⟨h1, h2, h3⟩ := h
  have h1 : st.2.1 + S.length + 0 ≤ 2 * st.2.2.1 := h1
  have h2 : st.2.2.1 ≤ 20 := h2
  have h3 : cnS S ≤ 8 := h3
  unfold opS at hq
  by_cases c1 : ¬ begK (tKd T L mo st.1)
  · rw [if_pos c1] at hq; cases hq
  rw [if_neg c1] at hq
  by_cases c2 : st.2.2.1 = 20 ∨ 8 ≤ cnS S
  · rw [if_pos c2] at hq; cases hq
  rw [if_neg c2] at hq
  by_cases c3 : tKd T L mo st.1 = 27 ∨ tKd T L mo st.1 = 8
  · rw [if_pos c3] at hq; cases hq
    refine ⟨?_, ?_, ?_⟩
    · show st.2.1 + (S.length + 1) + 0 ≤ 2 * (st.2.2.1 + 1); omega
    · show st.2.2.1 + 1 ≤ 20; omega
    · show cnS (tKd T L mo st.1 :: S) ≤ 8; rw [cnS_c, if_pos c3]; omega
  rw [if_neg c3] at hq
  cases hl : leafS T L mo ν np (tKd T L mo st.1) (tNx T L st.1, st.2.1, st.2.2.1 + 1, st.2.2.2) with
  | inl e => rw [hl] at hq; cases hq
  | inr s2 =>
    rw [hl] at hq; cases hq
    have ln := leafS_n hl
    dsimp only at ln
    refine ⟨?_, ?_, h3⟩
    · show s2.2.1 + S.length + 1 ≤ 2 * s2.2.2.1; omega
    · show s2.2.2.1 ≤ 20; omega
theorem bhS_cb {T : Nat → Nat} {L mo : Nat} {S : List Nat} {st : Sst} {c2 : Cst} (h : CB (true, S, st)) (hq : bhS T L mo S st = .inr c2) : CB c2 := by
  obtain ⟨h1, h2, h3⟩ := h
  have h1 : st.2.1 + S.length + 1 ≤ 2 * st.2.2.1 := h1
  have h2 : st.2.2.1 ≤ 20 := h2
  have h3 : cnS S ≤ 8 := h3
  have n1 := nt_len S st
  have n2 := nt_cn S st
  have n3 := (ntS_p S st).2
  unfold bhS at hq
  by_cases c1 : tKd T L mo st.1 = 26 ∨ tKd T L mo st.1 = 25
  · rw [if_pos c1] at hq; cases hq
    have j1 := jn_len (tKd T L mo st.1) (ntS S st).1 (ntS S st).2
    have j2 := jn_cn (tKd T L mo st.1) (ntS S st).1 (ntS S st).2
    have j3 := (jnS_p (tKd T L mo st.1) (ntS S st).1 (ntS S st).2).2
    refine ⟨?_, ?_, ?_⟩
    · show (jnS (tKd T L mo st.1) (ntS S st).1 (ntS S st).2).2.2.1 + ((jnS (tKd T L mo st.1) (ntS S st).1 (ntS S st).2).1.length + 1) + 0 ≤ 2 * (jnS (tKd T L mo st.1) (ntS S st).1 (ntS S st).2).2.2.2.1; omega
    · show (jnS (tKd T L mo st.1) (ntS S st).1 (ntS S st).2).2.2.2.1 ≤ 20; omega
    · show cnS (tKd T L mo st.1 :: (jnS (tKd T L mo st.1) (ntS S st).1 (ntS S st).2).1) ≤ 8; rw [cnS_c, if_neg (by omega)]; omega
  rw [if_neg c1] at hq
  by_cases c2 : ¬ tKd T L mo st.1 = 9 ∨ (jnS 25 (ntS S st).1 (ntS S st).2).1 = []
  · rw [if_pos c2] at hq; cases hq
  rw [if_neg c2] at hq; cases hq
  have j1 := jn_len 25 (ntS S st).1 (ntS S st).2
  have j2 := jn_cn 25 (ntS S st).1 (ntS S st).2
  have j3 := (jnS_p 25 (ntS S st).1 (ntS S st).2).2
  cases hj : (jnS 25 (ntS S st).1 (ntS S st).2).1 with
  | nil => exact absurd (Or.inr hj) c2
  | cons x S3 =>
    rw [hj] at j1 j2
    rw [cnS_c] at j2
    have j1 : (jnS 25 (ntS S st).1 (ntS S st).2).2.2.1 + (S3.length + 1) = _ := j1
    refine ⟨?_, ?_, ?_⟩
    · show (jnS 25 (ntS S st).1 (ntS S st).2).2.2.1 + S3.length + 1 ≤ 2 * (jnS 25 (ntS S st).1 (ntS S st).2).2.2.2.1; omega
    · show (jnS 25 (ntS S st).1 (ntS S st).2).2.2.2.1 ≤ 20; omega
    · show cnS S3 ≤ 8; omega
set_option maxRecDepth 20000 in
theorem c_m_behind (d : Nat) (M : Mm) (T : Nat → Nat) (L mo : Nat) (S : List Nat) (st : Sst) (hK : TkM M T L mo st.1) (hs : SM M st) (hk : SK M S) (hw : M.1 114 44 = nI 1) (hb : CB (true, S, st)) (h0 : ¬ tKd T L mo st.1 = 0) : Wn (d + 4) 143 (POp9 M T L mo (bhS T L mo S st)) (0, lv_args 0 [.ref 114], [], M) := by
  have b1 : st.2.1 + S.length + 1 ≤ 2 * st.2.2.1 := hb.1
  have b2' : st.2.2.1 ≤ 20 := hb.2.1
  have kl := tKd_le T L mo st.1
  have n1 := nt_len S st
  have n3 := (ntS_p S st).2
  have n0 := (ntS_p S st).1
  refine Wn.run (tab := tb_m_behind) rfl 1 (c' := (1, [(0, .ref 114)], [.ref 114], M)) (o := []) rfl trivial ?_
  refine Wn.callV (p := 114) (n := 1) (ix := 447) (ci := (10)) (PNt M (ntS S st).1 (ntS S st).2 [40, 42, 43]) [] [] rfl rfl rfl rfl (Nat.le_of_ble_eq_true rfl) (Nat.le_of_ble_eq_true rfl) (c_m_nots (d + 2) S st M hs hk (by omega)) ?_
  rintro _ M1 ⟨rfl, p1, p2, p3, p4, p5⟩
  show Wn _ 143 _ (4, [(0, .ref 114)], [], M1)
  have K1 : TkM M1 T L mo st.1 := TkM_gx p3 (by decide) (by rw [p4]) ((p5 115 (by decide)).1) hK
  have pst : ∀ s9 : Sst, s9.1 = st.1 → s9 = (st.1, s9.2) := fun s9 h => by rw [← h]
  refine Wn.run (tab := tb_m_behind) rfl 2 (c' := (8, [(0, .ref 114)], [.long (6385252 : Int64), .ref 114], M1)) (o := []) rfl trivial ?_
  refine Wn.callV (p := 114) (n := 2) (ix := 219) (ci := (10)) (fun r0 M0 => r0 = some (.int (b2 (tKd T L mo st.1 = 26))) ∧ M1 = M0) [.long (6385252 : Int64)] [] rfl rfl rfl rfl (Nat.le_of_ble_eq_true rfl) (Nat.le_of_ble_eq_true rfl) (w_m_isWord _ M1 T L mo st.1 26 K1 (by decide) (by decide) _ (by decide) _ ⟨rfl, rfl⟩) ?_
  rintro _ _ ⟨rfl, rfl⟩
  show Wn _ 143 _ (11, [(0, .ref 114)], [.int (b2 (tKd T L mo st.1 = 26))], M1)
  refine Wn.run (tab := tb_m_behind) rfl 1 (c' := (if ¬ (b2 (tKd T L mo st.1 = 26)) = 0 then 24 else 14, [(0, .ref 114)], [], M1)) (o := []) rfl trivial ?_
  have word : ∀ (a : Nat) (hka : tKd T L mo st.1 = a) (ha : a = 25 ∨ a = 26), Wn (d + 4) 143 (POp9 M T L mo (bhS T L mo S st)) (42, [(0, .ref 114)], [.int (nI (cdW a)), .ref 114], M1) := by
    intro a hka ha
    have j1 := jn_len a (ntS S st).1 (ntS S st).2
    have j3 := (jnS_p a (ntS S st).1 (ntS S st).2).2
    have j0 := (jnS_p a (ntS S st).1 (ntS S st).2).1
    have e : bhS T L mo S st = .inr (false, a :: (jnS a (ntS S st).1 (ntS S st).2).1, (tNx T L st.1, (jnS a (ntS S st).1 (ntS S st).2).2.2)) := by unfold bhS; rw [hka, if_pos (by omega)]
    rw [e]
    generalize hjn : jnS a (ntS S st).1 (ntS S st).2 = jn at *
    obtain ⟨S2, st2⟩ := jn
    dsimp only at j1 j3 j0 ⊢
    refine Wn.callV (p := 114) (n := 2) (ix := 450) (ci := (10)) (PNt M1 S2 st2 [40, 42]) [.int (nI (cdW a))] [] rfl rfl rfl rfl (Nat.le_of_ble_eq_true rfl) (Nat.le_of_ble_eq_true rfl) (by have q9 := c_m_joins (d + 2) a ha (ntS S st).1 (ntS S st).2 M1 p1 p2 (by omega); rw [hjn] at q9; exact q9) ?_
    rintro _ M2 ⟨rfl, q1, q2, q3, q4, q5⟩
    show Wn _ 143 _ (45, [(0, .ref 114)], [], M2)
    have K2 : TkM M2 T L mo st.1 := TkM_gx q3 (by decide) (by rw [q4]) ((q5 115 (by decide)).1) K1
    have e42 : M2.1 114 42 = nI S2.length := q2.1
    have kz : aok shp 129 0 (M2.1 114 42) := ak1 (n := 45) rfl rfl e42 (by omega)
    refine Wn.run (tab := tb_m_behind) rfl 6 (c' := (57, [(0, .ref 114)], [.long (6385252 : Int64), .ref 114, .int (M2.1 114 42), .ref 129], M2)) (o := [shp 114 = (0, 10), shp 114 = (0, 10)]) rfl ⟨rfl, rfl⟩ ?_
    refine Wn.callV (p := 114) (n := 2) (ix := 219) (ci := (10)) (fun r0 M0 => r0 = some (.int (b2 (tKd T L mo st.1 = 26))) ∧ M2 = M0) [.long (6385252 : Int64)] [.int (M2.1 114 42), .ref 129] rfl rfl rfl rfl (Nat.le_of_ble_eq_true rfl) (Nat.le_of_ble_eq_true rfl) (w_m_isWord _ M2 T L mo st.1 26 K2 (by decide) (by decide) _ (by decide) _ ⟨rfl, rfl⟩) ?_
    rintro _ _ ⟨rfl, rfl⟩
    show Wn _ 143 _ (60, [(0, .ref 114)], [.int (b2 (tKd T L mo st.1 = 26)), .int (M2.1 114 42), .ref 129], M2)
    refine Wn.run (tab := tb_m_behind) rfl 1 (c' := (if (b2 (tKd T L mo st.1 = 26)) = 0 then 68 else 63, [(0, .ref 114)], [.int (M2.1 114 42), .ref 129], M2)) (o := []) rfl trivial ?_
    have z70 : Wn (d + 4) 143 (POp9 M T L mo (.inr (false, a :: S2, (tNx T L st.1, st2.2)))) (70, [(0, .ref 114)], [.int (nI (cdW a)), .int (M2.1 114 42), .ref 129], M2) := by
      refine Wn.run (tab := tb_m_behind) rfl 1 (c' := (71, [(0, .ref 114)], [], (mI M2 129 (upd (M2.1 129) ((M2.1 114 42)).toNatClampNeg (nI (cdW a)))))) (o := [aok shp 129 0 (M2.1 114 42)]) rfl kz ?_
      rw [show ((M2.1 114 42)).toNatClampNeg = S2.length from cl1 e42 (by omega)]
      generalize hM3 : (mI M2 129 (upd (M2.1 129) S2.length (nI (cdW a)))) = M3
      have f3 := fr_1I hM3
      refine Wn.run (tab := tb_m_behind) rfl 6 (c' := (81, [(0, .ref 114)], [], (mI M3 114 (upd (M3.1 114) 42 ((M3.1 114 42) + (nI 1)))))) (o := [shp 114 = (0, 10), shp 114 = (0, 10)]) rfl ⟨rfl, rfl⟩ ?_
      rw [show M3.1 114 42 = nI S2.length from by rw [(f3 114 (by decide)).1]; exact e42, nI_add]
      generalize hM4 : (mI M3 114 (upd (M3.1 114) 42 (nI (S2.length + 1)))) = M4
      have f4 := fr_1I hM4
      have g4 : M4.1 114 = upd (M2.1 114) 42 (nI (S2.length + 1)) := by rw [mI_eq hM4, (f3 114 (by decide)).1]
      refine Wn.run (tab := tb_m_behind) rfl 3 (c' := (86, [(0, .ref 114)], [], (mI M4 114 (upd (M4.1 114) 44 (nI 0))))) (o := [shp 114 = (0, 10), is01 (nI 0)]) rfl ⟨rfl, (Or.inl rfl)⟩ ?_
      generalize hM5 : (mI M4 114 (upd (M4.1 114) 44 (nI 0))) = M5
      have f5 := fr_1I hM5
      have g5 : M5.1 114 = upd (upd (M2.1 114) 42 (nI (S2.length + 1))) 44 (nI 0) := by rw [mI_eq hM5, g4]
      have F5 : Fr [114, 129] M2 M5 := fr_tr (fr_tr (fr_up f3 (by decide)) f4 (by decide)) f5 (by decide)
      have x5 : Gx [42, 44] (M2.1 114) (M5.1 114) := by rw [g5]; exact Gx_up (Gx_up (Gx_rf _ _) (by decide)) (by decide)
      have K5 : TkM M5 T L mo st.1 := TkM_gx x5 (by decide) (by rw [← hM5, ← hM4, ← hM3]; rfl) ((F5 115 (by decide)).1) K2
      refine Wn.run (tab := tb_m_behind) rfl 1 (c' := (87, [(0, .ref 114)], [.ref 114], M5)) (o := []) rfl trivial ?_
      refine Wn.callV (p := 114) (n := 1) (ix := 191) (ci := (10)) (PNx M5 (M5.1 114) T L mo (tNx T L st.1)) [] [] rfl rfl rfl rfl (Nat.le_of_ble_eq_true rfl) (Nat.le_of_ble_eq_true rfl) (c_m_nx (d + 2) M5 _ T L mo st.1 rfl K5 (by omega) (by omega)) ?_
      rintro r0 P ⟨rfl, l1, l3, l4, l5⟩
      show Wn _ 143 _ (90, [(0, .ref 114)], [], P)
      refine Wn.run (tab := tb_m_behind) rfl 1 (c' := (91, [(0, .ref 114)], [.int (nI 1)], P)) (o := []) rfl trivial ?_
      have cx : cnS (a :: S2) = cnS S2 := by rw [cnS_c, if_neg (by omega)]; omega
      refine Wn.zret rfl (Or.inr rfl) ⟨Gx_tr2 (Gx_tr2 (Gx_tr2 (Gx_sub p3 (by decide)) q3 (by decide)) x5 (by decide)) l3 (by decide), fr_tr (fr_tr (fr_tr (fr_up p5 (by decide)) q5 (by decide)) F5 (by decide)) l5 (by decide), rfl, l1, ⟨?_, ?_, ?_⟩, ⟨?_, ?_, ⟨?_, ?_⟩, ⟨by omega, q2.2.2.2⟩⟩, ?_, ?_⟩
      · exact (l3 40 (by decide)).trans ((x5 40 (by decide)).trans q1.1)
      · exact (l3 41 (by decide)).trans ((x5 41 (by decide)).trans q1.2.1)
      · rw [(l5 118 (by decide)).1, (F5 118 (by decide)).1]; exact q1.2.2
      · rw [l3 42 (by decide), g5, pk_un (by decide), pk_us]; rfl
      · rw [l3 43 (by decide), g5, pk_un (by decide), pk_un (by decide), cx]; exact q2.2.1
      · rw [(l5 129 (by decide)).1, (f5 129 (by decide)).1, (f4 129 (by decide)).1, mI_eq hM3, pk_us]
      · rw [(l5 129 (by decide)).1, (f5 129 (by decide)).1, (f4 129 (by decide)).1, mI_eq hM3]
        exact stk_up q2.2.2.1 (Nat.le_refl _)
      · rw [l3 44 (by decide), g5, pk_us]; rfl
      · exact (l3 15 (by decide)).trans ((x5 15 (by decide)).trans ((q3 15 (by decide)).trans (p3 15 (by decide))))
    rcases ha with ha | ha
    · rw [if_pos (b2_e0.mpr (by omega))]
      refine Wn.run (tab := tb_m_behind) rfl 1 (c' := (70, [(0, .ref 114)], [.int (nI 22), .int (M2.1 114 42), .ref 129], M2)) (o := []) rfl trivial ?_
      rw [ha] at z70 ⊢
      exact z70
    · rw [if_neg (b2_n0.mpr (by omega))]
      refine Wn.run (tab := tb_m_behind) rfl 2 (c' := (70, [(0, .ref 114)], [.int (nI 21), .int (M2.1 114 42), .ref 129], M2)) (o := []) rfl trivial ?_
      rw [ha] at z70 ⊢
      exact z70
  have z24 : tKd T L mo st.1 = 26 ∨ tKd T L mo st.1 = 25 → Wn (d + 4) 143 (POp9 M T L mo (bhS T L mo S st)) (24, [(0, .ref 114)], [], M1) := by
    intro hc
    refine Wn.run (tab := tb_m_behind) rfl 3 (c' := (29, [(0, .ref 114)], [.long (6385252 : Int64), .ref 114, .ref 114], M1)) (o := []) rfl trivial ?_
    refine Wn.callV (p := 114) (n := 2) (ix := 219) (ci := (10)) (fun r0 M0 => r0 = some (.int (b2 (tKd T L mo st.1 = 26))) ∧ M1 = M0) [.long (6385252 : Int64)] [.ref 114] rfl rfl rfl rfl (Nat.le_of_ble_eq_true rfl) (Nat.le_of_ble_eq_true rfl) (w_m_isWord _ M1 T L mo st.1 26 K1 (by decide) (by decide) _ (by decide) _ ⟨rfl, rfl⟩) ?_
    rintro _ _ ⟨rfl, rfl⟩
    show Wn _ 143 _ (32, [(0, .ref 114)], [.int (b2 (tKd T L mo st.1 = 26)), .ref 114], M1)
    refine Wn.run (tab := tb_m_behind) rfl 1 (c' := (if (b2 (tKd T L mo st.1 = 26)) = 0 then 40 else 35, [(0, .ref 114)], [.ref 114], M1)) (o := []) rfl trivial ?_
    by_cases c6 : tKd T L mo st.1 = 26
    · rw [if_neg (b2_n0.mpr c6)]
      refine Wn.run (tab := tb_m_behind) rfl 2 (c' := (42, [(0, .ref 114)], [.int (nI 21), .ref 114], M1)) (o := []) rfl trivial ?_
      exact word 26 c6 (Or.inr rfl)
    · rw [if_pos (b2_e0.mpr c6)]
      refine Wn.run (tab := tb_m_behind) rfl 1 (c' := (42, [(0, .ref 114)], [.int (nI 22), .ref 114], M1)) (o := []) rfl trivial ?_
      exact word 25 (by omega) (Or.inl rfl)
  by_cases c6 : tKd T L mo st.1 = 26
  · rw [if_pos (b2_n0.mpr c6)]
    exact z24 (Or.inl c6)
  rw [if_neg (fun q => q (b2_e0.mpr c6))]
  refine Wn.run (tab := tb_m_behind) rfl 2 (c' := (18, [(0, .ref 114)], [.long (28530 : Int64), .ref 114], M1)) (o := []) rfl trivial ?_
  refine Wn.callV (p := 114) (n := 2) (ix := 219) (ci := (10)) (fun r0 M0 => r0 = some (.int (b2 (tKd T L mo st.1 = 25))) ∧ M1 = M0) [.long (28530 : Int64)] [] rfl rfl rfl rfl (Nat.le_of_ble_eq_true rfl) (Nat.le_of_ble_eq_true rfl) (w_m_isWord _ M1 T L mo st.1 25 K1 (by decide) (by decide) _ (by decide) _ ⟨rfl, rfl⟩) ?_
  rintro _ _ ⟨rfl, rfl⟩
  show Wn _ 143 _ (21, [(0, .ref 114)], [.int (b2 (tKd T L mo st.1 = 25))], M1)
  refine Wn.run (tab := tb_m_behind) rfl 1 (c' := (if (b2 (tKd T L mo st.1 = 25)) = 0 then 92 else 24, [(0, .ref 114)], [], M1)) (o := []) rfl trivial ?_
  by_cases c5 : tKd T L mo st.1 = 25
  · rw [if_neg (b2_n0.mpr c5)]
    exact z24 (Or.inr c5)
  rw [if_pos (b2_e0.mpr c5)]
  have c65 : ¬ (tKd T L mo st.1 = 26 ∨ tKd T L mo st.1 = 25) := fun q => q.elim c6 c5
  have j1 := jn_len 25 (ntS S st).1 (ntS S st).2
  have j3 := (jnS_p 25 (ntS S st).1 (ntS S st).2).2
  have hd9 := fun x S3 => jn_hd (tl := 25) rfl (S := (ntS S st).1) (st := (ntS S st).2) (x := x) (S3 := S3)
  have ee : bhS T L mo S st = if ¬ tKd T L mo st.1 = 9 ∨ (jnS 25 (ntS S st).1 (ntS S st).2).1 = [] then .inl (1, tAt T L mo st.1) else .inr (true, (jnS 25 (ntS S st).1 (ntS S st).2).1.tail, (tNx T L st.1, (jnS 25 (ntS S st).1 (ntS S st).2).2.2)) := by unfold bhS; rw [if_neg c65]
  rw [ee]
  generalize hjn : jnS 25 (ntS S st).1 (ntS S st).2 = jn at *
  obtain ⟨S2, st2⟩ := jn
  dsimp only at j1 j3 hd9 ⊢
  refine Wn.run (tab := tb_m_behind) rfl 2 (c' := (95, [(0, .ref 114)], [.int (nI 22), .ref 114], M1)) (o := []) rfl trivial ?_
  refine Wn.callV (p := 114) (n := 2) (ix := 450) (ci := (10)) (PNt M1 S2 st2 [40, 42]) [.int (nI 22)] [] rfl rfl rfl rfl (Nat.le_of_ble_eq_true rfl) (Nat.le_of_ble_eq_true rfl) (by have q9 := c_m_joins (d + 2) 25 (Or.inl rfl) (ntS S st).1 (ntS S st).2 M1 p1 p2 (by omega); rw [hjn] at q9; exact q9) ?_
  rintro _ M2 ⟨rfl, q1, q2, q3, q4, q5⟩
  show Wn _ 143 _ (98, [(0, .ref 114)], [], M2)
  have K2 : TkM M2 T L mo st.1 := TkM_gx q3 (by decide) (by rw [q4]) ((q5 115 (by decide)).1) K1
  have e42 : M2.1 114 42 = nI S2.length := q2.1
  refine Wn.run (tab := tb_m_behind) rfl 2 (c' := (101, [(0, .ref 114)], [.int (nI 41), .ref 114], M2)) (o := []) rfl trivial ?_
  refine Wn.callV (p := 114) (n := 2) (ix := 185) (ci := (10)) (fun r0 M0 => r0 = some (.int (b2 (tKd T L mo st.1 = 9))) ∧ M2 = M0) [.int (nI 41)] [] rfl rfl rfl rfl (Nat.le_of_ble_eq_true rfl) (Nat.le_of_ble_eq_true rfl) (w_m_isSign _ M2 T L mo st.1 9 41 K2 (by decide) (by decide) (by decide) (by decide) _ ⟨rfl, rfl⟩) ?_
  rintro _ _ ⟨rfl, rfl⟩
  show Wn _ 143 _ (104, [(0, .ref 114)], [.int (b2 (tKd T L mo st.1 = 9))], M2)
  refine Wn.run (tab := tb_m_behind) rfl 1 (c' := (if (b2 (tKd T L mo st.1 = 9)) = 0 then 114 else 107, [(0, .ref 114)], [], M2)) (o := []) rfl trivial ?_
  have bad : Wn (d + 4) 143 (POp9 M T L mo (.inl (1, tAt T L mo st.1))) (114, [(0, .ref 114)], [], M2) := by
    refine Wn.run (tab := tb_m_behind) rfl 2 (c' := (116, [(0, .ref 114)], [.int (nI 1), .ref 114], M2)) (o := []) rfl trivial ?_
    refine Wn.callV (p := 114) (n := 2) (ix := 188) (ci := (10)) (PBd M2 (M2.1 114) (nI 1) (nI (tAt T L mo st.1))) [.int (nI 1)] [] rfl rfl rfl rfl (Nat.le_of_ble_eq_true rfl) (Nat.le_of_ble_eq_true rfl) (c_m_bad _ M2 _ T L mo st.1 rfl K2 (nI 1)) ?_
    rintro r0 M3 ⟨rfl, r1, r2, r3⟩
    exact Wn.zret rfl (Or.inl rfl) ⟨by rw [r1]; exact Gx_up (Gx_up (Gx_tr2 (Gx_sub p3 (by decide)) q3 (by decide)) (by decide)) (by decide), fr_tr (fr_tr (fr_up p5 (by decide)) q5 (by decide)) r3 (by decide), rfl, by rw [r1, pk_un (by decide), pk_us], by rw [r1, pk_us]⟩
  by_cases c9 : tKd T L mo st.1 = 9
  · rw [if_neg (b2_n0.mpr c9)]
    refine Wn.run (tab := tb_m_behind) rfl 3 (c' := (if ¬ (M2.1 114 42) = 0 then 120 else 114, [(0, .ref 114)], [], M2)) (o := [shp 114 = (0, 10)]) rfl rfl ?_
    rw [e42]
    cases S2 with
    | nil =>
      rw [if_neg (show ¬ ¬ nI ([] : List Nat).length = 0 by decide), if_pos (Or.inr rfl)]
      exact bad
    | cons x S3 =>
      have hx := hd9 x S3 rfl
      have j1 : st2.2.1 + (S3.length + 1) = _ := j1
      have wx := q2.2.2.2.1
      rw [if_pos (show ¬ nI (x :: S3).length = 0 from mt (n_eq rfl nI_0.symm (by show S3.length + 1 < _; omega) (by omega)).mp (by show ¬ S3.length + 1 = 0; omega)), if_neg (fun q => q.elim (fun q => q c9) (fun q => by cases q))]
      have e42' : (M2.1 114 42) - (nI 1) = nI S3.length := by rw [show M2.1 114 42 = nI (S3.length + 1) from e42]; exact n_sub rfl rfl (by omega)
      refine Wn.run (tab := tb_m_behind) rfl 6 (c' := (130, [(0, .ref 114)], [], (mI M2 114 (upd (M2.1 114) 42 ((M2.1 114 42) - (nI 1)))))) (o := [shp 114 = (0, 10), shp 114 = (0, 10)]) rfl ⟨rfl, rfl⟩ ?_
      rw [e42']
      generalize hM3 : (mI M2 114 (upd (M2.1 114) 42 (nI S3.length))) = M3
      have e43 : M3.1 114 43 = nI (1 + (cnS S3 + 1)) := by
        rw [mI_eq hM3, pk_un (by decide)]
        have q := q2.2.1
        rw [cnS_c, if_pos (by omega)] at q
        exact q
      have e5 : (M3.1 114 43) - (nI 1) = nI (1 + cnS S3) := by rw [e43]; exact (n_sub rfl rfl (by omega)).trans (congrArg nI (by omega))
      refine Wn.run (tab := tb_m_behind) rfl 6 (c' := (140, [(0, .ref 114)], [], (mI M3 114 (upd (M3.1 114) 43 ((M3.1 114 43) - (nI 1)))))) (o := [shp 114 = (0, 10), shp 114 = (0, 10)]) rfl ⟨rfl, rfl⟩ ?_
      rw [e5]
      generalize hM4 : (mI M3 114 (upd (M3.1 114) 43 (nI (1 + cnS S3)))) = M4
      have g4 : M4.1 114 = upd (upd (M2.1 114) 42 (nI S3.length)) 43 (nI (1 + cnS S3)) := by rw [mI_eq hM4, mI_eq hM3]
      have F4 : Fr [114] M2 M4 := fr_tr (fr_1I hM3) (fr_1I hM4) (by decide)
      have x4 : Gx [42, 43] (M2.1 114) (M4.1 114) := by rw [g4]; exact Gx_up (Gx_up (Gx_rf _ _) (by decide)) (by decide)
      have K4 : TkM M4 T L mo st.1 := TkM_gx x4 (by decide) (by rw [← hM4, ← hM3]; rfl) ((F4 115 (by decide)).1) K2
      refine Wn.run (tab := tb_m_behind) rfl 1 (c' := (141, [(0, .ref 114)], [.ref 114], M4)) (o := []) rfl trivial ?_
      refine Wn.callV (p := 114) (n := 1) (ix := 191) (ci := (10)) (PNx M4 (M4.1 114) T L mo (tNx T L st.1)) [] [] rfl rfl rfl rfl (Nat.le_of_ble_eq_true rfl) (Nat.le_of_ble_eq_true rfl) (c_m_nx (d + 2) M4 _ T L mo st.1 rfl K4 (by omega) (by omega)) ?_
      rintro r0 P ⟨rfl, l1, l3, l4, l5⟩
      show Wn _ 143 _ (144, [(0, .ref 114)], [], P)
      refine Wn.run (tab := tb_m_behind) rfl 1 (c' := (145, [(0, .ref 114)], [.int (nI 1)], P)) (o := []) rfl trivial ?_
      refine Wn.zret rfl (Or.inr rfl) ⟨Gx_tr2 (Gx_tr2 (Gx_tr2 (Gx_sub p3 (by decide)) q3 (by decide)) x4 (by decide)) l3 (by decide), fr_tr (fr_tr (fr_tr (fr_up p5 (by decide)) q5 (by decide)) F4 (by decide)) l5 (by decide), rfl, l1, ⟨?_, ?_, ?_⟩, ⟨?_, ?_, ?_, q2.2.2.2.2⟩, ?_, ?_⟩
      · exact (l3 40 (by decide)).trans ((x4 40 (by decide)).trans q1.1)
      · exact (l3 41 (by decide)).trans ((x4 41 (by decide)).trans q1.2.1)
      · rw [(l5 118 (by decide)).1, (F4 118 (by decide)).1]; exact q1.2.2
      · rw [l3 42 (by decide), g4, pk_un (by decide), pk_us]; rfl
      · rw [l3 43 (by decide), g4, pk_us]; rfl
      · rw [(l5 129 (by decide)).1, (F4 129 (by decide)).1]; exact q2.2.2.1.2
      · exact (l3 44 (by decide)).trans ((x4 44 (by decide)).trans ((q3 44 (by decide)).trans ((p3 44 (by decide)).trans hw)))
      · exact (l3 15 (by decide)).trans ((x4 15 (by decide)).trans ((q3 15 (by decide)).trans (p3 15 (by decide))))
  · rw [if_pos (b2_e0.mpr c9), if_pos (Or.inl c9)]
    exact bad
