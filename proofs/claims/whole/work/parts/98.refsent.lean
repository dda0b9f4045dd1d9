/-! The reference reads a sentence. -/
def cdW (a : Nat) : Nat := if a = 28 then 0 else if a = 29 then 1 else if a = 30 then 2 else if a = 31 then 3 else if a = 32 then 4 else if a = 33 then 5 else if a = 11 then 6 else if a = 34 then 7 else if a = 35 then 8 else if a = 27 then 20 else if a = 26 then 21 else if a = 25 then 22 else 23
def cdS (s : Nat) : Nat := if s = 0 then 0 else 55 + s
def SM (M : Mm) (st : Sst) : Prop := M.1 114 40 = nI st.2.1 ∧ M.1 114 41 = nI st.2.2.1 ∧ ∀ i, i < st.2.1 → M.1 118 (3 * i) = nI (cdW (st.2.2.2.1 i)) ∧ M.1 118 (3 * i + 1) = nI (cdS (st.2.2.2.2.1 i)) ∧ M.1 118 (3 * i + 2) = nI (st.2.2.2.2.2 i)
def stk (u : Nat → Int32) : List Nat → Prop
  | [] => True
  | x :: S => u S.length = nI (cdW x) ∧ stk u S
def wfk : List Nat → Prop
  | [] => True
  | x :: S => (x = 27 ∨ x = 26 ∨ x = 25 ∨ x = 8) ∧ wfk S
def SK (M : Mm) (S : List Nat) : Prop := M.1 114 42 = nI S.length ∧ M.1 114 43 = nI (1 + cnS S) ∧ stk (M.1 129) S ∧ wfk S
theorem TkM_gx {K : List Nat} {M M' : Mm} {T : Nat → Nat} {L mo p : Nat} (hx : Gx K (M.1 114) (M'.1 114)) (hK : ∀ x, x ∈ [3, 4, 5, 11, 12, 14] → ¬ x ∈ K) (hj : M'.2.1 114 17 = M.2.1 114 17) (h5 : M'.1 115 = M.1 115) (h : TkM M T L mo p) : TkM M' T L mo p := by
  have e : ∀ x, x ∈ [3, 4, 5, 11, 12, 14] → M'.1 114 x = M.1 114 x := fun x hx9 => hx x (hK x hx9)
  unfold TkM
  rw [e 3 (by decide), e 4 (by decide), e 5 (by decide), e 11 (by decide), e 12 (by decide), e 14 (by decide), hj, h5]
  exact h
def PCd (M0 : Mm) (n : Nat) (w s u : Int32) : Po := fun r0 M' => r0 = none ∧ M'.1 114 = upd (M0.1 114) 40 (nI (n + 1)) ∧ M'.1 118 = upd (upd (upd (M0.1 118) (3 * n) w) (3 * n + 1) s) (3 * n + 2) u ∧ M'.2 = M0.2 ∧ Fr [114, 118] M0 M'
theorem SM_add {M M' : Mm} {st : Sst} {a s u : Nat} (hs : SM M st) {r0 : Option Value} (h : PCd M st.2.1 (nI (cdW a)) (nI (cdS s)) (nI u) r0 M') : SM M' (sAdd a s u st) := by
  obtain ⟨h0, h1, h2, h3, h4⟩ := h
  refine ⟨by rw [h1, pk_us]; rfl, by rw [h1, pk_un (by decide)]; exact hs.2.1, fun i hi => ?_⟩
  have hi : i < st.2.1 + 1 := hi
  rw [h2]
  show _ = nI (cdW (su st.2.2.2.1 st.2.1 a i)) ∧ _ = nI (cdS (su st.2.2.2.2.1 st.2.1 s i)) ∧ _ = nI (su st.2.2.2.2.2 st.2.1 u i)
  by_cases e : i = st.2.1
  · rw [e, su_eq rfl, su_eq rfl, su_eq rfl]
    refine ⟨?_, ?_, ?_⟩
    · rw [pk_un (by omega), pk_un (by omega), pk_us]
    · rw [pk_un (by omega), pk_us]
    · rw [pk_us]
  · rw [su_ne e, su_ne e, su_ne e, pk_un (by omega), pk_un (by omega), pk_un (by omega), pk_un (by omega), pk_un (by omega), pk_un (by omega), pk_un (by omega), pk_un (by omega), pk_un (by omega)]
    exact hs.2.2 i (by omega)
set_option maxRecDepth 20000 in
theorem c_m_code (d : Nat) (M : Mm) (n : Nat) (hn : M.1 114 40 = nI n) (h45 : n < 45) (w s u : Int32) : Wn (d + 0) 138 (PCd M n w s u) (0, lv_args 0 [.ref 114, .int w, .int s, .int u], [], M) := by
  have i0 : ∀ N : Mm, N.1 114 40 = nI n → (nI 3) * (N.1 114 40) = nI (3 * n) := fun N h => by rw [h]; exact pk_mul _ _
  have kx0 : aok shp 118 0 ((nI 3) * (M.1 114 40)) := ak1 (n := 135) rfl rfl (i0 M hn) (by omega)
  refine Wn.run (tab := tb_m_code) rfl 8 (c' := (12, [(0, .ref 114), (1, .int w), (2, .int s), (3, .int u)], [], (mI M 118 (upd (M.1 118) (((nI 3) * (M.1 114 40))).toNatClampNeg w)))) (o := [shp 114 = (0, 10), shp 114 = (0, 10), aok shp 118 0 ((nI 3) * (M.1 114 40))]) rfl ⟨rfl, rfl, kx0⟩ ?_
  rw [show (((nI 3) * (M.1 114 40))).toNatClampNeg = 3 * n from cl1 (i0 M hn) (by omega)]
  generalize hM1 : (mI M 118 (upd (M.1 118) (3 * n) w)) = M1
  have f1 := fr_1I hM1
  have hn1 : M1.1 114 40 = nI n := by rw [(f1 114 (by decide)).1]; exact hn
  have j1 : ((nI 3) * (M1.1 114 40)) + (nI 1) = nI (3 * n + 1) := by rw [i0 M1 hn1, nI_add]
  have kx1 : aok shp 118 0 (((nI 3) * (M1.1 114 40)) + (nI 1)) := ak1 (n := 135) rfl rfl j1 (by omega)
  refine Wn.run (tab := tb_m_code) rfl 10 (c' := (26, [(0, .ref 114), (1, .int w), (2, .int s), (3, .int u)], [], (mI M1 118 (upd (M1.1 118) ((((nI 3) * (M1.1 114 40)) + (nI 1))).toNatClampNeg s)))) (o := [shp 114 = (0, 10), shp 114 = (0, 10), aok shp 118 0 (((nI 3) * (M1.1 114 40)) + (nI 1))]) rfl ⟨rfl, rfl, kx1⟩ ?_
  rw [show ((((nI 3) * (M1.1 114 40)) + (nI 1))).toNatClampNeg = 3 * n + 1 from cl1 j1 (by omega)]
  generalize hM2 : (mI M1 118 (upd (M1.1 118) (3 * n + 1) s)) = M2
  have f2 := fr_1I hM2
  have hn2 : M2.1 114 40 = nI n := by rw [(f2 114 (by decide)).1]; exact hn1
  have j2 : ((nI 3) * (M2.1 114 40)) + (nI 2) = nI (3 * n + 2) := by rw [i0 M2 hn2, nI_add]
  have kx2 : aok shp 118 0 (((nI 3) * (M2.1 114 40)) + (nI 2)) := ak1 (n := 135) rfl rfl j2 (by omega)
  refine Wn.run (tab := tb_m_code) rfl 10 (c' := (40, [(0, .ref 114), (1, .int w), (2, .int s), (3, .int u)], [], (mI M2 118 (upd (M2.1 118) ((((nI 3) * (M2.1 114 40)) + (nI 2))).toNatClampNeg u)))) (o := [shp 114 = (0, 10), shp 114 = (0, 10), aok shp 118 0 (((nI 3) * (M2.1 114 40)) + (nI 2))]) rfl ⟨rfl, rfl, kx2⟩ ?_
  rw [show ((((nI 3) * (M2.1 114 40)) + (nI 2))).toNatClampNeg = 3 * n + 2 from cl1 j2 (by omega)]
  generalize hM3 : (mI M2 118 (upd (M2.1 118) (3 * n + 2) u)) = M3
  have f3 := fr_1I hM3
  have hn3 : M3.1 114 40 = nI n := by rw [(f3 114 (by decide)).1]; exact hn2
  refine Wn.run (tab := tb_m_code) rfl 6 (c' := (50, [(0, .ref 114), (1, .int w), (2, .int s), (3, .int u)], [], (mI M3 114 (upd (M3.1 114) 40 ((M3.1 114 40) + (nI 1)))))) (o := [shp 114 = (0, 10), shp 114 = (0, 10)]) rfl ⟨rfl, rfl⟩ ?_
  rw [hn3, nI_add]
  generalize hM4 : (mI M3 114 (upd (M3.1 114) 40 (nI (n + 1)))) = M4
  have f4 := fr_1I hM4
  refine Wn.vret rfl ⟨rfl, ?_, ?_, ?_, fr_tr (fr_tr (fr_tr (fr_up f1 (by decide)) f2 (by decide)) f3 (by decide)) f4 (by decide)⟩
  · rw [mI_eq hM4, (f3 114 (by decide)).1, (f2 114 (by decide)).1, (f1 114 (by decide)).1]
  · rw [(f4 118 (by decide)).1, mI_eq hM3, mI_eq hM2, mI_eq hM1]
  · rw [← hM4, ← hM3, ← hM2, ← hM1]; rfl
def PNt (M0 : Mm) (S : List Nat) (st : Sst) (K : List Nat) : Po := fun r0 M' => r0 = none ∧ SM M' st ∧ SK M' S ∧ Gx K (M0.1 114) (M'.1 114) ∧ M'.2 = M0.2 ∧ Fr [114, 118] M0 M'
theorem SK_top {M : Mm} {x : Nat} {S : List Nat} (h : SK M (x :: S)) (hl : S.length < 45) : M.1 114 42 = nI (S.length + 1) ∧ (M.1 114 42) - (nI 1) = nI S.length ∧ M.1 129 ((M.1 114 42) - (nI 1)).toNatClampNeg = nI (cdW x) := by
  have e1 : M.1 114 42 = nI (S.length + 1) := h.1
  have e2 : (M.1 114 42) - (nI 1) = nI S.length := by rw [e1]; exact n_sub rfl rfl (by omega)
  exact ⟨e1, e2, by rw [e2, nI_clamp (by omega)]; exact h.2.2.1.1⟩
set_option maxRecDepth 20000 in
theorem c_m_nots (d : Nat) : ∀ (S : List Nat) (st : Sst) (M : Mm), SM M st → SK M S → st.2.1 + S.length < 45 → Wn (d + 1) 140 (PNt M (ntS S st).1 (ntS S st).2 [40, 42, 43]) (0, [(0, .ref 114)], [], M) := by
  intro S
  induction S with
  | nil =>
    intro st M hs hk hl
    have h0 : M.1 114 42 = nI 0 := hk.1
    refine Wn.run (tab := tb_m_nots) rfl 3 (c' := (if (M.1 114 42) ≤ 0 then 54 else 7, [(0, .ref 114)], [], M)) (o := [shp 114 = (0, 10)]) rfl rfl ?_
    rw [h0, if_pos (show nI 0 ≤ 0 by decide)]
    exact Wn.vret rfl ⟨rfl, hs, hk, Gx_rf _ _, rfl, fr_rf _ _⟩
  | cons x S ih =>
    intro st M hs hk hl
    have hl : st.2.1 + (S.length + 1) < 45 := hl
    obtain ⟨e1, e2, e3⟩ := SK_top hk (by omega)
    have wx := hk.2.2.2.1
    have kx : aok shp 129 0 ((M.1 114 42) - (nI 1)) := ak1 (n := 45) rfl rfl e2 (by omega)
    refine Wn.run (tab := tb_m_nots) rfl 3 (c' := (if (M.1 114 42) ≤ 0 then 54 else 7, [(0, .ref 114)], [], M)) (o := [shp 114 = (0, 10)]) rfl rfl ?_
    rw [if_neg (show ¬ (M.1 114 42) ≤ 0 by rw [e1]; exact mt (n_le rfl nI_0.symm (by omega) (by omega)).mp (by omega))]
    refine Wn.run (tab := tb_m_nots) rfl 9 (c' := (if ¬ (M.1 129 (((M.1 114 42) - (nI 1))).toNatClampNeg) = (nI 20) then 54 else 23, [(0, .ref 114)], [], M)) (o := [shp 114 = (0, 10), shp 114 = (0, 10), aok shp 129 0 ((M.1 114 42) - (nI 1))]) rfl ⟨rfl, rfl, kx⟩ ?_
    rw [e3]
    by_cases c : x = 27
    · subst c
      have e4 : ntS (27 :: S) st = ntS S (sAdd 27 0 0 st) := if_pos rfl
      rw [e4, if_neg (show ¬ ¬ nI (cdW 27) = nI 20 by decide)]
      refine Wn.run (tab := tb_m_nots) rfl 6 (c' := (33, [(0, .ref 114)], [], (mI M 114 (upd (M.1 114) 42 ((M.1 114 42) - (nI 1)))))) (o := [shp 114 = (0, 10), shp 114 = (0, 10)]) rfl ⟨rfl, rfl⟩ ?_
      rw [e2]
      generalize hM1 : (mI M 114 (upd (M.1 114) 42 (nI S.length))) = M1
      have e43 : M1.1 114 43 = nI (1 + (cnS S + 1)) := by rw [mI_eq hM1, pk_un (by decide)]; exact hk.2.1
      have e5 : (M1.1 114 43) - (nI 1) = nI (1 + cnS S) := by rw [e43]; exact (n_sub rfl rfl (by omega)).trans (congrArg nI (by omega))
      refine Wn.run (tab := tb_m_nots) rfl 6 (c' := (43, [(0, .ref 114)], [], (mI M1 114 (upd (M1.1 114) 43 ((M1.1 114 43) - (nI 1)))))) (o := [shp 114 = (0, 10), shp 114 = (0, 10)]) rfl ⟨rfl, rfl⟩ ?_
      rw [e5]
      generalize hM2 : (mI M1 114 (upd (M1.1 114) 43 (nI (1 + cnS S)))) = M2
      have g2 : M2.1 114 = upd (upd (M.1 114) 42 (nI S.length)) 43 (nI (1 + cnS S)) := by rw [mI_eq hM2, mI_eq hM1]
      have f2 : Fr [114] M M2 := fr_tr (fr_1I hM1) (fr_1I hM2) (by decide)
      have s2 : SM M2 st := by
        refine ⟨by rw [g2, pk_un (by decide), pk_un (by decide)]; exact hs.1, by rw [g2, pk_un (by decide), pk_un (by decide)]; exact hs.2.1, ?_⟩
        rw [(f2 118 (by decide)).1]; exact hs.2.2
      refine Wn.run (tab := tb_m_nots) rfl 4 (c' := (48, [(0, .ref 114)], [.int (nI 0), .int (nI 0), .int (nI 20), .ref 114], M2)) (o := []) rfl trivial ?_
      refine Wn.callV (p := 114) (n := 4) (ix := 432) (ci := (10)) (PCd M2 st.2.1 (nI 20) (nI 0) (nI 0)) [.int (nI 20), .int (nI 0), .int (nI 0)] [] rfl rfl rfl rfl (Nat.le_of_ble_eq_true rfl) (Nat.le_of_ble_eq_true rfl) (c_m_code _ M2 st.2.1 s2.1 (by omega) _ _ _) ?_
      intro r0 M3 hA
      have s3 := SM_add (a := 27) (s := 0) (u := 0) s2 hA
      obtain ⟨rfl, b1, b2, b3, b4⟩ := hA
      show Wn _ 140 _ (51, [(0, .ref 114)], [], M3)
      refine Wn.run (tab := tb_m_nots) rfl 1 (c' := (0, [(0, .ref 114)], [], M3)) (o := []) rfl trivial ?_
      have m3 : M3.2 = M.2 := by rw [b3, ← hM2, ← hM1]; rfl
      have gx : Gx [40, 42, 43] (M.1 114) (M3.1 114) := by rw [b1, g2]; exact Gx_up (Gx_up (Gx_up (Gx_rf _ _) (by decide)) (by decide)) (by decide)
      refine (ih (sAdd 27 0 0 st) M3 s3 ⟨?_, ?_, ?_, hk.2.2.2.2⟩ (by show st.2.1 + 1 + S.length < 45; omega)).mono ?_
      · rw [b1, g2, pk_un (by decide), pk_un (by decide), pk_us]
      · rw [b1, g2, pk_un (by decide), pk_us]
      · rw [(b4 129 (by decide)).1, (f2 129 (by decide)).1]; exact hk.2.2.1.2
      · rintro r0 M' ⟨rfl, q1, q2, q3, q4, q5⟩
        exact ⟨rfl, q1, q2, Gx_tr gx q3, q4.trans m3, fr_tr (fr_tr (fr_up f2 (by decide)) b4 (by decide)) q5 (by decide)⟩
    · have e4 : ntS (x :: S) st = (x :: S, st) := if_neg c
      rw [e4, if_pos (show ¬ nI (cdW x) = nI 20 by rcases wx with rfl | rfl | rfl | rfl <;> first | exact absurd rfl c | decide)]
      exact Wn.vret rfl ⟨rfl, hs, hk, Gx_rf _ _, rfl, fr_rf _ _⟩
set_option maxRecDepth 20000 in
theorem c_m_joins (d : Nat) (tl : Nat) (htl : tl = 25 ∨ tl = 26) : ∀ (S : List Nat) (st : Sst) (M : Mm), SM M st → SK M S → st.2.1 + S.length < 45 → Wn (d + 1) 139 (PNt M (jnS tl S st).1 (jnS tl S st).2 [40, 42]) (0, [(0, .ref 114), (1, .int (nI (cdW tl)))], [], M) := by
  intro S
  induction S with
  | nil =>
    intro st M hs hk hl
    have h0 : M.1 114 42 = nI 0 := hk.1
    refine Wn.run (tab := tb_m_joins) rfl 3 (c' := (if (M.1 114 42) ≤ 0 then 73 else 7, [(0, .ref 114), (1, .int (nI (cdW tl)))], [], M)) (o := [shp 114 = (0, 10)]) rfl rfl ?_
    rw [h0, if_pos (show nI 0 ≤ 0 by decide)]
    exact Wn.vret rfl ⟨rfl, hs, hk, Gx_rf _ _, rfl, fr_rf _ _⟩
  | cons x S ih =>
    intro st M hs hk hl
    have hl : st.2.1 + (S.length + 1) < 45 := hl
    obtain ⟨e1, e2, e3⟩ := SK_top hk (by omega)
    have wx := hk.2.2.2.1
    have kx : aok shp 129 0 ((M.1 114 42) - (nI 1)) := ak1 (n := 45) rfl rfl e2 (by omega)
    refine Wn.run (tab := tb_m_joins) rfl 3 (c' := (if (M.1 114 42) ≤ 0 then 73 else 7, [(0, .ref 114), (1, .int (nI (cdW tl)))], [], M)) (o := [shp 114 = (0, 10)]) rfl rfl ?_
    rw [if_neg (show ¬ (M.1 114 42) ≤ 0 by rw [e1]; exact mt (n_le rfl nI_0.symm (by omega) (by omega)).mp (by omega))]
    have stay : ¬ (x = 26 ∨ (x = 25 ∧ tl = 25)) → Wn (d + 1) 139 (PNt M (jnS tl (x :: S) st).1 (jnS tl (x :: S) st).2 [40, 42]) (73, [(0, .ref 114), (1, .int (nI (cdW tl)))], [], M) := by
      intro c
      rw [show jnS tl (x :: S) st = (x :: S, st) from if_neg c]
      exact Wn.vret rfl ⟨rfl, hs, hk, Gx_rf _ _, rfl, fr_rf _ _⟩
    have pop : (x = 26 ∨ (x = 25 ∧ tl = 25)) → Wn (d + 1) 139 (PNt M (jnS tl (x :: S) st).1 (jnS tl (x :: S) st).2 [40, 42]) (45, [(0, .ref 114), (1, .int (nI (cdW tl)))], [], M) := by
      intro c
      rw [show jnS tl (x :: S) st = jnS tl S (sAdd x 0 0 st) from if_pos c]
      refine Wn.run (tab := tb_m_joins) rfl 6 (c' := (55, [(0, .ref 114), (1, .int (nI (cdW tl)))], [], (mI M 114 (upd (M.1 114) 42 ((M.1 114 42) - (nI 1)))))) (o := [shp 114 = (0, 10), shp 114 = (0, 10)]) rfl ⟨rfl, rfl⟩ ?_
      rw [e2]
      generalize hM1 : (mI M 114 (upd (M.1 114) 42 (nI S.length))) = M1
      have f1 := fr_1I hM1
      have g1 : M1.1 114 = upd (M.1 114) 42 (nI S.length) := mI_eq hM1
      have e42 : M1.1 114 42 = nI S.length := by rw [g1, pk_us]
      have kz : aok shp 129 0 (M1.1 114 42) := ak1 (n := 45) rfl rfl e42 (by omega)
      have s2 : SM M1 st := by
        refine ⟨by rw [g1, pk_un (by decide)]; exact hs.1, by rw [g1, pk_un (by decide)]; exact hs.2.1, ?_⟩
        rw [(f1 118 (by decide)).1]; exact hs.2.2
      refine Wn.run (tab := tb_m_joins) rfl 8 (c' := (67, [(0, .ref 114), (1, .int (nI (cdW tl)))], [.int (nI 0), .int (nI 0), .int (M1.1 129 ((M1.1 114 42)).toNatClampNeg), .ref 114], M1)) (o := [shp 114 = (0, 10), shp 114 = (0, 10), aok shp 129 0 (M1.1 114 42)]) rfl ⟨rfl, rfl, kz⟩ ?_
      rw [show (M1.1 129 ((M1.1 114 42)).toNatClampNeg) = nI (cdW x) from by rw [e42, nI_clamp (by omega), (f1 129 (by decide)).1]; exact hk.2.2.1.1]
      refine Wn.callV (p := 114) (n := 4) (ix := 432) (ci := (10)) (PCd M1 st.2.1 (nI (cdW x)) (nI 0) (nI 0)) [.int (nI (cdW x)), .int (nI 0), .int (nI 0)] [] rfl rfl rfl rfl (Nat.le_of_ble_eq_true rfl) (Nat.le_of_ble_eq_true rfl) (c_m_code _ M1 st.2.1 s2.1 (by omega) _ _ _) ?_
      intro r0 M3 hA
      have s3 := SM_add (a := x) (s := 0) (u := 0) s2 hA
      obtain ⟨rfl, b1, b2, b3, b4⟩ := hA
      show Wn _ 139 _ (70, [(0, .ref 114), (1, .int (nI (cdW tl)))], [], M3)
      refine Wn.run (tab := tb_m_joins) rfl 1 (c' := (0, [(0, .ref 114), (1, .int (nI (cdW tl)))], [], M3)) (o := []) rfl trivial ?_
      have m3 : M3.2 = M.2 := by rw [b3, ← hM1]; rfl
      have gx : Gx [40, 42] (M.1 114) (M3.1 114) := by rw [b1, g1]; exact Gx_up (Gx_up (Gx_rf _ _) (by decide)) (by decide)
      have cx : cnS (x :: S) = cnS S := by rw [cnS_c, if_neg (by omega)]; omega
      refine (ih (sAdd x 0 0 st) M3 s3 ⟨?_, ?_, ?_, hk.2.2.2.2⟩ (by show st.2.1 + 1 + S.length < 45; omega)).mono ?_
      · rw [b1, g1, pk_un (by decide), pk_us]
      · rw [b1, g1, pk_un (by decide), pk_un (by decide), ← cx]; exact hk.2.1
      · rw [(b4 129 (by decide)).1, (f1 129 (by decide)).1]; exact hk.2.2.1.2
      · rintro r0 M' ⟨rfl, q1, q2, q3, q4, q5⟩
        exact ⟨rfl, q1, q2, Gx_tr gx q3, q4.trans m3, fr_tr (fr_tr (fr_up f1 (by decide)) b4 (by decide)) q5 (by decide)⟩
    refine Wn.run (tab := tb_m_joins) rfl 9 (c' := (if (M.1 129 (((M.1 114 42) - (nI 1))).toNatClampNeg) = (nI 21) then 45 else 23, [(0, .ref 114), (1, .int (nI (cdW tl)))], [], M)) (o := [shp 114 = (0, 10), shp 114 = (0, 10), aok shp 129 0 ((M.1 114 42) - (nI 1))]) rfl ⟨rfl, rfl, kx⟩ ?_
    rw [e3]
    by_cases c6 : x = 26
    · rw [if_pos (show nI (cdW x) = nI 21 by rw [c6]; decide)]
      exact pop (Or.inl c6)
    rw [if_neg (show ¬ nI (cdW x) = nI 21 by rcases wx with rfl | rfl | rfl | rfl <;> first | exact absurd rfl c6 | decide)]
    refine Wn.run (tab := tb_m_joins) rfl 9 (c' := (if ¬ (M.1 129 (((M.1 114 42) - (nI 1))).toNatClampNeg) = (nI 22) then 73 else 39, [(0, .ref 114), (1, .int (nI (cdW tl)))], [], M)) (o := [shp 114 = (0, 10), shp 114 = (0, 10), aok shp 129 0 ((M.1 114 42) - (nI 1))]) rfl ⟨rfl, rfl, kx⟩ ?_
    rw [e3]
    by_cases c5 : x = 25
    · rw [if_neg (show ¬ ¬ nI (cdW x) = nI 22 by rw [c5]; decide)]
      refine Wn.run (tab := tb_m_joins) rfl 3 (c' := (if ¬ (nI (cdW tl)) = (nI 22) then 73 else 45, [(0, .ref 114), (1, .int (nI (cdW tl)))], [], M)) (o := []) rfl trivial ?_
      rcases htl with rfl | rfl
      · rw [if_neg (show ¬ ¬ nI (cdW 25) = nI 22 by decide)]
        exact pop (Or.inr ⟨c5, rfl⟩)
      · rw [if_pos (show ¬ nI (cdW 26) = nI 22 by decide)]
        exact stay (by omega)
    rw [if_pos (show ¬ nI (cdW x) = nI 22 by rcases wx with rfl | rfl | rfl | rfl <;> first | exact absurd rfl c5 | exact absurd rfl c6 | decide)]
    exact stay (by omega)
abbrev leK (c : Nat) : Prop := c = 11 ∨ (28 ≤ c ∧ c ≤ 35)
def lfI (c : Nat) : Int32 := if leK c then nI (cdW c) else -1
set_option maxRecDepth 20000 in
theorem w_m_leafOf_28 (d : Nat) (M : Mm) (T : Nat → Nat) (L mo p : Nat) (hK : TkM M T L mo p) (hk : tKd T L mo p = 28) (Q : Po) (hQ : Q (some (.int (nI 0))) M) : Wn (d + 1) 141 Q (0, lv_args 0 [.ref 114], [], M) := by
  refine Wn.run (tab := tb_m_leafOf) rfl 2 (c' := (4, [(0, .ref 114)], [.long (112568616904046 : Int64), .ref 114], M)) (o := []) rfl trivial ?_
  refine Wn.callV (p := 114) (n := 2) (ix := 219) (ci := (10)) (fun r0 M0 => r0 = some (.int (b2 (tKd T L mo p = 28))) ∧ M = M0) [.long (112568616904046 : Int64)] [] rfl rfl rfl rfl (Nat.le_of_ble_eq_true rfl) (Nat.le_of_ble_eq_true rfl) (w_m_isWord _ M T L mo p 28 hK (by decide) (by decide) (112568616904046 : Int64) (by decide) _ ⟨rfl, rfl⟩) ?_
  rintro _ _ ⟨rfl, rfl⟩
  show Wn _ 141 _ (7, [(0, .ref 114)], [.int (b2 (tKd T L mo p = 28))], M)
  refine Wn.run (tab := tb_m_leafOf) rfl 1 (c' := (if (b2 (tKd T L mo p = 28)) = 0 then 14 else 10, [(0, .ref 114)], [], M)) (o := []) rfl trivial ?_
  rw [if_neg (b2_n0.mpr (by omega))]
  show Wn _ 141 _ (10, [(0, .ref 114)], [], M)
  refine Wn.run (tab := tb_m_leafOf) rfl 2 (c' := (130, [(0, .ref 114)], [.int (nI 0)], M)) (o := []) rfl trivial ?_
  exact Wn.iret rfl hQ
set_option maxRecDepth 20000 in
theorem w_m_leafOf_29 (d : Nat) (M : Mm) (T : Nat → Nat) (L mo p : Nat) (hK : TkM M T L mo p) (hk : tKd T L mo p = 29) (Q : Po) (hQ : Q (some (.int (nI 1))) M) : Wn (d + 1) 141 Q (0, lv_args 0 [.ref 114], [], M) := by
  refine Wn.run (tab := tb_m_leafOf) rfl 2 (c' := (4, [(0, .ref 114)], [.long (112568616904046 : Int64), .ref 114], M)) (o := []) rfl trivial ?_
  refine Wn.callV (p := 114) (n := 2) (ix := 219) (ci := (10)) (fun r0 M0 => r0 = some (.int (b2 (tKd T L mo p = 28))) ∧ M = M0) [.long (112568616904046 : Int64)] [] rfl rfl rfl rfl (Nat.le_of_ble_eq_true rfl) (Nat.le_of_ble_eq_true rfl) (w_m_isWord _ M T L mo p 28 hK (by decide) (by decide) (112568616904046 : Int64) (by decide) _ ⟨rfl, rfl⟩) ?_
  rintro _ _ ⟨rfl, rfl⟩
  show Wn _ 141 _ (7, [(0, .ref 114)], [.int (b2 (tKd T L mo p = 28))], M)
  refine Wn.run (tab := tb_m_leafOf) rfl 1 (c' := (if (b2 (tKd T L mo p = 28)) = 0 then 14 else 10, [(0, .ref 114)], [], M)) (o := []) rfl trivial ?_
  rw [if_pos (b2_e0.mpr (by omega))]
  show Wn _ 141 _ (14, [(0, .ref 114)], [], M)
  refine Wn.run (tab := tb_m_leafOf) rfl 2 (c' := (18, [(0, .ref 114)], [.long (422776890724 : Int64), .ref 114], M)) (o := []) rfl trivial ?_
  refine Wn.callV (p := 114) (n := 2) (ix := 219) (ci := (10)) (fun r0 M0 => r0 = some (.int (b2 (tKd T L mo p = 29))) ∧ M = M0) [.long (422776890724 : Int64)] [] rfl rfl rfl rfl (Nat.le_of_ble_eq_true rfl) (Nat.le_of_ble_eq_true rfl) (w_m_isWord _ M T L mo p 29 hK (by decide) (by decide) (422776890724 : Int64) (by decide) _ ⟨rfl, rfl⟩) ?_
  rintro _ _ ⟨rfl, rfl⟩
  show Wn _ 141 _ (21, [(0, .ref 114)], [.int (b2 (tKd T L mo p = 29))], M)
  refine Wn.run (tab := tb_m_leafOf) rfl 1 (c' := (if (b2 (tKd T L mo p = 29)) = 0 then 28 else 24, [(0, .ref 114)], [], M)) (o := []) rfl trivial ?_
  rw [if_neg (b2_n0.mpr (by omega))]
  show Wn _ 141 _ (24, [(0, .ref 114)], [], M)
  refine Wn.run (tab := tb_m_leafOf) rfl 2 (c' := (130, [(0, .ref 114)], [.int (nI 1)], M)) (o := []) rfl trivial ?_
  exact Wn.iret rfl hQ
set_option maxRecDepth 20000 in
theorem w_m_leafOf_30 (d : Nat) (M : Mm) (T : Nat → Nat) (L mo p : Nat) (hK : TkM M T L mo p) (hk : tKd T L mo p = 30) (Q : Po) (hQ : Q (some (.int (nI 2))) M) : Wn (d + 1) 141 Q (0, lv_args 0 [.ref 114], [], M) := by
  refine Wn.run (tab := tb_m_leafOf) rfl 2 (c' := (4, [(0, .ref 114)], [.long (112568616904046 : Int64), .ref 114], M)) (o := []) rfl trivial ?_
  refine Wn.callV (p := 114) (n := 2) (ix := 219) (ci := (10)) (fun r0 M0 => r0 = some (.int (b2 (tKd T L mo p = 28))) ∧ M = M0) [.long (112568616904046 : Int64)] [] rfl rfl rfl rfl (Nat.le_of_ble_eq_true rfl) (Nat.le_of_ble_eq_true rfl) (w_m_isWord _ M T L mo p 28 hK (by decide) (by decide) (112568616904046 : Int64) (by decide) _ ⟨rfl, rfl⟩) ?_
  rintro _ _ ⟨rfl, rfl⟩
  show Wn _ 141 _ (7, [(0, .ref 114)], [.int (b2 (tKd T L mo p = 28))], M)
  refine Wn.run (tab := tb_m_leafOf) rfl 1 (c' := (if (b2 (tKd T L mo p = 28)) = 0 then 14 else 10, [(0, .ref 114)], [], M)) (o := []) rfl trivial ?_
  rw [if_pos (b2_e0.mpr (by omega))]
  show Wn _ 141 _ (14, [(0, .ref 114)], [], M)
  refine Wn.run (tab := tb_m_leafOf) rfl 2 (c' := (18, [(0, .ref 114)], [.long (422776890724 : Int64), .ref 114], M)) (o := []) rfl trivial ?_
  refine Wn.callV (p := 114) (n := 2) (ix := 219) (ci := (10)) (fun r0 M0 => r0 = some (.int (b2 (tKd T L mo p = 29))) ∧ M = M0) [.long (422776890724 : Int64)] [] rfl rfl rfl rfl (Nat.le_of_ble_eq_true rfl) (Nat.le_of_ble_eq_true rfl) (w_m_isWord _ M T L mo p 29 hK (by decide) (by decide) (422776890724 : Int64) (by decide) _ ⟨rfl, rfl⟩) ?_
  rintro _ _ ⟨rfl, rfl⟩
  show Wn _ 141 _ (21, [(0, .ref 114)], [.int (b2 (tKd T L mo p = 29))], M)
  refine Wn.run (tab := tb_m_leafOf) rfl 1 (c' := (if (b2 (tKd T L mo p = 29)) = 0 then 28 else 24, [(0, .ref 114)], [], M)) (o := []) rfl trivial ?_
  rw [if_pos (b2_e0.mpr (by omega))]
  show Wn _ 141 _ (28, [(0, .ref 114)], [], M)
  refine Wn.run (tab := tb_m_leafOf) rfl 2 (c' := (32, [(0, .ref 114)], [.long (25209 : Int64), .ref 114], M)) (o := []) rfl trivial ?_
  refine Wn.callV (p := 114) (n := 2) (ix := 219) (ci := (10)) (fun r0 M0 => r0 = some (.int (b2 (tKd T L mo p = 30))) ∧ M = M0) [.long (25209 : Int64)] [] rfl rfl rfl rfl (Nat.le_of_ble_eq_true rfl) (Nat.le_of_ble_eq_true rfl) (w_m_isWord _ M T L mo p 30 hK (by decide) (by decide) (25209 : Int64) (by decide) _ ⟨rfl, rfl⟩) ?_
  rintro _ _ ⟨rfl, rfl⟩
  show Wn _ 141 _ (35, [(0, .ref 114)], [.int (b2 (tKd T L mo p = 30))], M)
  refine Wn.run (tab := tb_m_leafOf) rfl 1 (c' := (if (b2 (tKd T L mo p = 30)) = 0 then 42 else 38, [(0, .ref 114)], [], M)) (o := []) rfl trivial ?_
  rw [if_neg (b2_n0.mpr (by omega))]
  show Wn _ 141 _ (38, [(0, .ref 114)], [], M)
  refine Wn.run (tab := tb_m_leafOf) rfl 2 (c' := (130, [(0, .ref 114)], [.int (nI 2)], M)) (o := []) rfl trivial ?_
  exact Wn.iret rfl hQ
set_option maxRecDepth 20000 in
theorem w_m_leafOf_31 (d : Nat) (M : Mm) (T : Nat → Nat) (L mo p : Nat) (hK : TkM M T L mo p) (hk : tKd T L mo p = 31) (Q : Po) (hQ : Q (some (.int (nI 3))) M) : Wn (d + 1) 141 Q (0, lv_args 0 [.ref 114], [], M) := by
  refine Wn.run (tab := tb_m_leafOf) rfl 2 (c' := (4, [(0, .ref 114)], [.long (112568616904046 : Int64), .ref 114], M)) (o := []) rfl trivial ?_
  refine Wn.callV (p := 114) (n := 2) (ix := 219) (ci := (10)) (fun r0 M0 => r0 = some (.int (b2 (tKd T L mo p = 28))) ∧ M = M0) [.long (112568616904046 : Int64)] [] rfl rfl rfl rfl (Nat.le_of_ble_eq_true rfl) (Nat.le_of_ble_eq_true rfl) (w_m_isWord _ M T L mo p 28 hK (by decide) (by decide) (112568616904046 : Int64) (by decide) _ ⟨rfl, rfl⟩) ?_
  rintro _ _ ⟨rfl, rfl⟩
  show Wn _ 141 _ (7, [(0, .ref 114)], [.int (b2 (tKd T L mo p = 28))], M)
  refine Wn.run (tab := tb_m_leafOf) rfl 1 (c' := (if (b2 (tKd T L mo p = 28)) = 0 then 14 else 10, [(0, .ref 114)], [], M)) (o := []) rfl trivial ?_
  rw [if_pos (b2_e0.mpr (by omega))]
  show Wn _ 141 _ (14, [(0, .ref 114)], [], M)
  refine Wn.run (tab := tb_m_leafOf) rfl 2 (c' := (18, [(0, .ref 114)], [.long (422776890724 : Int64), .ref 114], M)) (o := []) rfl trivial ?_
  refine Wn.callV (p := 114) (n := 2) (ix := 219) (ci := (10)) (fun r0 M0 => r0 = some (.int (b2 (tKd T L mo p = 29))) ∧ M = M0) [.long (422776890724 : Int64)] [] rfl rfl rfl rfl (Nat.le_of_ble_eq_true rfl) (Nat.le_of_ble_eq_true rfl) (w_m_isWord _ M T L mo p 29 hK (by decide) (by decide) (422776890724 : Int64) (by decide) _ ⟨rfl, rfl⟩) ?_
  rintro _ _ ⟨rfl, rfl⟩
  show Wn _ 141 _ (21, [(0, .ref 114)], [.int (b2 (tKd T L mo p = 29))], M)
  refine Wn.run (tab := tb_m_leafOf) rfl 1 (c' := (if (b2 (tKd T L mo p = 29)) = 0 then 28 else 24, [(0, .ref 114)], [], M)) (o := []) rfl trivial ?_
  rw [if_pos (b2_e0.mpr (by omega))]
  show Wn _ 141 _ (28, [(0, .ref 114)], [], M)
  refine Wn.run (tab := tb_m_leafOf) rfl 2 (c' := (32, [(0, .ref 114)], [.long (25209 : Int64), .ref 114], M)) (o := []) rfl trivial ?_
  refine Wn.callV (p := 114) (n := 2) (ix := 219) (ci := (10)) (fun r0 M0 => r0 = some (.int (b2 (tKd T L mo p = 30))) ∧ M = M0) [.long (25209 : Int64)] [] rfl rfl rfl rfl (Nat.le_of_ble_eq_true rfl) (Nat.le_of_ble_eq_true rfl) (w_m_isWord _ M T L mo p 30 hK (by decide) (by decide) (25209 : Int64) (by decide) _ ⟨rfl, rfl⟩) ?_
  rintro _ _ ⟨rfl, rfl⟩
  show Wn _ 141 _ (35, [(0, .ref 114)], [.int (b2 (tKd T L mo p = 30))], M)
  refine Wn.run (tab := tb_m_leafOf) rfl 1 (c' := (if (b2 (tKd T L mo p = 30)) = 0 then 42 else 38, [(0, .ref 114)], [], M)) (o := []) rfl trivial ?_
  rw [if_pos (b2_e0.mpr (by omega))]
  show Wn _ 141 _ (42, [(0, .ref 114)], [], M)
  refine Wn.run (tab := tb_m_leafOf) rfl 2 (c' := (46, [(0, .ref 114)], [.long (1870030194 : Int64), .ref 114], M)) (o := []) rfl trivial ?_
  refine Wn.callV (p := 114) (n := 2) (ix := 219) (ci := (10)) (fun r0 M0 => r0 = some (.int (b2 (tKd T L mo p = 31))) ∧ M = M0) [.long (1870030194 : Int64)] [] rfl rfl rfl rfl (Nat.le_of_ble_eq_true rfl) (Nat.le_of_ble_eq_true rfl) (w_m_isWord _ M T L mo p 31 hK (by decide) (by decide) (1870030194 : Int64) (by decide) _ ⟨rfl, rfl⟩) ?_
  rintro _ _ ⟨rfl, rfl⟩
  show Wn _ 141 _ (49, [(0, .ref 114)], [.int (b2 (tKd T L mo p = 31))], M)
  refine Wn.run (tab := tb_m_leafOf) rfl 1 (c' := (if (b2 (tKd T L mo p = 31)) = 0 then 56 else 52, [(0, .ref 114)], [], M)) (o := []) rfl trivial ?_
  rw [if_neg (b2_n0.mpr (by omega))]
  show Wn _ 141 _ (52, [(0, .ref 114)], [], M)
  refine Wn.run (tab := tb_m_leafOf) rfl 2 (c' := (130, [(0, .ref 114)], [.int (nI 3)], M)) (o := []) rfl trivial ?_
  exact Wn.iret rfl hQ
set_option maxRecDepth 20000 in
theorem w_m_leafOf_32 (d : Nat) (M : Mm) (T : Nat → Nat) (L mo p : Nat) (hK : TkM M T L mo p) (hk : tKd T L mo p = 32) (Q : Po) (hQ : Q (some (.int (nI 4))) M) : Wn (d + 1) 141 Q (0, lv_args 0 [.ref 114], [], M) := by
  refine Wn.run (tab := tb_m_leafOf) rfl 2 (c' := (4, [(0, .ref 114)], [.long (112568616904046 : Int64), .ref 114], M)) (o := []) rfl trivial ?_
  refine Wn.callV (p := 114) (n := 2) (ix := 219) (ci := (10)) (fun r0 M0 => r0 = some (.int (b2 (tKd T L mo p = 28))) ∧ M = M0) [.long (112568616904046 : Int64)] [] rfl rfl rfl rfl (Nat.le_of_ble_eq_true rfl) (Nat.le_of_ble_eq_true rfl) (w_m_isWord _ M T L mo p 28 hK (by decide) (by decide) (112568616904046 : Int64) (by decide) _ ⟨rfl, rfl⟩) ?_
  rintro _ _ ⟨rfl, rfl⟩
  show Wn _ 141 _ (7, [(0, .ref 114)], [.int (b2 (tKd T L mo p = 28))], M)
  refine Wn.run (tab := tb_m_leafOf) rfl 1 (c' := (if (b2 (tKd T L mo p = 28)) = 0 then 14 else 10, [(0, .ref 114)], [], M)) (o := []) rfl trivial ?_
  rw [if_pos (b2_e0.mpr (by omega))]
  show Wn _ 141 _ (14, [(0, .ref 114)], [], M)
  refine Wn.run (tab := tb_m_leafOf) rfl 2 (c' := (18, [(0, .ref 114)], [.long (422776890724 : Int64), .ref 114], M)) (o := []) rfl trivial ?_
  refine Wn.callV (p := 114) (n := 2) (ix := 219) (ci := (10)) (fun r0 M0 => r0 = some (.int (b2 (tKd T L mo p = 29))) ∧ M = M0) [.long (422776890724 : Int64)] [] rfl rfl rfl rfl (Nat.le_of_ble_eq_true rfl) (Nat.le_of_ble_eq_true rfl) (w_m_isWord _ M T L mo p 29 hK (by decide) (by decide) (422776890724 : Int64) (by decide) _ ⟨rfl, rfl⟩) ?_
  rintro _ _ ⟨rfl, rfl⟩
  show Wn _ 141 _ (21, [(0, .ref 114)], [.int (b2 (tKd T L mo p = 29))], M)
  refine Wn.run (tab := tb_m_leafOf) rfl 1 (c' := (if (b2 (tKd T L mo p = 29)) = 0 then 28 else 24, [(0, .ref 114)], [], M)) (o := []) rfl trivial ?_
  rw [if_pos (b2_e0.mpr (by omega))]
  show Wn _ 141 _ (28, [(0, .ref 114)], [], M)
  refine Wn.run (tab := tb_m_leafOf) rfl 2 (c' := (32, [(0, .ref 114)], [.long (25209 : Int64), .ref 114], M)) (o := []) rfl trivial ?_
  refine Wn.callV (p := 114) (n := 2) (ix := 219) (ci := (10)) (fun r0 M0 => r0 = some (.int (b2 (tKd T L mo p = 30))) ∧ M = M0) [.long (25209 : Int64)] [] rfl rfl rfl rfl (Nat.le_of_ble_eq_true rfl) (Nat.le_of_ble_eq_true rfl) (w_m_isWord _ M T L mo p 30 hK (by decide) (by decide) (25209 : Int64) (by decide) _ ⟨rfl, rfl⟩) ?_
  rintro _ _ ⟨rfl, rfl⟩
  show Wn _ 141 _ (35, [(0, .ref 114)], [.int (b2 (tKd T L mo p = 30))], M)
  refine Wn.run (tab := tb_m_leafOf) rfl 1 (c' := (if (b2 (tKd T L mo p = 30)) = 0 then 42 else 38, [(0, .ref 114)], [], M)) (o := []) rfl trivial ?_
  rw [if_pos (b2_e0.mpr (by omega))]
  show Wn _ 141 _ (42, [(0, .ref 114)], [], M)
  refine Wn.run (tab := tb_m_leafOf) rfl 2 (c' := (46, [(0, .ref 114)], [.long (1870030194 : Int64), .ref 114], M)) (o := []) rfl trivial ?_
  refine Wn.callV (p := 114) (n := 2) (ix := 219) (ci := (10)) (fun r0 M0 => r0 = some (.int (b2 (tKd T L mo p = 31))) ∧ M = M0) [.long (1870030194 : Int64)] [] rfl rfl rfl rfl (Nat.le_of_ble_eq_true rfl) (Nat.le_of_ble_eq_true rfl) (w_m_isWord _ M T L mo p 31 hK (by decide) (by decide) (1870030194 : Int64) (by decide) _ ⟨rfl, rfl⟩) ?_
  rintro _ _ ⟨rfl, rfl⟩
  show Wn _ 141 _ (49, [(0, .ref 114)], [.int (b2 (tKd T L mo p = 31))], M)
  refine Wn.run (tab := tb_m_leafOf) rfl 1 (c' := (if (b2 (tKd T L mo p = 31)) = 0 then 56 else 52, [(0, .ref 114)], [], M)) (o := []) rfl trivial ?_
  rw [if_pos (b2_e0.mpr (by omega))]
  show Wn _ 141 _ (56, [(0, .ref 114)], [], M)
  refine Wn.run (tab := tb_m_leafOf) rfl 2 (c' := (60, [(0, .ref 114)], [.long (127978976601458 : Int64), .ref 114], M)) (o := []) rfl trivial ?_
  refine Wn.callV (p := 114) (n := 2) (ix := 219) (ci := (10)) (fun r0 M0 => r0 = some (.int (b2 (tKd T L mo p = 32))) ∧ M = M0) [.long (127978976601458 : Int64)] [] rfl rfl rfl rfl (Nat.le_of_ble_eq_true rfl) (Nat.le_of_ble_eq_true rfl) (w_m_isWord _ M T L mo p 32 hK (by decide) (by decide) (127978976601458 : Int64) (by decide) _ ⟨rfl, rfl⟩) ?_
  rintro _ _ ⟨rfl, rfl⟩
  show Wn _ 141 _ (63, [(0, .ref 114)], [.int (b2 (tKd T L mo p = 32))], M)
  refine Wn.run (tab := tb_m_leafOf) rfl 1 (c' := (if (b2 (tKd T L mo p = 32)) = 0 then 70 else 66, [(0, .ref 114)], [], M)) (o := []) rfl trivial ?_
  rw [if_neg (b2_n0.mpr (by omega))]
  show Wn _ 141 _ (66, [(0, .ref 114)], [], M)
  refine Wn.run (tab := tb_m_leafOf) rfl 2 (c' := (130, [(0, .ref 114)], [.int (nI 4)], M)) (o := []) rfl trivial ?_
  exact Wn.iret rfl hQ
set_option maxRecDepth 20000 in
theorem w_m_leafOf_33 (d : Nat) (M : Mm) (T : Nat → Nat) (L mo p : Nat) (hK : TkM M T L mo p) (hk : tKd T L mo p = 33) (Q : Po) (hQ : Q (some (.int (nI 5))) M) : Wn (d + 1) 141 Q (0, lv_args 0 [.ref 114], [], M) := by
  refine Wn.run (tab := tb_m_leafOf) rfl 2 (c' := (4, [(0, .ref 114)], [.long (112568616904046 : Int64), .ref 114], M)) (o := []) rfl trivial ?_
  refine Wn.callV (p := 114) (n := 2) (ix := 219) (ci := (10)) (fun r0 M0 => r0 = some (.int (b2 (tKd T L mo p = 28))) ∧ M = M0) [.long (112568616904046 : Int64)] [] rfl rfl rfl rfl (Nat.le_of_ble_eq_true rfl) (Nat.le_of_ble_eq_true rfl) (w_m_isWord _ M T L mo p 28 hK (by decide) (by decide) (112568616904046 : Int64) (by decide) _ ⟨rfl, rfl⟩) ?_
  rintro _ _ ⟨rfl, rfl⟩
  show Wn _ 141 _ (7, [(0, .ref 114)], [.int (b2 (tKd T L mo p = 28))], M)
  refine Wn.run (tab := tb_m_leafOf) rfl 1 (c' := (if (b2 (tKd T L mo p = 28)) = 0 then 14 else 10, [(0, .ref 114)], [], M)) (o := []) rfl trivial ?_
  rw [if_pos (b2_e0.mpr (by omega))]
  show Wn _ 141 _ (14, [(0, .ref 114)], [], M)
  refine Wn.run (tab := tb_m_leafOf) rfl 2 (c' := (18, [(0, .ref 114)], [.long (422776890724 : Int64), .ref 114], M)) (o := []) rfl trivial ?_
  refine Wn.callV (p := 114) (n := 2) (ix := 219) (ci := (10)) (fun r0 M0 => r0 = some (.int (b2 (tKd T L mo p = 29))) ∧ M = M0) [.long (422776890724 : Int64)] [] rfl rfl rfl rfl (Nat.le_of_ble_eq_true rfl) (Nat.le_of_ble_eq_true rfl) (w_m_isWord _ M T L mo p 29 hK (by decide) (by decide) (422776890724 : Int64) (by decide) _ ⟨rfl, rfl⟩) ?_
  rintro _ _ ⟨rfl, rfl⟩
  show Wn _ 141 _ (21, [(0, .ref 114)], [.int (b2 (tKd T L mo p = 29))], M)
  refine Wn.run (tab := tb_m_leafOf) rfl 1 (c' := (if (b2 (tKd T L mo p = 29)) = 0 then 28 else 24, [(0, .ref 114)], [], M)) (o := []) rfl trivial ?_
  rw [if_pos (b2_e0.mpr (by omega))]
  show Wn _ 141 _ (28, [(0, .ref 114)], [], M)
  refine Wn.run (tab := tb_m_leafOf) rfl 2 (c' := (32, [(0, .ref 114)], [.long (25209 : Int64), .ref 114], M)) (o := []) rfl trivial ?_
  refine Wn.callV (p := 114) (n := 2) (ix := 219) (ci := (10)) (fun r0 M0 => r0 = some (.int (b2 (tKd T L mo p = 30))) ∧ M = M0) [.long (25209 : Int64)] [] rfl rfl rfl rfl (Nat.le_of_ble_eq_true rfl) (Nat.le_of_ble_eq_true rfl) (w_m_isWord _ M T L mo p 30 hK (by decide) (by decide) (25209 : Int64) (by decide) _ ⟨rfl, rfl⟩) ?_
  rintro _ _ ⟨rfl, rfl⟩
  show Wn _ 141 _ (35, [(0, .ref 114)], [.int (b2 (tKd T L mo p = 30))], M)
  refine Wn.run (tab := tb_m_leafOf) rfl 1 (c' := (if (b2 (tKd T L mo p = 30)) = 0 then 42 else 38, [(0, .ref 114)], [], M)) (o := []) rfl trivial ?_
  rw [if_pos (b2_e0.mpr (by omega))]
  show Wn _ 141 _ (42, [(0, .ref 114)], [], M)
  refine Wn.run (tab := tb_m_leafOf) rfl 2 (c' := (46, [(0, .ref 114)], [.long (1870030194 : Int64), .ref 114], M)) (o := []) rfl trivial ?_
  refine Wn.callV (p := 114) (n := 2) (ix := 219) (ci := (10)) (fun r0 M0 => r0 = some (.int (b2 (tKd T L mo p = 31))) ∧ M = M0) [.long (1870030194 : Int64)] [] rfl rfl rfl rfl (Nat.le_of_ble_eq_true rfl) (Nat.le_of_ble_eq_true rfl) (w_m_isWord _ M T L mo p 31 hK (by decide) (by decide) (1870030194 : Int64) (by decide) _ ⟨rfl, rfl⟩) ?_
  rintro _ _ ⟨rfl, rfl⟩
  show Wn _ 141 _ (49, [(0, .ref 114)], [.int (b2 (tKd T L mo p = 31))], M)
  refine Wn.run (tab := tb_m_leafOf) rfl 1 (c' := (if (b2 (tKd T L mo p = 31)) = 0 then 56 else 52, [(0, .ref 114)], [], M)) (o := []) rfl trivial ?_
  rw [if_pos (b2_e0.mpr (by omega))]
  show Wn _ 141 _ (56, [(0, .ref 114)], [], M)
  refine Wn.run (tab := tb_m_leafOf) rfl 2 (c' := (60, [(0, .ref 114)], [.long (127978976601458 : Int64), .ref 114], M)) (o := []) rfl trivial ?_
  refine Wn.callV (p := 114) (n := 2) (ix := 219) (ci := (10)) (fun r0 M0 => r0 = some (.int (b2 (tKd T L mo p = 32))) ∧ M = M0) [.long (127978976601458 : Int64)] [] rfl rfl rfl rfl (Nat.le_of_ble_eq_true rfl) (Nat.le_of_ble_eq_true rfl) (w_m_isWord _ M T L mo p 32 hK (by decide) (by decide) (127978976601458 : Int64) (by decide) _ ⟨rfl, rfl⟩) ?_
  rintro _ _ ⟨rfl, rfl⟩
  show Wn _ 141 _ (63, [(0, .ref 114)], [.int (b2 (tKd T L mo p = 32))], M)
  refine Wn.run (tab := tb_m_leafOf) rfl 1 (c' := (if (b2 (tKd T L mo p = 32)) = 0 then 70 else 66, [(0, .ref 114)], [], M)) (o := []) rfl trivial ?_
  rw [if_pos (b2_e0.mpr (by omega))]
  show Wn _ 141 _ (70, [(0, .ref 114)], [], M)
  refine Wn.run (tab := tb_m_leafOf) rfl 2 (c' := (74, [(0, .ref 114)], [.long (1819238756 : Int64), .ref 114], M)) (o := []) rfl trivial ?_
  refine Wn.callV (p := 114) (n := 2) (ix := 219) (ci := (10)) (fun r0 M0 => r0 = some (.int (b2 (tKd T L mo p = 33))) ∧ M = M0) [.long (1819238756 : Int64)] [] rfl rfl rfl rfl (Nat.le_of_ble_eq_true rfl) (Nat.le_of_ble_eq_true rfl) (w_m_isWord _ M T L mo p 33 hK (by decide) (by decide) (1819238756 : Int64) (by decide) _ ⟨rfl, rfl⟩) ?_
  rintro _ _ ⟨rfl, rfl⟩
  show Wn _ 141 _ (77, [(0, .ref 114)], [.int (b2 (tKd T L mo p = 33))], M)
  refine Wn.run (tab := tb_m_leafOf) rfl 1 (c' := (if (b2 (tKd T L mo p = 33)) = 0 then 84 else 80, [(0, .ref 114)], [], M)) (o := []) rfl trivial ?_
  rw [if_neg (b2_n0.mpr (by omega))]
  show Wn _ 141 _ (80, [(0, .ref 114)], [], M)
  refine Wn.run (tab := tb_m_leafOf) rfl 2 (c' := (130, [(0, .ref 114)], [.int (nI 5)], M)) (o := []) rfl trivial ?_
  exact Wn.iret rfl hQ
set_option maxRecDepth 20000 in
theorem w_m_leafOf_11 (d : Nat) (M : Mm) (T : Nat → Nat) (L mo p : Nat) (hK : TkM M T L mo p) (hk : tKd T L mo p = 11) (Q : Po) (hQ : Q (some (.int (nI 6))) M) : Wn (d + 1) 141 Q (0, lv_args 0 [.ref 114], [], M) := by
  refine Wn.run (tab := tb_m_leafOf) rfl 2 (c' := (4, [(0, .ref 114)], [.long (112568616904046 : Int64), .ref 114], M)) (o := []) rfl trivial ?_
  refine Wn.callV (p := 114) (n := 2) (ix := 219) (ci := (10)) (fun r0 M0 => r0 = some (.int (b2 (tKd T L mo p = 28))) ∧ M = M0) [.long (112568616904046 : Int64)] [] rfl rfl rfl rfl (Nat.le_of_ble_eq_true rfl) (Nat.le_of_ble_eq_true rfl) (w_m_isWord _ M T L mo p 28 hK (by decide) (by decide) (112568616904046 : Int64) (by decide) _ ⟨rfl, rfl⟩) ?_
  rintro _ _ ⟨rfl, rfl⟩
  show Wn _ 141 _ (7, [(0, .ref 114)], [.int (b2 (tKd T L mo p = 28))], M)
  refine Wn.run (tab := tb_m_leafOf) rfl 1 (c' := (if (b2 (tKd T L mo p = 28)) = 0 then 14 else 10, [(0, .ref 114)], [], M)) (o := []) rfl trivial ?_
  rw [if_pos (b2_e0.mpr (by omega))]
  show Wn _ 141 _ (14, [(0, .ref 114)], [], M)
  refine Wn.run (tab := tb_m_leafOf) rfl 2 (c' := (18, [(0, .ref 114)], [.long (422776890724 : Int64), .ref 114], M)) (o := []) rfl trivial ?_
  refine Wn.callV (p := 114) (n := 2) (ix := 219) (ci := (10)) (fun r0 M0 => r0 = some (.int (b2 (tKd T L mo p = 29))) ∧ M = M0) [.long (422776890724 : Int64)] [] rfl rfl rfl rfl (Nat.le_of_ble_eq_true rfl) (Nat.le_of_ble_eq_true rfl) (w_m_isWord _ M T L mo p 29 hK (by decide) (by decide) (422776890724 : Int64) (by decide) _ ⟨rfl, rfl⟩) ?_
  rintro _ _ ⟨rfl, rfl⟩
  show Wn _ 141 _ (21, [(0, .ref 114)], [.int (b2 (tKd T L mo p = 29))], M)
  refine Wn.run (tab := tb_m_leafOf) rfl 1 (c' := (if (b2 (tKd T L mo p = 29)) = 0 then 28 else 24, [(0, .ref 114)], [], M)) (o := []) rfl trivial ?_
  rw [if_pos (b2_e0.mpr (by omega))]
  show Wn _ 141 _ (28, [(0, .ref 114)], [], M)
  refine Wn.run (tab := tb_m_leafOf) rfl 2 (c' := (32, [(0, .ref 114)], [.long (25209 : Int64), .ref 114], M)) (o := []) rfl trivial ?_
  refine Wn.callV (p := 114) (n := 2) (ix := 219) (ci := (10)) (fun r0 M0 => r0 = some (.int (b2 (tKd T L mo p = 30))) ∧ M = M0) [.long (25209 : Int64)] [] rfl rfl rfl rfl (Nat.le_of_ble_eq_true rfl) (Nat.le_of_ble_eq_true rfl) (w_m_isWord _ M T L mo p 30 hK (by decide) (by decide) (25209 : Int64) (by decide) _ ⟨rfl, rfl⟩) ?_
  rintro _ _ ⟨rfl, rfl⟩
  show Wn _ 141 _ (35, [(0, .ref 114)], [.int (b2 (tKd T L mo p = 30))], M)
  refine Wn.run (tab := tb_m_leafOf) rfl 1 (c' := (if (b2 (tKd T L mo p = 30)) = 0 then 42 else 38, [(0, .ref 114)], [], M)) (o := []) rfl trivial ?_
  rw [if_pos (b2_e0.mpr (by omega))]
  show Wn _ 141 _ (42, [(0, .ref 114)], [], M)
  refine Wn.run (tab := tb_m_leafOf) rfl 2 (c' := (46, [(0, .ref 114)], [.long (1870030194 : Int64), .ref 114], M)) (o := []) rfl trivial ?_
  refine Wn.callV (p := 114) (n := 2) (ix := 219) (ci := (10)) (fun r0 M0 => r0 = some (.int (b2 (tKd T L mo p = 31))) ∧ M = M0) [.long (1870030194 : Int64)] [] rfl rfl rfl rfl (Nat.le_of_ble_eq_true rfl) (Nat.le_of_ble_eq_true rfl) (w_m_isWord _ M T L mo p 31 hK (by decide) (by decide) (1870030194 : Int64) (by decide) _ ⟨rfl, rfl⟩) ?_
  rintro _ _ ⟨rfl, rfl⟩
  show Wn _ 141 _ (49, [(0, .ref 114)], [.int (b2 (tKd T L mo p = 31))], M)
  refine Wn.run (tab := tb_m_leafOf) rfl 1 (c' := (if (b2 (tKd T L mo p = 31)) = 0 then 56 else 52, [(0, .ref 114)], [], M)) (o := []) rfl trivial ?_
  rw [if_pos (b2_e0.mpr (by omega))]
  show Wn _ 141 _ (56, [(0, .ref 114)], [], M)
  refine Wn.run (tab := tb_m_leafOf) rfl 2 (c' := (60, [(0, .ref 114)], [.long (127978976601458 : Int64), .ref 114], M)) (o := []) rfl trivial ?_
  refine Wn.callV (p := 114) (n := 2) (ix := 219) (ci := (10)) (fun r0 M0 => r0 = some (.int (b2 (tKd T L mo p = 32))) ∧ M = M0) [.long (127978976601458 : Int64)] [] rfl rfl rfl rfl (Nat.le_of_ble_eq_true rfl) (Nat.le_of_ble_eq_true rfl) (w_m_isWord _ M T L mo p 32 hK (by decide) (by decide) (127978976601458 : Int64) (by decide) _ ⟨rfl, rfl⟩) ?_
  rintro _ _ ⟨rfl, rfl⟩
  show Wn _ 141 _ (63, [(0, .ref 114)], [.int (b2 (tKd T L mo p = 32))], M)
  refine Wn.run (tab := tb_m_leafOf) rfl 1 (c' := (if (b2 (tKd T L mo p = 32)) = 0 then 70 else 66, [(0, .ref 114)], [], M)) (o := []) rfl trivial ?_
  rw [if_pos (b2_e0.mpr (by omega))]
  show Wn _ 141 _ (70, [(0, .ref 114)], [], M)
  refine Wn.run (tab := tb_m_leafOf) rfl 2 (c' := (74, [(0, .ref 114)], [.long (1819238756 : Int64), .ref 114], M)) (o := []) rfl trivial ?_
  refine Wn.callV (p := 114) (n := 2) (ix := 219) (ci := (10)) (fun r0 M0 => r0 = some (.int (b2 (tKd T L mo p = 33))) ∧ M = M0) [.long (1819238756 : Int64)] [] rfl rfl rfl rfl (Nat.le_of_ble_eq_true rfl) (Nat.le_of_ble_eq_true rfl) (w_m_isWord _ M T L mo p 33 hK (by decide) (by decide) (1819238756 : Int64) (by decide) _ ⟨rfl, rfl⟩) ?_
  rintro _ _ ⟨rfl, rfl⟩
  show Wn _ 141 _ (77, [(0, .ref 114)], [.int (b2 (tKd T L mo p = 33))], M)
  refine Wn.run (tab := tb_m_leafOf) rfl 1 (c' := (if (b2 (tKd T L mo p = 33)) = 0 then 84 else 80, [(0, .ref 114)], [], M)) (o := []) rfl trivial ?_
  rw [if_pos (b2_e0.mpr (by omega))]
  show Wn _ 141 _ (84, [(0, .ref 114)], [], M)
  refine Wn.run (tab := tb_m_leafOf) rfl 2 (c' := (88, [(0, .ref 114)], [.long (6906725 : Int64), .ref 114], M)) (o := []) rfl trivial ?_
  refine Wn.callV (p := 114) (n := 2) (ix := 219) (ci := (10)) (fun r0 M0 => r0 = some (.int (b2 (tKd T L mo p = 11))) ∧ M = M0) [.long (6906725 : Int64)] [] rfl rfl rfl rfl (Nat.le_of_ble_eq_true rfl) (Nat.le_of_ble_eq_true rfl) (w_m_isWord _ M T L mo p 11 hK (by decide) (by decide) (6906725 : Int64) (by decide) _ ⟨rfl, rfl⟩) ?_
  rintro _ _ ⟨rfl, rfl⟩
  show Wn _ 141 _ (91, [(0, .ref 114)], [.int (b2 (tKd T L mo p = 11))], M)
  refine Wn.run (tab := tb_m_leafOf) rfl 1 (c' := (if (b2 (tKd T L mo p = 11)) = 0 then 99 else 94, [(0, .ref 114)], [], M)) (o := []) rfl trivial ?_
  rw [if_neg (b2_n0.mpr (by omega))]
  show Wn _ 141 _ (94, [(0, .ref 114)], [], M)
  refine Wn.run (tab := tb_m_leafOf) rfl 2 (c' := (130, [(0, .ref 114)], [.int (nI 6)], M)) (o := []) rfl trivial ?_
  exact Wn.iret rfl hQ
set_option maxRecDepth 20000 in
theorem w_m_leafOf_34 (d : Nat) (M : Mm) (T : Nat → Nat) (L mo p : Nat) (hK : TkM M T L mo p) (hk : tKd T L mo p = 34) (Q : Po) (hQ : Q (some (.int (nI 7))) M) : Wn (d + 1) 141 Q (0, lv_args 0 [.ref 114], [], M) := by
  refine Wn.run (tab := tb_m_leafOf) rfl 2 (c' := (4, [(0, .ref 114)], [.long (112568616904046 : Int64), .ref 114], M)) (o := []) rfl trivial ?_
  refine Wn.callV (p := 114) (n := 2) (ix := 219) (ci := (10)) (fun r0 M0 => r0 = some (.int (b2 (tKd T L mo p = 28))) ∧ M = M0) [.long (112568616904046 : Int64)] [] rfl rfl rfl rfl (Nat.le_of_ble_eq_true rfl) (Nat.le_of_ble_eq_true rfl) (w_m_isWord _ M T L mo p 28 hK (by decide) (by decide) (112568616904046 : Int64) (by decide) _ ⟨rfl, rfl⟩) ?_
  rintro _ _ ⟨rfl, rfl⟩
  show Wn _ 141 _ (7, [(0, .ref 114)], [.int (b2 (tKd T L mo p = 28))], M)
  refine Wn.run (tab := tb_m_leafOf) rfl 1 (c' := (if (b2 (tKd T L mo p = 28)) = 0 then 14 else 10, [(0, .ref 114)], [], M)) (o := []) rfl trivial ?_
  rw [if_pos (b2_e0.mpr (by omega))]
  show Wn _ 141 _ (14, [(0, .ref 114)], [], M)
  refine Wn.run (tab := tb_m_leafOf) rfl 2 (c' := (18, [(0, .ref 114)], [.long (422776890724 : Int64), .ref 114], M)) (o := []) rfl trivial ?_
  refine Wn.callV (p := 114) (n := 2) (ix := 219) (ci := (10)) (fun r0 M0 => r0 = some (.int (b2 (tKd T L mo p = 29))) ∧ M = M0) [.long (422776890724 : Int64)] [] rfl rfl rfl rfl (Nat.le_of_ble_eq_true rfl) (Nat.le_of_ble_eq_true rfl) (w_m_isWord _ M T L mo p 29 hK (by decide) (by decide) (422776890724 : Int64) (by decide) _ ⟨rfl, rfl⟩) ?_
  rintro _ _ ⟨rfl, rfl⟩
  show Wn _ 141 _ (21, [(0, .ref 114)], [.int (b2 (tKd T L mo p = 29))], M)
  refine Wn.run (tab := tb_m_leafOf) rfl 1 (c' := (if (b2 (tKd T L mo p = 29)) = 0 then 28 else 24, [(0, .ref 114)], [], M)) (o := []) rfl trivial ?_
  rw [if_pos (b2_e0.mpr (by omega))]
  show Wn _ 141 _ (28, [(0, .ref 114)], [], M)
  refine Wn.run (tab := tb_m_leafOf) rfl 2 (c' := (32, [(0, .ref 114)], [.long (25209 : Int64), .ref 114], M)) (o := []) rfl trivial ?_
  refine Wn.callV (p := 114) (n := 2) (ix := 219) (ci := (10)) (fun r0 M0 => r0 = some (.int (b2 (tKd T L mo p = 30))) ∧ M = M0) [.long (25209 : Int64)] [] rfl rfl rfl rfl (Nat.le_of_ble_eq_true rfl) (Nat.le_of_ble_eq_true rfl) (w_m_isWord _ M T L mo p 30 hK (by decide) (by decide) (25209 : Int64) (by decide) _ ⟨rfl, rfl⟩) ?_
  rintro _ _ ⟨rfl, rfl⟩
  show Wn _ 141 _ (35, [(0, .ref 114)], [.int (b2 (tKd T L mo p = 30))], M)
  refine Wn.run (tab := tb_m_leafOf) rfl 1 (c' := (if (b2 (tKd T L mo p = 30)) = 0 then 42 else 38, [(0, .ref 114)], [], M)) (o := []) rfl trivial ?_
  rw [if_pos (b2_e0.mpr (by omega))]
  show Wn _ 141 _ (42, [(0, .ref 114)], [], M)
  refine Wn.run (tab := tb_m_leafOf) rfl 2 (c' := (46, [(0, .ref 114)], [.long (1870030194 : Int64), .ref 114], M)) (o := []) rfl trivial ?_
  refine Wn.callV (p := 114) (n := 2) (ix := 219) (ci := (10)) (fun r0 M0 => r0 = some (.int (b2 (tKd T L mo p = 31))) ∧ M = M0) [.long (1870030194 : Int64)] [] rfl rfl rfl rfl (Nat.le_of_ble_eq_true rfl) (Nat.le_of_ble_eq_true rfl) (w_m_isWord _ M T L mo p 31 hK (by decide) (by decide) (1870030194 : Int64) (by decide) _ ⟨rfl, rfl⟩) ?_
  rintro _ _ ⟨rfl, rfl⟩
  show Wn _ 141 _ (49, [(0, .ref 114)], [.int (b2 (tKd T L mo p = 31))], M)
  refine Wn.run (tab := tb_m_leafOf) rfl 1 (c' := (if (b2 (tKd T L mo p = 31)) = 0 then 56 else 52, [(0, .ref 114)], [], M)) (o := []) rfl trivial ?_
  rw [if_pos (b2_e0.mpr (by omega))]
  show Wn _ 141 _ (56, [(0, .ref 114)], [], M)
  refine Wn.run (tab := tb_m_leafOf) rfl 2 (c' := (60, [(0, .ref 114)], [.long (127978976601458 : Int64), .ref 114], M)) (o := []) rfl trivial ?_
  refine Wn.callV (p := 114) (n := 2) (ix := 219) (ci := (10)) (fun r0 M0 => r0 = some (.int (b2 (tKd T L mo p = 32))) ∧ M = M0) [.long (127978976601458 : Int64)] [] rfl rfl rfl rfl (Nat.le_of_ble_eq_true rfl) (Nat.le_of_ble_eq_true rfl) (w_m_isWord _ M T L mo p 32 hK (by decide) (by decide) (127978976601458 : Int64) (by decide) _ ⟨rfl, rfl⟩) ?_
  rintro _ _ ⟨rfl, rfl⟩
  show Wn _ 141 _ (63, [(0, .ref 114)], [.int (b2 (tKd T L mo p = 32))], M)
  refine Wn.run (tab := tb_m_leafOf) rfl 1 (c' := (if (b2 (tKd T L mo p = 32)) = 0 then 70 else 66, [(0, .ref 114)], [], M)) (o := []) rfl trivial ?_
  rw [if_pos (b2_e0.mpr (by omega))]
  show Wn _ 141 _ (70, [(0, .ref 114)], [], M)
  refine Wn.run (tab := tb_m_leafOf) rfl 2 (c' := (74, [(0, .ref 114)], [.long (1819238756 : Int64), .ref 114], M)) (o := []) rfl trivial ?_
  refine Wn.callV (p := 114) (n := 2) (ix := 219) (ci := (10)) (fun r0 M0 => r0 = some (.int (b2 (tKd T L mo p = 33))) ∧ M = M0) [.long (1819238756 : Int64)] [] rfl rfl rfl rfl (Nat.le_of_ble_eq_true rfl) (Nat.le_of_ble_eq_true rfl) (w_m_isWord _ M T L mo p 33 hK (by decide) (by decide) (1819238756 : Int64) (by decide) _ ⟨rfl, rfl⟩) ?_
  rintro _ _ ⟨rfl, rfl⟩
  show Wn _ 141 _ (77, [(0, .ref 114)], [.int (b2 (tKd T L mo p = 33))], M)
  refine Wn.run (tab := tb_m_leafOf) rfl 1 (c' := (if (b2 (tKd T L mo p = 33)) = 0 then 84 else 80, [(0, .ref 114)], [], M)) (o := []) rfl trivial ?_
  rw [if_pos (b2_e0.mpr (by omega))]
  show Wn _ 141 _ (84, [(0, .ref 114)], [], M)
  refine Wn.run (tab := tb_m_leafOf) rfl 2 (c' := (88, [(0, .ref 114)], [.long (6906725 : Int64), .ref 114], M)) (o := []) rfl trivial ?_
  refine Wn.callV (p := 114) (n := 2) (ix := 219) (ci := (10)) (fun r0 M0 => r0 = some (.int (b2 (tKd T L mo p = 11))) ∧ M = M0) [.long (6906725 : Int64)] [] rfl rfl rfl rfl (Nat.le_of_ble_eq_true rfl) (Nat.le_of_ble_eq_true rfl) (w_m_isWord _ M T L mo p 11 hK (by decide) (by decide) (6906725 : Int64) (by decide) _ ⟨rfl, rfl⟩) ?_
  rintro _ _ ⟨rfl, rfl⟩
  show Wn _ 141 _ (91, [(0, .ref 114)], [.int (b2 (tKd T L mo p = 11))], M)
  refine Wn.run (tab := tb_m_leafOf) rfl 1 (c' := (if (b2 (tKd T L mo p = 11)) = 0 then 99 else 94, [(0, .ref 114)], [], M)) (o := []) rfl trivial ?_
  rw [if_pos (b2_e0.mpr (by omega))]
  show Wn _ 141 _ (99, [(0, .ref 114)], [], M)
  refine Wn.run (tab := tb_m_leafOf) rfl 2 (c' := (103, [(0, .ref 114)], [.long (31650960098157924 : Int64), .ref 114], M)) (o := []) rfl trivial ?_
  refine Wn.callV (p := 114) (n := 2) (ix := 219) (ci := (10)) (fun r0 M0 => r0 = some (.int (b2 (tKd T L mo p = 34))) ∧ M = M0) [.long (31650960098157924 : Int64)] [] rfl rfl rfl rfl (Nat.le_of_ble_eq_true rfl) (Nat.le_of_ble_eq_true rfl) (w_m_isWord _ M T L mo p 34 hK (by decide) (by decide) (31650960098157924 : Int64) (by decide) _ ⟨rfl, rfl⟩) ?_
  rintro _ _ ⟨rfl, rfl⟩
  show Wn _ 141 _ (106, [(0, .ref 114)], [.int (b2 (tKd T L mo p = 34))], M)
  refine Wn.run (tab := tb_m_leafOf) rfl 1 (c' := (if (b2 (tKd T L mo p = 34)) = 0 then 114 else 109, [(0, .ref 114)], [], M)) (o := []) rfl trivial ?_
  rw [if_neg (b2_n0.mpr (by omega))]
  show Wn _ 141 _ (109, [(0, .ref 114)], [], M)
  refine Wn.run (tab := tb_m_leafOf) rfl 2 (c' := (130, [(0, .ref 114)], [.int (nI 7)], M)) (o := []) rfl trivial ?_
  exact Wn.iret rfl hQ
set_option maxRecDepth 20000 in
theorem w_m_leafOf_35 (d : Nat) (M : Mm) (T : Nat → Nat) (L mo p : Nat) (hK : TkM M T L mo p) (hk : tKd T L mo p = 35) (Q : Po) (hQ : Q (some (.int (nI 8))) M) : Wn (d + 1) 141 Q (0, lv_args 0 [.ref 114], [], M) := by
  refine Wn.run (tab := tb_m_leafOf) rfl 2 (c' := (4, [(0, .ref 114)], [.long (112568616904046 : Int64), .ref 114], M)) (o := []) rfl trivial ?_
  refine Wn.callV (p := 114) (n := 2) (ix := 219) (ci := (10)) (fun r0 M0 => r0 = some (.int (b2 (tKd T L mo p = 28))) ∧ M = M0) [.long (112568616904046 : Int64)] [] rfl rfl rfl rfl (Nat.le_of_ble_eq_true rfl) (Nat.le_of_ble_eq_true rfl) (w_m_isWord _ M T L mo p 28 hK (by decide) (by decide) (112568616904046 : Int64) (by decide) _ ⟨rfl, rfl⟩) ?_
  rintro _ _ ⟨rfl, rfl⟩
  show Wn _ 141 _ (7, [(0, .ref 114)], [.int (b2 (tKd T L mo p = 28))], M)
  refine Wn.run (tab := tb_m_leafOf) rfl 1 (c' := (if (b2 (tKd T L mo p = 28)) = 0 then 14 else 10, [(0, .ref 114)], [], M)) (o := []) rfl trivial ?_
  rw [if_pos (b2_e0.mpr (by omega))]
  show Wn _ 141 _ (14, [(0, .ref 114)], [], M)
  refine Wn.run (tab := tb_m_leafOf) rfl 2 (c' := (18, [(0, .ref 114)], [.long (422776890724 : Int64), .ref 114], M)) (o := []) rfl trivial ?_
  refine Wn.callV (p := 114) (n := 2) (ix := 219) (ci := (10)) (fun r0 M0 => r0 = some (.int (b2 (tKd T L mo p = 29))) ∧ M = M0) [.long (422776890724 : Int64)] [] rfl rfl rfl rfl (Nat.le_of_ble_eq_true rfl) (Nat.le_of_ble_eq_true rfl) (w_m_isWord _ M T L mo p 29 hK (by decide) (by decide) (422776890724 : Int64) (by decide) _ ⟨rfl, rfl⟩) ?_
  rintro _ _ ⟨rfl, rfl⟩
  show Wn _ 141 _ (21, [(0, .ref 114)], [.int (b2 (tKd T L mo p = 29))], M)
  refine Wn.run (tab := tb_m_leafOf) rfl 1 (c' := (if (b2 (tKd T L mo p = 29)) = 0 then 28 else 24, [(0, .ref 114)], [], M)) (o := []) rfl trivial ?_
  rw [if_pos (b2_e0.mpr (by omega))]
  show Wn _ 141 _ (28, [(0, .ref 114)], [], M)
  refine Wn.run (tab := tb_m_leafOf) rfl 2 (c' := (32, [(0, .ref 114)], [.long (25209 : Int64), .ref 114], M)) (o := []) rfl trivial ?_
  refine Wn.callV (p := 114) (n := 2) (ix := 219) (ci := (10)) (fun r0 M0 => r0 = some (.int (b2 (tKd T L mo p = 30))) ∧ M = M0) [.long (25209 : Int64)] [] rfl rfl rfl rfl (Nat.le_of_ble_eq_true rfl) (Nat.le_of_ble_eq_true rfl) (w_m_isWord _ M T L mo p 30 hK (by decide) (by decide) (25209 : Int64) (by decide) _ ⟨rfl, rfl⟩) ?_
  rintro _ _ ⟨rfl, rfl⟩
  show Wn _ 141 _ (35, [(0, .ref 114)], [.int (b2 (tKd T L mo p = 30))], M)
  refine Wn.run (tab := tb_m_leafOf) rfl 1 (c' := (if (b2 (tKd T L mo p = 30)) = 0 then 42 else 38, [(0, .ref 114)], [], M)) (o := []) rfl trivial ?_
  rw [if_pos (b2_e0.mpr (by omega))]
  show Wn _ 141 _ (42, [(0, .ref 114)], [], M)
  refine Wn.run (tab := tb_m_leafOf) rfl 2 (c' := (46, [(0, .ref 114)], [.long (1870030194 : Int64), .ref 114], M)) (o := []) rfl trivial ?_
  refine Wn.callV (p := 114) (n := 2) (ix := 219) (ci := (10)) (fun r0 M0 => r0 = some (.int (b2 (tKd T L mo p = 31))) ∧ M = M0) [.long (1870030194 : Int64)] [] rfl rfl rfl rfl (Nat.le_of_ble_eq_true rfl) (Nat.le_of_ble_eq_true rfl) (w_m_isWord _ M T L mo p 31 hK (by decide) (by decide) (1870030194 : Int64) (by decide) _ ⟨rfl, rfl⟩) ?_
  rintro _ _ ⟨rfl, rfl⟩
  show Wn _ 141 _ (49, [(0, .ref 114)], [.int (b2 (tKd T L mo p = 31))], M)
  refine Wn.run (tab := tb_m_leafOf) rfl 1 (c' := (if (b2 (tKd T L mo p = 31)) = 0 then 56 else 52, [(0, .ref 114)], [], M)) (o := []) rfl trivial ?_
  rw [if_pos (b2_e0.mpr (by omega))]
  show Wn _ 141 _ (56, [(0, .ref 114)], [], M)
  refine Wn.run (tab := tb_m_leafOf) rfl 2 (c' := (60, [(0, .ref 114)], [.long (127978976601458 : Int64), .ref 114], M)) (o := []) rfl trivial ?_
  refine Wn.callV (p := 114) (n := 2) (ix := 219) (ci := (10)) (fun r0 M0 => r0 = some (.int (b2 (tKd T L mo p = 32))) ∧ M = M0) [.long (127978976601458 : Int64)] [] rfl rfl rfl rfl (Nat.le_of_ble_eq_true rfl) (Nat.le_of_ble_eq_true rfl) (w_m_isWord _ M T L mo p 32 hK (by decide) (by decide) (127978976601458 : Int64) (by decide) _ ⟨rfl, rfl⟩) ?_
  rintro _ _ ⟨rfl, rfl⟩
  show Wn _ 141 _ (63, [(0, .ref 114)], [.int (b2 (tKd T L mo p = 32))], M)
  refine Wn.run (tab := tb_m_leafOf) rfl 1 (c' := (if (b2 (tKd T L mo p = 32)) = 0 then 70 else 66, [(0, .ref 114)], [], M)) (o := []) rfl trivial ?_
  rw [if_pos (b2_e0.mpr (by omega))]
  show Wn _ 141 _ (70, [(0, .ref 114)], [], M)
  refine Wn.run (tab := tb_m_leafOf) rfl 2 (c' := (74, [(0, .ref 114)], [.long (1819238756 : Int64), .ref 114], M)) (o := []) rfl trivial ?_
  refine Wn.callV (p := 114) (n := 2) (ix := 219) (ci := (10)) (fun r0 M0 => r0 = some (.int (b2 (tKd T L mo p = 33))) ∧ M = M0) [.long (1819238756 : Int64)] [] rfl rfl rfl rfl (Nat.le_of_ble_eq_true rfl) (Nat.le_of_ble_eq_true rfl) (w_m_isWord _ M T L mo p 33 hK (by decide) (by decide) (1819238756 : Int64) (by decide) _ ⟨rfl, rfl⟩) ?_
  rintro _ _ ⟨rfl, rfl⟩
  show Wn _ 141 _ (77, [(0, .ref 114)], [.int (b2 (tKd T L mo p = 33))], M)
  refine Wn.run (tab := tb_m_leafOf) rfl 1 (c' := (if (b2 (tKd T L mo p = 33)) = 0 then 84 else 80, [(0, .ref 114)], [], M)) (o := []) rfl trivial ?_
  rw [if_pos (b2_e0.mpr (by omega))]
  show Wn _ 141 _ (84, [(0, .ref 114)], [], M)
  refine Wn.run (tab := tb_m_leafOf) rfl 2 (c' := (88, [(0, .ref 114)], [.long (6906725 : Int64), .ref 114], M)) (o := []) rfl trivial ?_
  refine Wn.callV (p := 114) (n := 2) (ix := 219) (ci := (10)) (fun r0 M0 => r0 = some (.int (b2 (tKd T L mo p = 11))) ∧ M = M0) [.long (6906725 : Int64)] [] rfl rfl rfl rfl (Nat.le_of_ble_eq_true rfl) (Nat.le_of_ble_eq_true rfl) (w_m_isWord _ M T L mo p 11 hK (by decide) (by decide) (6906725 : Int64) (by decide) _ ⟨rfl, rfl⟩) ?_
  rintro _ _ ⟨rfl, rfl⟩
  show Wn _ 141 _ (91, [(0, .ref 114)], [.int (b2 (tKd T L mo p = 11))], M)
  refine Wn.run (tab := tb_m_leafOf) rfl 1 (c' := (if (b2 (tKd T L mo p = 11)) = 0 then 99 else 94, [(0, .ref 114)], [], M)) (o := []) rfl trivial ?_
  rw [if_pos (b2_e0.mpr (by omega))]
  show Wn _ 141 _ (99, [(0, .ref 114)], [], M)
  refine Wn.run (tab := tb_m_leafOf) rfl 2 (c' := (103, [(0, .ref 114)], [.long (31650960098157924 : Int64), .ref 114], M)) (o := []) rfl trivial ?_
  refine Wn.callV (p := 114) (n := 2) (ix := 219) (ci := (10)) (fun r0 M0 => r0 = some (.int (b2 (tKd T L mo p = 34))) ∧ M = M0) [.long (31650960098157924 : Int64)] [] rfl rfl rfl rfl (Nat.le_of_ble_eq_true rfl) (Nat.le_of_ble_eq_true rfl) (w_m_isWord _ M T L mo p 34 hK (by decide) (by decide) (31650960098157924 : Int64) (by decide) _ ⟨rfl, rfl⟩) ?_
  rintro _ _ ⟨rfl, rfl⟩
  show Wn _ 141 _ (106, [(0, .ref 114)], [.int (b2 (tKd T L mo p = 34))], M)
  refine Wn.run (tab := tb_m_leafOf) rfl 1 (c' := (if (b2 (tKd T L mo p = 34)) = 0 then 114 else 109, [(0, .ref 114)], [], M)) (o := []) rfl trivial ?_
  rw [if_pos (b2_e0.mpr (by omega))]
  show Wn _ 141 _ (114, [(0, .ref 114)], [], M)
  refine Wn.run (tab := tb_m_leafOf) rfl 2 (c' := (118, [(0, .ref 114)], [.long (121450625394034 : Int64), .ref 114], M)) (o := []) rfl trivial ?_
  refine Wn.callV (p := 114) (n := 2) (ix := 219) (ci := (10)) (fun r0 M0 => r0 = some (.int (b2 (tKd T L mo p = 35))) ∧ M = M0) [.long (121450625394034 : Int64)] [] rfl rfl rfl rfl (Nat.le_of_ble_eq_true rfl) (Nat.le_of_ble_eq_true rfl) (w_m_isWord _ M T L mo p 35 hK (by decide) (by decide) (121450625394034 : Int64) (by decide) _ ⟨rfl, rfl⟩) ?_
  rintro _ _ ⟨rfl, rfl⟩
  show Wn _ 141 _ (121, [(0, .ref 114)], [.int (b2 (tKd T L mo p = 35))], M)
  refine Wn.run (tab := tb_m_leafOf) rfl 1 (c' := (if (b2 (tKd T L mo p = 35)) = 0 then 129 else 124, [(0, .ref 114)], [], M)) (o := []) rfl trivial ?_
  rw [if_neg (b2_n0.mpr (by omega))]
  show Wn _ 141 _ (124, [(0, .ref 114)], [], M)
  refine Wn.run (tab := tb_m_leafOf) rfl 2 (c' := (130, [(0, .ref 114)], [.int (nI 8)], M)) (o := []) rfl trivial ?_
  exact Wn.iret rfl hQ
set_option maxRecDepth 20000 in
theorem w_m_leafOf_0 (d : Nat) (M : Mm) (T : Nat → Nat) (L mo p : Nat) (hK : TkM M T L mo p) (hk : ¬ leK (tKd T L mo p)) (Q : Po) (hQ : Q (some (.int (-1 : Int32))) M) : Wn (d + 1) 141 Q (0, lv_args 0 [.ref 114], [], M) := by
  unfold leK at hk
  refine Wn.run (tab := tb_m_leafOf) rfl 2 (c' := (4, [(0, .ref 114)], [.long (112568616904046 : Int64), .ref 114], M)) (o := []) rfl trivial ?_
  refine Wn.callV (p := 114) (n := 2) (ix := 219) (ci := (10)) (fun r0 M0 => r0 = some (.int (b2 (tKd T L mo p = 28))) ∧ M = M0) [.long (112568616904046 : Int64)] [] rfl rfl rfl rfl (Nat.le_of_ble_eq_true rfl) (Nat.le_of_ble_eq_true rfl) (w_m_isWord _ M T L mo p 28 hK (by decide) (by decide) (112568616904046 : Int64) (by decide) _ ⟨rfl, rfl⟩) ?_
  rintro _ _ ⟨rfl, rfl⟩
  show Wn _ 141 _ (7, [(0, .ref 114)], [.int (b2 (tKd T L mo p = 28))], M)
  refine Wn.run (tab := tb_m_leafOf) rfl 1 (c' := (if (b2 (tKd T L mo p = 28)) = 0 then 14 else 10, [(0, .ref 114)], [], M)) (o := []) rfl trivial ?_
  rw [if_pos (b2_e0.mpr (by omega))]
  show Wn _ 141 _ (14, [(0, .ref 114)], [], M)
  refine Wn.run (tab := tb_m_leafOf) rfl 2 (c' := (18, [(0, .ref 114)], [.long (422776890724 : Int64), .ref 114], M)) (o := []) rfl trivial ?_
  refine Wn.callV (p := 114) (n := 2) (ix := 219) (ci := (10)) (fun r0 M0 => r0 = some (.int (b2 (tKd T L mo p = 29))) ∧ M = M0) [.long (422776890724 : Int64)] [] rfl rfl rfl rfl (Nat.le_of_ble_eq_true rfl) (Nat.le_of_ble_eq_true rfl) (w_m_isWord _ M T L mo p 29 hK (by decide) (by decide) (422776890724 : Int64) (by decide) _ ⟨rfl, rfl⟩) ?_
  rintro _ _ ⟨rfl, rfl⟩
  show Wn _ 141 _ (21, [(0, .ref 114)], [.int (b2 (tKd T L mo p = 29))], M)
  refine Wn.run (tab := tb_m_leafOf) rfl 1 (c' := (if (b2 (tKd T L mo p = 29)) = 0 then 28 else 24, [(0, .ref 114)], [], M)) (o := []) rfl trivial ?_
  rw [if_pos (b2_e0.mpr (by omega))]
  show Wn _ 141 _ (28, [(0, .ref 114)], [], M)
  refine Wn.run (tab := tb_m_leafOf) rfl 2 (c' := (32, [(0, .ref 114)], [.long (25209 : Int64), .ref 114], M)) (o := []) rfl trivial ?_
  refine Wn.callV (p := 114) (n := 2) (ix := 219) (ci := (10)) (fun r0 M0 => r0 = some (.int (b2 (tKd T L mo p = 30))) ∧ M = M0) [.long (25209 : Int64)] [] rfl rfl rfl rfl (Nat.le_of_ble_eq_true rfl) (Nat.le_of_ble_eq_true rfl) (w_m_isWord _ M T L mo p 30 hK (by decide) (by decide) (25209 : Int64) (by decide) _ ⟨rfl, rfl⟩) ?_
  rintro _ _ ⟨rfl, rfl⟩
  show Wn _ 141 _ (35, [(0, .ref 114)], [.int (b2 (tKd T L mo p = 30))], M)
  refine Wn.run (tab := tb_m_leafOf) rfl 1 (c' := (if (b2 (tKd T L mo p = 30)) = 0 then 42 else 38, [(0, .ref 114)], [], M)) (o := []) rfl trivial ?_
  rw [if_pos (b2_e0.mpr (by omega))]
  show Wn _ 141 _ (42, [(0, .ref 114)], [], M)
  refine Wn.run (tab := tb_m_leafOf) rfl 2 (c' := (46, [(0, .ref 114)], [.long (1870030194 : Int64), .ref 114], M)) (o := []) rfl trivial ?_
  refine Wn.callV (p := 114) (n := 2) (ix := 219) (ci := (10)) (fun r0 M0 => r0 = some (.int (b2 (tKd T L mo p = 31))) ∧ M = M0) [.long (1870030194 : Int64)] [] rfl rfl rfl rfl (Nat.le_of_ble_eq_true rfl) (Nat.le_of_ble_eq_true rfl) (w_m_isWord _ M T L mo p 31 hK (by decide) (by decide) (1870030194 : Int64) (by decide) _ ⟨rfl, rfl⟩) ?_
  rintro _ _ ⟨rfl, rfl⟩
  show Wn _ 141 _ (49, [(0, .ref 114)], [.int (b2 (tKd T L mo p = 31))], M)
  refine Wn.run (tab := tb_m_leafOf) rfl 1 (c' := (if (b2 (tKd T L mo p = 31)) = 0 then 56 else 52, [(0, .ref 114)], [], M)) (o := []) rfl trivial ?_
  rw [if_pos (b2_e0.mpr (by omega))]
  show Wn _ 141 _ (56, [(0, .ref 114)], [], M)
  refine Wn.run (tab := tb_m_leafOf) rfl 2 (c' := (60, [(0, .ref 114)], [.long (127978976601458 : Int64), .ref 114], M)) (o := []) rfl trivial ?_
  refine Wn.callV (p := 114) (n := 2) (ix := 219) (ci := (10)) (fun r0 M0 => r0 = some (.int (b2 (tKd T L mo p = 32))) ∧ M = M0) [.long (127978976601458 : Int64)] [] rfl rfl rfl rfl (Nat.le_of_ble_eq_true rfl) (Nat.le_of_ble_eq_true rfl) (w_m_isWord _ M T L mo p 32 hK (by decide) (by decide) (127978976601458 : Int64) (by decide) _ ⟨rfl, rfl⟩) ?_
  rintro _ _ ⟨rfl, rfl⟩
  show Wn _ 141 _ (63, [(0, .ref 114)], [.int (b2 (tKd T L mo p = 32))], M)
  refine Wn.run (tab := tb_m_leafOf) rfl 1 (c' := (if (b2 (tKd T L mo p = 32)) = 0 then 70 else 66, [(0, .ref 114)], [], M)) (o := []) rfl trivial ?_
  rw [if_pos (b2_e0.mpr (by omega))]
  show Wn _ 141 _ (70, [(0, .ref 114)], [], M)
  refine Wn.run (tab := tb_m_leafOf) rfl 2 (c' := (74, [(0, .ref 114)], [.long (1819238756 : Int64), .ref 114], M)) (o := []) rfl trivial ?_
  refine Wn.callV (p := 114) (n := 2) (ix := 219) (ci := (10)) (fun r0 M0 => r0 = some (.int (b2 (tKd T L mo p = 33))) ∧ M = M0) [.long (1819238756 : Int64)] [] rfl rfl rfl rfl (Nat.le_of_ble_eq_true rfl) (Nat.le_of_ble_eq_true rfl) (w_m_isWord _ M T L mo p 33 hK (by decide) (by decide) (1819238756 : Int64) (by decide) _ ⟨rfl, rfl⟩) ?_
  rintro _ _ ⟨rfl, rfl⟩
  show Wn _ 141 _ (77, [(0, .ref 114)], [.int (b2 (tKd T L mo p = 33))], M)
  refine Wn.run (tab := tb_m_leafOf) rfl 1 (c' := (if (b2 (tKd T L mo p = 33)) = 0 then 84 else 80, [(0, .ref 114)], [], M)) (o := []) rfl trivial ?_
  rw [if_pos (b2_e0.mpr (by omega))]
  show Wn _ 141 _ (84, [(0, .ref 114)], [], M)
  refine Wn.run (tab := tb_m_leafOf) rfl 2 (c' := (88, [(0, .ref 114)], [.long (6906725 : Int64), .ref 114], M)) (o := []) rfl trivial ?_
  refine Wn.callV (p := 114) (n := 2) (ix := 219) (ci := (10)) (fun r0 M0 => r0 = some (.int (b2 (tKd T L mo p = 11))) ∧ M = M0) [.long (6906725 : Int64)] [] rfl rfl rfl rfl (Nat.le_of_ble_eq_true rfl) (Nat.le_of_ble_eq_true rfl) (w_m_isWord _ M T L mo p 11 hK (by decide) (by decide) (6906725 : Int64) (by decide) _ ⟨rfl, rfl⟩) ?_
  rintro _ _ ⟨rfl, rfl⟩
  show Wn _ 141 _ (91, [(0, .ref 114)], [.int (b2 (tKd T L mo p = 11))], M)
  refine Wn.run (tab := tb_m_leafOf) rfl 1 (c' := (if (b2 (tKd T L mo p = 11)) = 0 then 99 else 94, [(0, .ref 114)], [], M)) (o := []) rfl trivial ?_
  rw [if_pos (b2_e0.mpr (by omega))]
  show Wn _ 141 _ (99, [(0, .ref 114)], [], M)
  refine Wn.run (tab := tb_m_leafOf) rfl 2 (c' := (103, [(0, .ref 114)], [.long (31650960098157924 : Int64), .ref 114], M)) (o := []) rfl trivial ?_
  refine Wn.callV (p := 114) (n := 2) (ix := 219) (ci := (10)) (fun r0 M0 => r0 = some (.int (b2 (tKd T L mo p = 34))) ∧ M = M0) [.long (31650960098157924 : Int64)] [] rfl rfl rfl rfl (Nat.le_of_ble_eq_true rfl) (Nat.le_of_ble_eq_true rfl) (w_m_isWord _ M T L mo p 34 hK (by decide) (by decide) (31650960098157924 : Int64) (by decide) _ ⟨rfl, rfl⟩) ?_
  rintro _ _ ⟨rfl, rfl⟩
  show Wn _ 141 _ (106, [(0, .ref 114)], [.int (b2 (tKd T L mo p = 34))], M)
  refine Wn.run (tab := tb_m_leafOf) rfl 1 (c' := (if (b2 (tKd T L mo p = 34)) = 0 then 114 else 109, [(0, .ref 114)], [], M)) (o := []) rfl trivial ?_
  rw [if_pos (b2_e0.mpr (by omega))]
  show Wn _ 141 _ (114, [(0, .ref 114)], [], M)
  refine Wn.run (tab := tb_m_leafOf) rfl 2 (c' := (118, [(0, .ref 114)], [.long (121450625394034 : Int64), .ref 114], M)) (o := []) rfl trivial ?_
  refine Wn.callV (p := 114) (n := 2) (ix := 219) (ci := (10)) (fun r0 M0 => r0 = some (.int (b2 (tKd T L mo p = 35))) ∧ M = M0) [.long (121450625394034 : Int64)] [] rfl rfl rfl rfl (Nat.le_of_ble_eq_true rfl) (Nat.le_of_ble_eq_true rfl) (w_m_isWord _ M T L mo p 35 hK (by decide) (by decide) (121450625394034 : Int64) (by decide) _ ⟨rfl, rfl⟩) ?_
  rintro _ _ ⟨rfl, rfl⟩
  show Wn _ 141 _ (121, [(0, .ref 114)], [.int (b2 (tKd T L mo p = 35))], M)
  refine Wn.run (tab := tb_m_leafOf) rfl 1 (c' := (if (b2 (tKd T L mo p = 35)) = 0 then 129 else 124, [(0, .ref 114)], [], M)) (o := []) rfl trivial ?_
  rw [if_pos (b2_e0.mpr (by omega))]
  show Wn _ 141 _ (129, [(0, .ref 114)], [], M)
  refine Wn.run (tab := tb_m_leafOf) rfl 1 (c' := (130, [(0, .ref 114)], [.int (-1 : Int32)], M)) (o := []) rfl trivial ?_
  exact Wn.iret rfl hQ
theorem w_m_leafOf (d : Nat) (M : Mm) (T : Nat → Nat) (L mo p : Nat) (hK : TkM M T L mo p) (Q : Po) (hQ : Q (some (.int (lfI (tKd T L mo p)))) M) : Wn (d + 1) 141 Q (0, lv_args 0 [.ref 114], [], M) := by
  by_cases k28 : tKd T L mo p = 28
  · exact w_m_leafOf_28 d M T L mo p hK k28 Q (by rw [k28] at hQ; exact hQ)
  by_cases k29 : tKd T L mo p = 29
  · exact w_m_leafOf_29 d M T L mo p hK k29 Q (by rw [k29] at hQ; exact hQ)
  by_cases k30 : tKd T L mo p = 30
  · exact w_m_leafOf_30 d M T L mo p hK k30 Q (by rw [k30] at hQ; exact hQ)
  by_cases k31 : tKd T L mo p = 31
  · exact w_m_leafOf_31 d M T L mo p hK k31 Q (by rw [k31] at hQ; exact hQ)
  by_cases k32 : tKd T L mo p = 32
  · exact w_m_leafOf_32 d M T L mo p hK k32 Q (by rw [k32] at hQ; exact hQ)
  by_cases k33 : tKd T L mo p = 33
  · exact w_m_leafOf_33 d M T L mo p hK k33 Q (by rw [k33] at hQ; exact hQ)
  by_cases k11 : tKd T L mo p = 11
  · exact w_m_leafOf_11 d M T L mo p hK k11 Q (by rw [k11] at hQ; exact hQ)
  by_cases k34 : tKd T L mo p = 34
  · exact w_m_leafOf_34 d M T L mo p hK k34 Q (by rw [k34] at hQ; exact hQ)
  by_cases k35 : tKd T L mo p = 35
  · exact w_m_leafOf_35 d M T L mo p hK k35 Q (by rw [k35] at hQ; exact hQ)
  refine w_m_leafOf_0 d M T L mo p hK (by omega) Q ?_
  rw [show lfI (tKd T L mo p) = -1 from if_neg (by omega)] at hQ
  exact hQ
