/-! The class reads a sentence. -/
theorem bo_sw : ∀ c, c < 36 → tsw [6, 25, 106, 104, 106, 106, 106, 106, 106, 106, 106, 106, 106, 104, 104, 104, 104, 104, 104, 104, 104, 104, 104] (Int32.ofInt (([0, 0, 0, 0, 0, 0, 0, 0, 17, 0, 5, 6, 7, 8, 9, 10, 11, 1, 2, 3, 4, 13, 14, 15, 12, 27, 26, 16, 18, 19, 20, 21, 22, 23, 24, 25] : List Int).getD ((nI c)).toNatClampNeg 0)) = if begK c then 104 else 106 := by decide +kernel
theorem ro_sw : ∀ c, c < 36 → begK c → tsw [16, 21, 183, 112, 134, 153, 153, 166, 166] (Int32.ofInt (([0, 0, 0, 0, 0, 0, 0, 0, 17, 0, 5, 6, 7, 8, 9, 10, 11, 1, 2, 3, 4, 13, 14, 15, 12, 27, 26, 16, 18, 19, 20, 21, 22, 23, 24, 25] : List Int).getD ((nI c)).toNatClampNeg 0)) = if c = 27 then 112 else if c = 8 then 134 else if c = 28 ∨ c = 29 then 153 else if c = 30 ∨ c = 31 then 166 else 183 := by decide +kernel
theorem w_sn_beginsOne (d : Nat) (q : Nat) (hq : isK q) (M : Mm) (Q : Po) (hQ : Q (some (.int (b2 (begK (q - 100000))))) M) : Wn (d + 0) 191 Q (0, lv_args 0 [.ref q], [], M) := by
  have h2 := hq
  unfold isK at h2
  refine Wn.run (tab := tb_sn_beginsOne) rfl 5 (c' := (tsw [6, 25, 106, 104, 106, 106, 106, 106, 106, 106, 106, 106, 106, 104, 104, 104, 104, 104, 104, 104, 104, 104, 104] (Int32.ofInt (([0, 0, 0, 0, 0, 0, 0, 0, 17, 0, 5, 6, 7, 8, 9, 10, 11, 1, 2, 3, 4, 13, 14, 15, 12, 27, 26, 16, 18, 19, 20, 21, 22, 23, 24, 25] : List Int).getD ((nI (q - 100000))).toNatClampNeg 0)), [(0, .ref q)], [], M)) (o := [isK q, ct [.ref 200003] ≤ 8, 200003 = 200003, vp_in (nI (q - 100000)) 36]) rfl ⟨hq, Nat.le_of_ble_eq_true rfl, rfl, vp_in_nI (by omega) (by decide)⟩ ?_
  rw [bo_sw (q - 100000) (by omega)]
  by_cases h : begK (q - 100000)
  · rw [if_pos h]
    rw [b2_t h] at hQ
    refine Wn.run (tab := tb_sn_beginsOne) rfl 1 (c' := (105, [(0, .ref q)], [.int (nI 1)], M)) (o := []) rfl trivial ?_
    exact Wn.zret rfl (Or.inr rfl) hQ
  · rw [if_neg h]
    rw [b2_f h] at hQ
    refine Wn.run (tab := tb_sn_beginsOne) rfl 1 (c' := (107, [(0, .ref q)], [.int (nI 0)], M)) (o := []) rfl trivial ?_
    exact Wn.zret rfl (Or.inl rfl) hQ
theorem begK_kR {T : Nat → Nat} {L mo p : Nat} : begK (kR T L mo p - 100000) ↔ begK (tKd T L mo p) := by
  unfold kR begK
  split
  · omega
  · rw [Nat.add_sub_cancel_left]
def PAn (M0 : Mm) (n a s : Nat) (u : Int32) : Po := fun r0 M' => r0 = none ∧ M'.1 24 = upd (M0.1 24) 3 (nI (n + 1)) ∧ M'.2.2 25 = va_up (M0.2.2 25) n a ∧ M'.2.2 26 = va_up (M0.2.2 26) n s ∧ M'.1 27 = upd (M0.1 27) n u ∧ Fr [24, 25, 26, 27] M0 M'
def PAx (M0 : Mm) : Po := fun r0 M' => r0 = none ∧ (∃ n, n ≤ 40 ∧ M'.1 24 3 = nI n) ∧ Fr [24, 25, 26, 27] M0 M'
set_option maxRecDepth 20000 in
theorem c_sn_add_ok (d : Nat) (M : Mm) (n : Nat) (hn : M.1 24 3 = nI n) (h40 : n < 40) (a s : Nat) (ha : isK a) (hs : isK s) (u : Int32) : Wn (d + 0) 193 (PAn M n a s u) (0, lv_args 0 [.ref 24, .ref a, .ref s, .int u], [], M) := by
  refine Wn.run (tab := tb_sn_add) rfl 4 (c' := (if (nI 40) ≤ (M.1 24 3) then 49 else 9, [(0, .ref 24), (1, .ref a), (2, .ref s), (3, .int u)], [], M)) (o := [shp 24 = (0, 4)]) rfl rfl ?_
  rw [hn, if_neg (mt (n_le rfl rfl (by omega) (by omega)).mp (show ¬ 40 ≤ n by omega))]
  have k25 : aok shp 25 4 (M.1 24 3) := ak1 (n := 40) rfl rfl hn h40
  refine Wn.run (tab := tb_sn_add) rfl 6 (c' := (19, [(0, .ref 24), (1, .ref a), (2, .ref s), (3, .int u)], [], (mR M 25 (va_up (M.2.2 25) ((M.1 24 3)).toNatClampNeg a)))) (o := [shp 24 = (0, 4), shp 24 = (0, 4), aok shp 25 4 (M.1 24 3), isK a]) rfl ⟨rfl, rfl, k25, ha⟩ ?_
  rw [show ((M.1 24 3)).toNatClampNeg = n from cl1 hn (by omega)]
  generalize hM1 : (mR M 25 (va_up (M.2.2 25) n a)) = M1
  have h1 : M1.1 = M.1 := by rw [← hM1]; rfl
  have hn1 : M1.1 24 3 = nI n := by rw [h1]; exact hn
  have k26 : aok shp 26 4 (M1.1 24 3) := ak1 (n := 40) rfl rfl hn1 h40
  refine Wn.run (tab := tb_sn_add) rfl 6 (c' := (29, [(0, .ref 24), (1, .ref a), (2, .ref s), (3, .int u)], [], (mR M1 26 (va_up (M1.2.2 26) ((M1.1 24 3)).toNatClampNeg s)))) (o := [shp 24 = (0, 4), shp 24 = (0, 4), aok shp 26 4 (M1.1 24 3), isK s]) rfl ⟨rfl, rfl, k26, hs⟩ ?_
  rw [show ((M1.1 24 3)).toNatClampNeg = n from cl1 hn1 (by omega)]
  generalize hM2 : (mR M1 26 (va_up (M1.2.2 26) n s)) = M2
  have h2 : M2.1 = M.1 := by rw [← hM2]; exact h1
  have hn2 : M2.1 24 3 = nI n := by rw [h2]; exact hn
  have k27 : aok shp 27 0 (M2.1 24 3) := ak1 (n := 40) rfl rfl hn2 h40
  refine Wn.run (tab := tb_sn_add) rfl 6 (c' := (39, [(0, .ref 24), (1, .ref a), (2, .ref s), (3, .int u)], [], (mI M2 27 (upd (M2.1 27) ((M2.1 24 3)).toNatClampNeg u)))) (o := [shp 24 = (0, 4), shp 24 = (0, 4), aok shp 27 0 (M2.1 24 3)]) rfl ⟨rfl, rfl, k27⟩ ?_
  rw [show ((M2.1 24 3)).toNatClampNeg = n from cl1 hn2 (by omega)]
  generalize hM3 : (mI M2 27 (upd (M2.1 27) n u)) = M3
  have f3 := fr_1I hM3
  have hn3 : M3.1 24 3 = nI n := by rw [(f3 24 (by decide)).1]; exact hn2
  refine Wn.run (tab := tb_sn_add) rfl 6 (c' := (49, [(0, .ref 24), (1, .ref a), (2, .ref s), (3, .int u)], [], (mI M3 24 (upd (M3.1 24) 3 ((M3.1 24 3) + (nI 1)))))) (o := [shp 24 = (0, 4), shp 24 = (0, 4)]) rfl ⟨rfl, rfl⟩ ?_
  rw [hn3, nI_add]
  generalize hM4 : (mI M3 24 (upd (M3.1 24) 3 (nI (n + 1)))) = M4
  have f1 := fr_1R hM1
  have f2 := fr_1R hM2
  have f4 := fr_1I hM4
  refine Wn.vret rfl ⟨rfl, ?_, ?_, ?_, ?_, fr_tr (fr_tr (fr_tr (fr_up f1 (by decide)) f2 (by decide)) f3 (by decide)) f4 (by decide)⟩
  · rw [mI_eq hM4, (f3 24 (by decide)).1, h2]
  · rw [(f4 25 (by decide)).2.2, (f3 25 (by decide)).2.2, (f2 25 (by decide)).2.2, mR_eq hM1]
  · rw [(f4 26 (by decide)).2.2, (f3 26 (by decide)).2.2, mR_eq hM2, (f1 26 (by decide)).2.2]
  · rw [(f4 27 (by decide)).1, mI_eq hM3, h2]
theorem c_sn_add_D (d : Nat) (M : Mm) (hn : ∃ n, n ≤ 40 ∧ M.1 24 3 = nI n) (a s : Nat) (ha : isK a) (hs : isK s) (u : Int32) : Wn (d + 0) 193 (PAx M) (0, lv_args 0 [.ref 24, .ref a, .ref s, .int u], [], M) := by
  obtain ⟨n, h40, hn⟩ := hn
  by_cases c : n = 40
  · have c9 : (nI 40) ≤ nI n := (n_le rfl rfl (by omega) (by omega)).mpr (by omega)
    refine Wn.run (tab := tb_sn_add) rfl 4 (c' := (if (nI 40) ≤ (M.1 24 3) then 49 else 9, [(0, .ref 24), (1, .ref a), (2, .ref s), (3, .int u)], [], M)) (o := [shp 24 = (0, 4)]) rfl rfl ?_
    rw [hn, if_pos c9]
    exact Wn.vret rfl ⟨rfl, ⟨n, h40, hn⟩, fr_rf _ _⟩
  · refine (c_sn_add_ok d M n hn (by omega) a s ha hs u).mono ?_
    rintro r0 M' ⟨rfl, q1, q2, q3, q4, q5⟩
    exact ⟨rfl, ⟨n + 1, by omega, by rw [q1, pk_us]⟩, q5⟩
/-- the class's sentence in the draft -/
def SN (M : Mm) (st : Sst) : Prop := M.1 24 3 = nI st.2.1 ∧ M.1 24 4 = nI st.2.2.1 ∧ ∀ i, i < st.2.1 → M.2.2 25 i = 100000 + st.2.2.2.1 i ∧ M.2.2 26 i = 100000 + st.2.2.2.2.1 i ∧ M.1 27 i = nI (st.2.2.2.2.2 i)
def PSo (M0 : Mm) (T : Nat → Nat) (L mo : Nat) (res : Flt ⊕ Sst) : Po := fun r0 M' => r0 = none ∧ Fr [24, 25, 26, 27, 77] M0 M' ∧ match res with
  | .inl f => RdD M' f.1 f.2 ∧ ∃ n, n ≤ 40 ∧ M'.1 24 3 = nI n
  | .inr st => (∃ ta, RdL M' T L mo st.1 ta) ∧ SN M' st
theorem SN_fr {K : List Nat} {M M' : Mm} {st : Sst} (hF : Fr K M M') (h : ¬ 24 ∈ K ∧ ¬ 25 ∈ K ∧ ¬ 26 ∈ K ∧ ¬ 27 ∈ K) (hs : SN M st) : SN M' st := by
  unfold SN
  rw [(hF 24 h.1).1, (hF 25 h.2.1).2.2, (hF 26 h.2.2.1).2.2, (hF 27 h.2.2.2).1]
  exact hs
theorem SN_p {M : Mm} {p : Nat} {st : Sst} (hs : SN M st) : SN M (p, st.2) := hs
theorem SN_add {M M' : Mm} {st : Sst} {a s u : Nat} (hs : SN M st) {r0 : Option Value} (h : PAn M st.2.1 (100000 + a) (100000 + s) (nI u) r0 M') : SN M' (sAdd a s u st) := by
  obtain ⟨h0, h1, h2, h3, h4, h5⟩ := h
  refine ⟨by rw [h1, pk_us]; rfl, by rw [h1, pk_un (by decide)]; exact hs.2.1, fun i hi => ?_⟩
  have hi : i < st.2.1 + 1 := hi
  rw [h2, h3, h4]
  show va_up (M.2.2 25) st.2.1 (100000 + a) i = 100000 + su st.2.2.2.1 st.2.1 a i ∧ va_up (M.2.2 26) st.2.1 (100000 + s) i = 100000 + su st.2.2.2.2.1 st.2.1 s i ∧ upd (M.1 27) st.2.1 (nI u) i = nI (su st.2.2.2.2.2 st.2.1 u i)
  by_cases e : i = st.2.1
  · rw [e, va_up_self, va_up_self, pk_us, su_eq rfl, su_eq rfl, su_eq rfl]; exact ⟨rfl, rfl, rfl⟩
  · rw [va_up_ne _ _ e, va_up_ne _ _ e, pk_un e, su_ne e, su_ne e, su_ne e]; exact hs.2.2 i (by omega)
/-- the contract of one that reads a part -/
def CC (T : Nat → Nat) (L mo : Nat) (σ : Nat → Nat) (ν : Nat → Int64) (jn D : Nat) (x : Int32) (o : Sst → Flt ⊕ Sst) : Prop := ∀ (d : Nat) (M : Mm) (st : Sst) (ta : Nat), RdL M T L mo st.1 ta → SN M st → st.2.1 ≤ 2 * st.2.2.1 → st.2.2.1 ≤ 20 → LkC M 3 σ → NmC M 3 ν (σ 2) → Wn (d + D) jn (PSo M T L mo (o st)) (0, lv_args 0 [.ref 24, .ref 77, .ref 3, .int x], [], M)
theorem lk_3 {K : List Nat} {M M' : Mm} {σ : Nat → Nat} (hF : Fr K M M') (h : ¬ 3 ∈ K ∧ ¬ 5 ∈ K) (hL : LkC M 3 σ) : LkC M' 3 σ := LkC_fr hL (hF 3 h.1).1 (hF 5 h.2).1
set_option maxRecDepth 20000 in
theorem c_sn_readAll_D (d D : Nat) (x : Int32) (M N : Mm) (T : Nat → Nat) (L mo k : Nat) (e : Flt) (hd : RdD N e.1 e.2) (hn : ∃ n, n ≤ 40 ∧ N.1 24 3 = nI n) (hF : Fr [24, 25, 26, 27, 77] M N) : Wn (d + (D + 1)) 189 (PSo M T L mo (.inl e)) (10, [(4, .int (nI k)), (0, .ref 24), (1, .ref 77), (2, .ref 3), (3, .int x)], [], N) := by
  have kk := hd.2.2.2
  have z : Wn (d + (D + 1)) 189 (PSo M T L mo (.inl e)) (62, [(4, .int (nI k)), (0, .ref 24), (1, .ref 77), (2, .ref 3), (3, .int x)], [], N) := Wn.vret rfl ⟨rfl, hF, hd, hn⟩
  refine Wn.run (tab := tb_sn_readAll) rfl 3 (c' := (if (nI 20) ≤ (nI k) then 62 else 17, [(4, .int (nI k)), (0, .ref 24), (1, .ref 77), (2, .ref 3), (3, .int x)], [], N)) (o := []) rfl trivial ?_
  refine Wn.br (fun _ => z) (fun _ => ?_)
  refine Wn.run (tab := tb_sn_readAll) rfl 4 (c' := (if ((N.2.2 77 10) = 100026) = (false = true) then 62 else 27, [(4, .int (nI k)), (0, .ref 24), (1, .ref 77), (2, .ref 3), (3, .int x)], [], N)) (o := [shp 77 = (0, 3), isK (N.2.2 77 10), isK 100026]) rfl ⟨rfl, kk, ⟨by decide, by decide⟩⟩ ?_
  refine Wn.br (fun _ => z) (fun _ => ?_)
  refine Wn.run (tab := tb_sn_readAll) rfl 1 (c' := (28, [(4, .int (nI k)), (0, .ref 24), (1, .ref 77), (2, .ref 3), (3, .int x)], [.ref 77], N)) (o := []) rfl trivial ?_
  refine Wn.callV (p := 77) (n := 1) (ix := 61) (ci := (3)) (fun r0 M0 => r0 = some (.int (nI 1)) ∧ N = M0) [] [] rfl rfl rfl rfl (Nat.le_of_ble_eq_true rfl) (Nat.le_of_ble_eq_true rfl) (w_rd_failedD _ N e.1 hd.1 hd.2.2.1 _ ⟨rfl, rfl⟩) ?_
  rintro _ _ ⟨rfl, rfl⟩
  show Wn _ 189 _ (31, [(4, .int (nI k)), (0, .ref 24), (1, .ref 77), (2, .ref 3), (3, .int x)], [.int (nI 1)], N)
  refine Wn.run (tab := tb_sn_readAll) rfl 1 (c' := (if ¬ (nI 1) = 0 then 62 else 34, [(4, .int (nI k)), (0, .ref 24), (1, .ref 77), (2, .ref 3), (3, .int x)], [], N)) (o := []) rfl trivial ?_
  rw [if_pos (show ¬ nI 1 = 0 by decide)]
  exact z
set_option maxRecDepth 20000 in
theorem c_sn_readAll_10 {T : Nat → Nat} {L mo : Nat} {σ : Nat → Nat} {ν : Nat → Int64} {D : Nat} {x : Int32} {o : Sst → Flt ⊕ Sst} (ho : OGo L (σ 2) o) (hD : 1 ≤ D) (h : CC T L mo σ ν 190 D x o) (d : Nat) (M : Mm) (hL : LkC M 3 σ) (hN : NmC M 3 ν (σ 2)) : ∀ (f k : Nat) (st : Sst) (ta : Nat) (N : Mm), k + f = 20 → RdL N T L mo st.1 ta → SN N st → st.2.1 + 1 ≤ 2 * st.2.2.1 → st.2.2.1 ≤ 20 → Fr [24, 25, 26, 27, 77] M N → Wn (d + (D + 1)) 189 (PSo M T L mo (allL T L mo o f st)) (10, [(4, .int (nI k)), (0, .ref 24), (1, .ref 77), (2, .ref 3), (3, .int x)], [], N) := by
  intro f
  induction f with
  | zero =>
    intro k st ta N hkf hR hS hn ho20 hF
    refine Wn.run (tab := tb_sn_readAll) rfl 3 (c' := (if (nI 20) ≤ (nI k) then 62 else 17, [(4, .int (nI k)), (0, .ref 24), (1, .ref 77), (2, .ref 3), (3, .int x)], [], N)) (o := []) rfl trivial ?_
    rw [if_pos ((n_le rfl rfl (by omega) (by omega)).mpr (show 20 ≤ k by omega))]
    exact Wn.vret rfl ⟨rfl, hF, ⟨ta, hR⟩, hS⟩
  | succ f ih =>
    intro k st ta N hkf hR hS hn ho20 hF
    have kr : N.2.2 77 10 = kR T L mo st.1 := hR.1.2.2.2.2.2.2.1
    have kk : isK (N.2.2 77 10) := by rw [kr]; exact isK_kR _ _ _ _
    have hpL := hR.2.2.2.2
    refine Wn.run (tab := tb_sn_readAll) rfl 3 (c' := (if (nI 20) ≤ (nI k) then 62 else 17, [(4, .int (nI k)), (0, .ref 24), (1, .ref 77), (2, .ref 3), (3, .int x)], [], N)) (o := []) rfl trivial ?_
    rw [if_neg (mt (n_le rfl rfl (by omega) (by omega)).mp (show ¬ 20 ≤ k by omega))]
    refine Wn.run (tab := tb_sn_readAll) rfl 4 (c' := (if ((N.2.2 77 10) = 100026) = (false = true) then 62 else 27, [(4, .int (nI k)), (0, .ref 24), (1, .ref 77), (2, .ref 3), (3, .int x)], [], N)) (o := [shp 77 = (0, 3), isK (N.2.2 77 10), isK 100026]) rfl ⟨rfl, kk, ⟨by decide, by decide⟩⟩ ?_
    rw [kr]
    by_cases c : tKd T L mo st.1 = 26
    · rw [if_neg (fun q9 => ac_f.mp q9 ((kR_iff (c := 26) (by decide) (by decide)).mpr c))]
      refine Wn.run (tab := tb_sn_readAll) rfl 1 (c' := (28, [(4, .int (nI k)), (0, .ref 24), (1, .ref 77), (2, .ref 3), (3, .int x)], [.ref 77], N)) (o := []) rfl trivial ?_
      refine Wn.callV (p := 77) (n := 1) (ix := 61) (ci := (3)) (fun r0 M0 => r0 = some (.int (nI 0)) ∧ N = M0) [] [] rfl rfl rfl rfl (Nat.le_of_ble_eq_true rfl) (Nat.le_of_ble_eq_true rfl) (w_rd_failedL _ N hR.1.2.2.2.2.1 _ ⟨rfl, rfl⟩) ?_
      rintro _ _ ⟨rfl, rfl⟩
      show Wn _ 189 _ (31, [(4, .int (nI k)), (0, .ref 24), (1, .ref 77), (2, .ref 3), (3, .int x)], [.int (nI 0)], N)
      refine Wn.run (tab := tb_sn_readAll) rfl 1 (c' := (if ¬ (nI 0) = 0 then 62 else 34, [(4, .int (nI k)), (0, .ref 24), (1, .ref 77), (2, .ref 3), (3, .int x)], [], N)) (o := []) rfl trivial ?_
      rw [if_neg (show ¬ ¬ nI 0 = 0 by decide)]
      refine Wn.run (tab := tb_sn_readAll) rfl 1 (c' := (35, [(4, .int (nI k)), (0, .ref 24), (1, .ref 77), (2, .ref 3), (3, .int x)], [.ref 77], N)) (o := []) rfl trivial ?_
      have adv : Wn (d + D) 176 (PLv N T L mo (tNx T L st.1) (tAt T L mo st.1) none) (0, lv_args 0 [.ref 77], [], N) := by
        rw [show d + D = (d + (D - 1)) + 1 by omega]
        exact c_rd_adv (d + (D - 1)) N T L mo st.1 ta hR (by omega) (by omega)
      refine Wn.callV (p := 77) (n := 1) (ix := 64) (ci := (3)) (PLv N T L mo (tNx T L st.1) (tAt T L mo st.1) none) [] [] rfl rfl rfl rfl (Nat.le_of_ble_eq_true rfl) (Nat.le_of_ble_eq_true rfl) (adv) ?_
      rintro _ N1 ⟨rfl, r1, r2⟩
      show Wn _ 189 _ (38, [(4, .int (nI k)), (0, .ref 24), (1, .ref 77), (2, .ref 3), (3, .int x)], [], N1)
      refine Wn.run (tab := tb_sn_readAll) rfl 4 (c' := (42, [(4, .int (nI k)), (0, .ref 24), (1, .ref 77), (2, .ref 3), (3, .int x)], [.int x, .ref 3, .ref 77, .ref 24], N1)) (o := []) rfl trivial ?_
      have F1 : Fr [24, 25, 26, 27, 77] M N1 := fr_tr hF r2 (by decide)
      refine Wn.callV (p := 24) (n := 4) (ix := 71) (ci := (4)) (PSo N1 T L mo (o (tNx T L st.1, st.2))) [.ref 77, .ref 3, .int x] [] rfl rfl rfl rfl (Nat.le_of_ble_eq_true rfl) (Nat.le_of_ble_eq_true rfl) (h _ N1 (tNx T L st.1, st.2) _ r1 (SN_fr r2 (by decide) hS) (by show st.2.1 ≤ 2 * st.2.2.1; omega) ho20 (lk_3 F1 (by decide) hL) (NmC_fr F1 (by decide) hN)) ?_
      rintro _ N2 ⟨rfl, a1, hres⟩
      show Wn _ 189 _ (45, [(4, .int (nI k)), (0, .ref 24), (1, .ref 77), (2, .ref 3), (3, .int x)], [], N2)
      refine Wn.run (tab := tb_sn_readAll) rfl 4 (c' := (53, [(4, .int (nI k)), (0, .ref 24), (1, .ref 77), (2, .ref 3), (3, .int x)], [.int (nI 0), .ref 100000, .ref 100026, .ref 24], N2)) (o := []) rfl trivial ?_
      have F2 : Fr [24, 25, 26, 27, 77] M N2 := fr_tr F1 a1 (by decide)
      have e1 : allL T L mo o (f + 1) st = match o (tNx T L st.1, st.2) with
        | .inl e => .inl e
        | .inr s2 => allL T L mo o f (sAdd 26 0 0 s2) := if_pos c
      cases hq : o (tNx T L st.1, st.2) with
      | inl e =>
        rw [hq] at hres e1
        rw [e1]
        refine Wn.callV (p := 24) (n := 4) (ix := 67) (ci := (4)) (PAx N2) [.ref 100026, .ref 100000, .int (nI 0)] [] rfl rfl rfl rfl (Nat.le_of_ble_eq_true rfl) (Nat.le_of_ble_eq_true rfl) (c_sn_add_D _ N2 hres.2 _ _ ⟨by decide, by decide⟩ ⟨by decide, by decide⟩ _) ?_
        rintro _ N3 ⟨rfl, b1, b2⟩
        show Wn _ 189 _ (56, [(4, .int (nI k)), (0, .ref 24), (1, .ref 77), (2, .ref 3), (3, .int x)], [], N3)
        refine Wn.run (tab := tb_sn_readAll) rfl 2 (c' := (10, [(4, .int ((nI k) + (nI 1))), (0, .ref 24), (1, .ref 77), (2, .ref 3), (3, .int x)], [], N3)) (o := []) rfl trivial ?_
        rw [nI_add]
        exact c_sn_readAll_D d D x M N3 T L mo (k + 1) e (RdD_fr b2 (by decide) hres.1) b1 (fr_tr F2 b2 (by decide))
      | inr s2 =>
        rw [hq] at hres e1
        rw [e1]
        obtain ⟨⟨ta2, r3⟩, r4⟩ := hres
        have hn9 := tNx_le (T := T) (mo := mo) hpL (by omega) (by omega)
        have go := ho _ _ hn9.1 hq
        obtain ⟨_, ⟨g1, g2⟩, ⟨_, g3⟩, _⟩ := id go
        dsimp only at g1 g3
        refine Wn.callV (p := 24) (n := 4) (ix := 67) (ci := (4)) (PAn N2 s2.2.1 100026 100000 (nI 0)) [.ref 100026, .ref 100000, .int (nI 0)] [] rfl rfl rfl rfl (Nat.le_of_ble_eq_true rfl) (Nat.le_of_ble_eq_true rfl) (c_sn_add_ok _ N2 s2.2.1 r4.1 (by omega) _ _ ⟨by decide, by decide⟩ ⟨by decide, by decide⟩ _) ?_
        intro r0 N3 hA
        have hA2 := SN_add (a := 26) (s := 0) (u := 0) r4 hA
        obtain ⟨rfl, b1, b2, b3, b4, b5⟩ := hA
        show Wn _ 189 _ (56, [(4, .int (nI k)), (0, .ref 24), (1, .ref 77), (2, .ref 3), (3, .int x)], [], N3)
        refine Wn.run (tab := tb_sn_readAll) rfl 2 (c' := (10, [(4, .int ((nI k) + (nI 1))), (0, .ref 24), (1, .ref 77), (2, .ref 3), (3, .int x)], [], N3)) (o := []) rfl trivial ?_
        rw [nI_add]
        exact ih (k + 1) (sAdd 26 0 0 s2) ta2 N3 (by omega) (RdL_fr b5 (by decide) r3) hA2 (by show s2.2.1 + 1 + 1 ≤ 2 * s2.2.2.1; omega) g2 (fr_tr F2 b5 (by decide))
    · rw [if_pos (ac_f.mpr (mt (kR_iff (c := 26) (by decide) (by decide)).mp c))]
      rw [show allL T L mo o (f + 1) st = .inr st from if_neg c]
      exact Wn.vret rfl ⟨rfl, hF, ⟨ta, hR⟩, hS⟩
set_option maxRecDepth 20000 in
theorem c_sn_readAll {T : Nat → Nat} {L mo : Nat} {σ : Nat → Nat} {ν : Nat → Int64} {D : Nat} {x : Int32} {o : Sst → Flt ⊕ Sst} (ho : OGo L (σ 2) o) (hD : 1 ≤ D) (h : CC T L mo σ ν 190 D x (o)) : CC T L mo σ ν 189 (D + 1) x (allS T L mo o) := by
  intro d M st ta hR hS hn ho20 hL hN
  have hpL := hR.2.2.2.2
  refine Wn.run (tab := tb_sn_readAll) rfl 4 (c' := (4, [(0, .ref 24), (1, .ref 77), (2, .ref 3), (3, .int x)], [.int x, .ref 3, .ref 77, .ref 24], M)) (o := []) rfl trivial ?_
  refine Wn.callV (p := 24) (n := 4) (ix := 71) (ci := (4)) (PSo M T L mo (o st)) [.ref 77, .ref 3, .int x] [] rfl rfl rfl rfl (Nat.le_of_ble_eq_true rfl) (Nat.le_of_ble_eq_true rfl) (h _ M st ta hR hS hn ho20 hL hN) ?_
  rintro _ N ⟨rfl, a1, hres⟩
  show Wn _ 189 _ (7, [(0, .ref 24), (1, .ref 77), (2, .ref 3), (3, .int x)], [], N)
  refine Wn.run (tab := tb_sn_readAll) rfl 2 (c' := (10, [(4, .int (nI 0)), (0, .ref 24), (1, .ref 77), (2, .ref 3), (3, .int x)], [], N)) (o := []) rfl trivial ?_
  unfold allS
  cases hq : o st with
  | inl e =>
    rw [hq] at hres
    exact c_sn_readAll_D d D x M N T L mo 0 e hres.1 hres.2 a1
  | inr s2 =>
    rw [hq] at hres
    obtain ⟨⟨ta2, r3⟩, r4⟩ := hres
    obtain ⟨_, ⟨g1, g2⟩, ⟨_, g3⟩, _⟩ := ho _ _ hpL hq
    exact c_sn_readAll_10 ho hD h d M hL hN 20 0 s2 ta2 N (by omega) r3 r4 (by omega) g2 a1
set_option maxRecDepth 20000 in
theorem c_sn_readSome_D (d D : Nat) (x : Int32) (M N : Mm) (T : Nat → Nat) (L mo k : Nat) (e : Flt) (hd : RdD N e.1 e.2) (hn : ∃ n, n ≤ 40 ∧ N.1 24 3 = nI n) (hF : Fr [24, 25, 26, 27, 77] M N) : Wn (d + (D + 1)) 188 (PSo M T L mo (.inl e)) (10, [(4, .int (nI k)), (0, .ref 24), (1, .ref 77), (2, .ref 3), (3, .int x)], [], N) := by
  have kk := hd.2.2.2
  have z : Wn (d + (D + 1)) 188 (PSo M T L mo (.inl e)) (62, [(4, .int (nI k)), (0, .ref 24), (1, .ref 77), (2, .ref 3), (3, .int x)], [], N) := Wn.vret rfl ⟨rfl, hF, hd, hn⟩
  refine Wn.run (tab := tb_sn_readSome) rfl 3 (c' := (if (nI 20) ≤ (nI k) then 62 else 17, [(4, .int (nI k)), (0, .ref 24), (1, .ref 77), (2, .ref 3), (3, .int x)], [], N)) (o := []) rfl trivial ?_
  refine Wn.br (fun _ => z) (fun _ => ?_)
  refine Wn.run (tab := tb_sn_readSome) rfl 4 (c' := (if ((N.2.2 77 10) = 100025) = (false = true) then 62 else 27, [(4, .int (nI k)), (0, .ref 24), (1, .ref 77), (2, .ref 3), (3, .int x)], [], N)) (o := [shp 77 = (0, 3), isK (N.2.2 77 10), isK 100025]) rfl ⟨rfl, kk, ⟨by decide, by decide⟩⟩ ?_
  refine Wn.br (fun _ => z) (fun _ => ?_)
  refine Wn.run (tab := tb_sn_readSome) rfl 1 (c' := (28, [(4, .int (nI k)), (0, .ref 24), (1, .ref 77), (2, .ref 3), (3, .int x)], [.ref 77], N)) (o := []) rfl trivial ?_
  refine Wn.callV (p := 77) (n := 1) (ix := 61) (ci := (3)) (fun r0 M0 => r0 = some (.int (nI 1)) ∧ N = M0) [] [] rfl rfl rfl rfl (Nat.le_of_ble_eq_true rfl) (Nat.le_of_ble_eq_true rfl) (w_rd_failedD _ N e.1 hd.1 hd.2.2.1 _ ⟨rfl, rfl⟩) ?_
  rintro _ _ ⟨rfl, rfl⟩
  show Wn _ 188 _ (31, [(4, .int (nI k)), (0, .ref 24), (1, .ref 77), (2, .ref 3), (3, .int x)], [.int (nI 1)], N)
  refine Wn.run (tab := tb_sn_readSome) rfl 1 (c' := (if ¬ (nI 1) = 0 then 62 else 34, [(4, .int (nI k)), (0, .ref 24), (1, .ref 77), (2, .ref 3), (3, .int x)], [], N)) (o := []) rfl trivial ?_
  rw [if_pos (show ¬ nI 1 = 0 by decide)]
  exact z
set_option maxRecDepth 20000 in
theorem c_sn_readSome_10 {T : Nat → Nat} {L mo : Nat} {σ : Nat → Nat} {ν : Nat → Int64} {D : Nat} {x : Int32} {o : Sst → Flt ⊕ Sst} (ho : OGo L (σ 2) o) (hD : 1 ≤ D) (h : CC T L mo σ ν 189 D x (allS T L mo o)) (d : Nat) (M : Mm) (hL : LkC M 3 σ) (hN : NmC M 3 ν (σ 2)) : ∀ (f k : Nat) (st : Sst) (ta : Nat) (N : Mm), k + f = 20 → RdL N T L mo st.1 ta → SN N st → st.2.1 + 1 ≤ 2 * st.2.2.1 → st.2.2.1 ≤ 20 → Fr [24, 25, 26, 27, 77] M N → Wn (d + (D + 1)) 188 (PSo M T L mo (someL T L mo o f st)) (10, [(4, .int (nI k)), (0, .ref 24), (1, .ref 77), (2, .ref 3), (3, .int x)], [], N) := by
  intro f
  induction f with
  | zero =>
    intro k st ta N hkf hR hS hn ho20 hF
    refine Wn.run (tab := tb_sn_readSome) rfl 3 (c' := (if (nI 20) ≤ (nI k) then 62 else 17, [(4, .int (nI k)), (0, .ref 24), (1, .ref 77), (2, .ref 3), (3, .int x)], [], N)) (o := []) rfl trivial ?_
    rw [if_pos ((n_le rfl rfl (by omega) (by omega)).mpr (show 20 ≤ k by omega))]
    exact Wn.vret rfl ⟨rfl, hF, ⟨ta, hR⟩, hS⟩
  | succ f ih =>
    intro k st ta N hkf hR hS hn ho20 hF
    have kr : N.2.2 77 10 = kR T L mo st.1 := hR.1.2.2.2.2.2.2.1
    have kk : isK (N.2.2 77 10) := by rw [kr]; exact isK_kR _ _ _ _
    have hpL := hR.2.2.2.2
    refine Wn.run (tab := tb_sn_readSome) rfl 3 (c' := (if (nI 20) ≤ (nI k) then 62 else 17, [(4, .int (nI k)), (0, .ref 24), (1, .ref 77), (2, .ref 3), (3, .int x)], [], N)) (o := []) rfl trivial ?_
    rw [if_neg (mt (n_le rfl rfl (by omega) (by omega)).mp (show ¬ 20 ≤ k by omega))]
    refine Wn.run (tab := tb_sn_readSome) rfl 4 (c' := (if ((N.2.2 77 10) = 100025) = (false = true) then 62 else 27, [(4, .int (nI k)), (0, .ref 24), (1, .ref 77), (2, .ref 3), (3, .int x)], [], N)) (o := [shp 77 = (0, 3), isK (N.2.2 77 10), isK 100025]) rfl ⟨rfl, kk, ⟨by decide, by decide⟩⟩ ?_
    rw [kr]
    by_cases c : tKd T L mo st.1 = 25
    · rw [if_neg (fun q9 => ac_f.mp q9 ((kR_iff (c := 25) (by decide) (by decide)).mpr c))]
      refine Wn.run (tab := tb_sn_readSome) rfl 1 (c' := (28, [(4, .int (nI k)), (0, .ref 24), (1, .ref 77), (2, .ref 3), (3, .int x)], [.ref 77], N)) (o := []) rfl trivial ?_
      refine Wn.callV (p := 77) (n := 1) (ix := 61) (ci := (3)) (fun r0 M0 => r0 = some (.int (nI 0)) ∧ N = M0) [] [] rfl rfl rfl rfl (Nat.le_of_ble_eq_true rfl) (Nat.le_of_ble_eq_true rfl) (w_rd_failedL _ N hR.1.2.2.2.2.1 _ ⟨rfl, rfl⟩) ?_
      rintro _ _ ⟨rfl, rfl⟩
      show Wn _ 188 _ (31, [(4, .int (nI k)), (0, .ref 24), (1, .ref 77), (2, .ref 3), (3, .int x)], [.int (nI 0)], N)
      refine Wn.run (tab := tb_sn_readSome) rfl 1 (c' := (if ¬ (nI 0) = 0 then 62 else 34, [(4, .int (nI k)), (0, .ref 24), (1, .ref 77), (2, .ref 3), (3, .int x)], [], N)) (o := []) rfl trivial ?_
      rw [if_neg (show ¬ ¬ nI 0 = 0 by decide)]
      refine Wn.run (tab := tb_sn_readSome) rfl 1 (c' := (35, [(4, .int (nI k)), (0, .ref 24), (1, .ref 77), (2, .ref 3), (3, .int x)], [.ref 77], N)) (o := []) rfl trivial ?_
      have adv : Wn (d + D) 176 (PLv N T L mo (tNx T L st.1) (tAt T L mo st.1) none) (0, lv_args 0 [.ref 77], [], N) := by
        rw [show d + D = (d + (D - 1)) + 1 by omega]
        exact c_rd_adv (d + (D - 1)) N T L mo st.1 ta hR (by omega) (by omega)
      refine Wn.callV (p := 77) (n := 1) (ix := 64) (ci := (3)) (PLv N T L mo (tNx T L st.1) (tAt T L mo st.1) none) [] [] rfl rfl rfl rfl (Nat.le_of_ble_eq_true rfl) (Nat.le_of_ble_eq_true rfl) (adv) ?_
      rintro _ N1 ⟨rfl, r1, r2⟩
      show Wn _ 188 _ (38, [(4, .int (nI k)), (0, .ref 24), (1, .ref 77), (2, .ref 3), (3, .int x)], [], N1)
      refine Wn.run (tab := tb_sn_readSome) rfl 4 (c' := (42, [(4, .int (nI k)), (0, .ref 24), (1, .ref 77), (2, .ref 3), (3, .int x)], [.int x, .ref 3, .ref 77, .ref 24], N1)) (o := []) rfl trivial ?_
      have F1 : Fr [24, 25, 26, 27, 77] M N1 := fr_tr hF r2 (by decide)
      refine Wn.callV (p := 24) (n := 4) (ix := 52) (ci := (4)) (PSo N1 T L mo ((allS T L mo o) (tNx T L st.1, st.2))) [.ref 77, .ref 3, .int x] [] rfl rfl rfl rfl (Nat.le_of_ble_eq_true rfl) (Nat.le_of_ble_eq_true rfl) (h _ N1 (tNx T L st.1, st.2) _ r1 (SN_fr r2 (by decide) hS) (by show st.2.1 ≤ 2 * st.2.2.1; omega) ho20 (lk_3 F1 (by decide) hL) (NmC_fr F1 (by decide) hN)) ?_
      rintro _ N2 ⟨rfl, a1, hres⟩
      show Wn _ 188 _ (45, [(4, .int (nI k)), (0, .ref 24), (1, .ref 77), (2, .ref 3), (3, .int x)], [], N2)
      refine Wn.run (tab := tb_sn_readSome) rfl 4 (c' := (53, [(4, .int (nI k)), (0, .ref 24), (1, .ref 77), (2, .ref 3), (3, .int x)], [.int (nI 0), .ref 100000, .ref 100025, .ref 24], N2)) (o := []) rfl trivial ?_
      have F2 : Fr [24, 25, 26, 27, 77] M N2 := fr_tr F1 a1 (by decide)
      have e1 : someL T L mo o (f + 1) st = match (allS T L mo o) (tNx T L st.1, st.2) with
        | .inl e => .inl e
        | .inr s2 => someL T L mo o f (sAdd 25 0 0 s2) := if_pos c
      cases hq : (allS T L mo o) (tNx T L st.1, st.2) with
      | inl e =>
        rw [hq] at hres e1
        rw [e1]
        refine Wn.callV (p := 24) (n := 4) (ix := 67) (ci := (4)) (PAx N2) [.ref 100025, .ref 100000, .int (nI 0)] [] rfl rfl rfl rfl (Nat.le_of_ble_eq_true rfl) (Nat.le_of_ble_eq_true rfl) (c_sn_add_D _ N2 hres.2 _ _ ⟨by decide, by decide⟩ ⟨by decide, by decide⟩ _) ?_
        rintro _ N3 ⟨rfl, b1, b2⟩
        show Wn _ 188 _ (56, [(4, .int (nI k)), (0, .ref 24), (1, .ref 77), (2, .ref 3), (3, .int x)], [], N3)
        refine Wn.run (tab := tb_sn_readSome) rfl 2 (c' := (10, [(4, .int ((nI k) + (nI 1))), (0, .ref 24), (1, .ref 77), (2, .ref 3), (3, .int x)], [], N3)) (o := []) rfl trivial ?_
        rw [nI_add]
        exact c_sn_readSome_D d D x M N3 T L mo (k + 1) e (RdD_fr b2 (by decide) hres.1) b1 (fr_tr F2 b2 (by decide))
      | inr s2 =>
        rw [hq] at hres e1
        rw [e1]
        obtain ⟨⟨ta2, r3⟩, r4⟩ := hres
        have hn9 := tNx_le (T := T) (mo := mo) hpL (by omega) (by omega)
        have go := allS_go ho _ _ hn9.1 hq
        obtain ⟨_, ⟨g1, g2⟩, ⟨_, g3⟩, _⟩ := id go
        dsimp only at g1 g3
        refine Wn.callV (p := 24) (n := 4) (ix := 67) (ci := (4)) (PAn N2 s2.2.1 100025 100000 (nI 0)) [.ref 100025, .ref 100000, .int (nI 0)] [] rfl rfl rfl rfl (Nat.le_of_ble_eq_true rfl) (Nat.le_of_ble_eq_true rfl) (c_sn_add_ok _ N2 s2.2.1 r4.1 (by omega) _ _ ⟨by decide, by decide⟩ ⟨by decide, by decide⟩ _) ?_
        intro r0 N3 hA
        have hA2 := SN_add (a := 25) (s := 0) (u := 0) r4 hA
        obtain ⟨rfl, b1, b2, b3, b4, b5⟩ := hA
        show Wn _ 188 _ (56, [(4, .int (nI k)), (0, .ref 24), (1, .ref 77), (2, .ref 3), (3, .int x)], [], N3)
        refine Wn.run (tab := tb_sn_readSome) rfl 2 (c' := (10, [(4, .int ((nI k) + (nI 1))), (0, .ref 24), (1, .ref 77), (2, .ref 3), (3, .int x)], [], N3)) (o := []) rfl trivial ?_
        rw [nI_add]
        exact ih (k + 1) (sAdd 25 0 0 s2) ta2 N3 (by omega) (RdL_fr b5 (by decide) r3) hA2 (by show s2.2.1 + 1 + 1 ≤ 2 * s2.2.2.1; omega) g2 (fr_tr F2 b5 (by decide))
    · rw [if_pos (ac_f.mpr (mt (kR_iff (c := 25) (by decide) (by decide)).mp c))]
      rw [show someL T L mo o (f + 1) st = .inr st from if_neg c]
      exact Wn.vret rfl ⟨rfl, hF, ⟨ta, hR⟩, hS⟩
set_option maxRecDepth 20000 in
theorem c_sn_readSome {T : Nat → Nat} {L mo : Nat} {σ : Nat → Nat} {ν : Nat → Int64} {D : Nat} {x : Int32} {o : Sst → Flt ⊕ Sst} (ho : OGo L (σ 2) o) (hD : 1 ≤ D) (h : CC T L mo σ ν 189 D x ((allS T L mo o))) : CC T L mo σ ν 188 (D + 1) x (someS T L mo o) := by
  intro d M st ta hR hS hn ho20 hL hN
  have hpL := hR.2.2.2.2
  refine Wn.run (tab := tb_sn_readSome) rfl 4 (c' := (4, [(0, .ref 24), (1, .ref 77), (2, .ref 3), (3, .int x)], [.int x, .ref 3, .ref 77, .ref 24], M)) (o := []) rfl trivial ?_
  refine Wn.callV (p := 24) (n := 4) (ix := 52) (ci := (4)) (PSo M T L mo ((allS T L mo o) st)) [.ref 77, .ref 3, .int x] [] rfl rfl rfl rfl (Nat.le_of_ble_eq_true rfl) (Nat.le_of_ble_eq_true rfl) (h _ M st ta hR hS hn ho20 hL hN) ?_
  rintro _ N ⟨rfl, a1, hres⟩
  show Wn _ 188 _ (7, [(0, .ref 24), (1, .ref 77), (2, .ref 3), (3, .int x)], [], N)
  refine Wn.run (tab := tb_sn_readSome) rfl 2 (c' := (10, [(4, .int (nI 0)), (0, .ref 24), (1, .ref 77), (2, .ref 3), (3, .int x)], [], N)) (o := []) rfl trivial ?_
  unfold someS
  cases hq : (allS T L mo o) st with
  | inl e =>
    rw [hq] at hres
    exact c_sn_readSome_D d D x M N T L mo 0 e hres.1 hres.2 a1
  | inr s2 =>
    rw [hq] at hres
    obtain ⟨⟨ta2, r3⟩, r4⟩ := hres
    obtain ⟨_, ⟨g1, g2⟩, ⟨_, g3⟩, _⟩ := allS_go ho _ _ hpL hq
    exact c_sn_readSome_10 ho hD h d M hL hN 20 0 s2 ta2 N (by omega) r3 r4 (by omega) g2 a1
