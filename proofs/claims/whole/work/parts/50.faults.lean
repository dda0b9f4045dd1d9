/-! The class's reader: faults; what is taken. -/
def kR (T : Nat → Nat) (L mo p : Nat) : Nat := 100000 + (if tKd T L mo p = 36 then 0 else tKd T L mo p)
theorem tKd_le (T : Nat → Nat) (L mo p : Nat) : tKd T L mo p ≤ 36 := by
  unfold tKd
  have h1 := kc_lt (nI (T (sk T L p))).toInt64 1 (by decide)
  have h2 := kc_lt (tNm T L p) 3 (by decide)
  repeat (first | omega | split)
theorem isK_kR (T : Nat → Nat) (L mo p : Nat) : isK (kR T L mo p) := by
  have := tKd_le T L mo p
  unfold kR
  split <;> exact ⟨by omega, by omega⟩
theorem kR_iff {T : Nat → Nat} {L mo p c : Nat} (hc : 0 < c) (hc2 : c < 36) : kR T L mo p = 100000 + c ↔ tKd T L mo p = c := by
  unfold kR
  split <;> omega
theorem kR_0 {T : Nat → Nat} {L mo p : Nat} : kR T L mo p = 100000 ↔ (tKd T L mo p = 0 ∨ tKd T L mo p = 36) := by
  unfold kR
  split <;> omega
theorem ac_t {x y : Nat} : ((x = y) = (true = true)) ↔ x = y := by simp
theorem ac_f {x y : Nat} : ((x = y) = (false = true)) ↔ ¬ x = y := by simp
/-- behind a fault -/
def RdD (M : Mm) (fk fp : Nat) : Prop := M.1 77 11 = nI fk ∧ M.1 77 12 = nI fp ∧ (0 < fk ∧ fk < 9) ∧ isK (M.2.2 77 10)
def PFl (M0 : Mm) (fk fp : Nat) (r : Option Value) : Po := fun r0 M' => r0 = r ∧ RdD M' fk fp ∧ Fr [77] M0 M'
theorem tNx_le {T : Nat → Nat} {L mo p : Nat} (hp : p ≤ L) (h0 : ¬ tKd T L mo p = 0) (h1 : ¬ tKd T L mo p = 36) : tNx T L p ≤ L ∧ p < tNx T L p := by
  have h2 := sk_le T L p
  have h3 : ¬ mn L mo ≤ sk T L p := by
    intro h9
    unfold tKd at h0 h1
    rw [if_pos h9] at h0 h1
    by_cases h7 : mo < L
    · rw [if_pos h7] at h1; exact h1 rfl
    · rw [if_neg h7] at h0; exact h0 rfl
  have h4 := mn_le L mo
  have h5 := rl_le (T := T) (show sk T L p ≤ L by omega)
  unfold tNx tRl
  split <;> omega
theorem nVl_lt {T : Nat → Nat} {s : Nat} : ∀ z, (∀ i, i < z → isD (T (s + i))) → nVl T s z < 10 ^ z
  | 0, _ => by show 0 < 1; decide
  | z + 1, h => by
    have ih := nVl_lt z (fun i hi => h i (by omega))
    have h1 := h z (by omega)
    show (if isD (T (s + z)) then 10 * nVl T s z + T (s + z) - 48 else nVl T s z) < _
    rw [if_pos h1, Nat.pow_succ]
    omega
theorem nLt_D {T : Nat → Nat} {s : Nat} : ∀ z, nLt T s z = 0 → ∀ i, i < z → ¬ isS (T (s + i))
  | 0, _, i, h => absurd h (by omega)
  | z + 1, h, i, hi => by
    unfold nLt at h
    by_cases e : i = z
    · rw [e]; intro h9; rw [if_pos h9] at h; omega
    · exact nLt_D z (by omega) i (by omega)
theorem tVl_lt {T : Nat → Nat} {L mo p : Nat} (hT : ∀ k, k < L → T k < 256) (h : tKd T L mo p = 2) : tVl T L p < 1000 := by
  have hk : nLt T (sk T L p) (tRl T L p) = 0 ∧ nDg T (sk T L p) (tRl T L p) ≤ 3 := by
    unfold tKd at h
    split at h
    · split at h <;> omega
    · rename_i hb
      have h4 := mn_le L mo
      split at h
      · have := tok_sign (T := T) (s := sk T L p) (hT _ (by omega))
        omega
      · rename_i h0
        split at h
        · rename_i h1
          have := tok_word (T := T) (L := L) (s := sk T L p) h0 h1.1 h1.2
          unfold tNm tRl at h
          omega
        · split at h
          · rename_i h2; exact h2
          · omega
  have hs := rl_sum T L (sk T L p)
  have h1 := nVl_lt (T := T) (s := sk T L p) (tRl T L p) (fun i hi => by
    have := rl_W (T := T) (L := L) (s := sk T L p) i hi
    have := nLt_D _ hk.1 i hi
    omega)
  have h2 : 10 ^ tRl T L p ≤ 10 ^ 3 := Nat.pow_le_pow_right (by decide) (by unfold tRl at hk ⊢; omega)
  show nVl T (sk T L p) (tRl T L p) < 1000
  omega
set_option maxRecDepth 20000 in
theorem c_rd_failAt (d : Nat) (M : Mm) (g : Nat → Int32) (pl f : Int32) (hg : M.1 77 = g) (h11 : g 11 = nI 0) : Wn (d + 0) 175 (fun r0 M9 => r0 = none ∧ M9.1 77 = upd (upd g 11 f) 12 pl ∧ M9.2.2 = M.2.2 ∧ Fr [77] M M9) (0, lv_args 0 [.ref 77, .int pl, .int f], [], M) := by
  have hF := fr_rf [77] M
  refine Wn.run (tab := tb_rd_failAt) rfl 3 (c' := (if ¬ (M.1 77 11) = 0 then 17 else 7, [(0, .ref 77), (1, .int pl), (2, .int f)], [], M)) (o := [shp 77 = (0, 3)]) rfl rfl ?_
  refine Wn.br (fun h1 => ?_) (fun h1 => ?_)
  · show Wn _ 175 _ (17, [(0, .ref 77), (1, .int pl), (2, .int f)], [], M)
    have h1 := mt (n_eq (fr_eq hg (show g 11 = (nI 0) from h11)) nI_0.symm (by omega) (by omega)).mpr h1
    exact absurd rfl h1
  · show Wn _ 175 _ (7, [(0, .ref 77), (1, .int pl), (2, .int f)], [], M)
    have h1 := (n_eq (fr_eq hg (show g 11 = (nI 0) from h11)) nI_0.symm (by omega) (by omega)).mp (Classical.not_not.mp h1)
    refine Wn.run (tab := tb_rd_failAt) rfl 3 (c' := (12, [(0, .ref 77), (1, .int pl), (2, .int f)], [], (mI M 77 (upd (M.1 77) 11 f)))) (o := [shp 77 = (0, 3)]) rfl rfl ?_
    generalize hM2 : (mI M 77 (upd (M.1 77) 11 f)) = M1
    have hk3 := fI_up hM2 hg
    have hF4 := fr_sI hF hM2 (by decide)
    show Wn _ 175 _ (12, [(0, .ref 77), (1, .int pl), (2, .int f)], [], M1)
    refine Wn.run (tab := tb_rd_failAt) rfl 3 (c' := (17, [(0, .ref 77), (1, .int pl), (2, .int f)], [], (mI M1 77 (upd (M1.1 77) 12 pl)))) (o := [shp 77 = (0, 3)]) rfl rfl ?_
    generalize hM6 : (mI M1 77 (upd (M1.1 77) 12 pl)) = M5
    have hk7 := fI_up hM6 hk3
    have hF8 := fr_sI hF4 hM6 (by decide)
    show Wn _ 175 _ (17, [(0, .ref 77), (1, .int pl), (2, .int f)], [], M5)
    exact Wn.vret rfl ⟨rfl, hk7, by rw [← hM6, ← hM2]; rfl, hF8⟩
set_option maxRecDepth 20000 in
theorem c_rd_failAtD (d : Nat) (M : Mm) (fk : Nat) (pl f : Int32) (h11 : M.1 77 11 = nI fk) (h0 : 0 < fk ∧ fk < 9) : Wn (d + 0) 175 (fun r0 M9 => r0 = none ∧ M9 = M) (0, lv_args 0 [.ref 77, .int pl, .int f], [], M) := by
  refine Wn.run (tab := tb_rd_failAt) rfl 3 (c' := (if ¬ (M.1 77 11) = 0 then 17 else 7, [(0, .ref 77), (1, .int pl), (2, .int f)], [], M)) (o := [shp 77 = (0, 3)]) rfl rfl ?_
  rw [if_pos (show ¬ (M.1 77 11) = 0 by rw [h11]; exact nI_ne0 (by omega) (by omega))]
  show Wn _ 175 _ (17, [(0, .ref 77), (1, .int pl), (2, .int f)], [], M)
  exact Wn.vret rfl ⟨rfl, rfl⟩
theorem c_rd_fail (d : Nat) (M : Mm) (T : Nat → Nat) (L mo p ta : Nat) (hR : RdC M T L mo p ta 0 0) (f : Nat) (hf : 0 < f ∧ f < 9) : Wn (d + 1) 173 (PFl M f (tAt T L mo p) none) (0, lv_args 0 [.ref 77, .int (nI f)], [], M) := by
  obtain ⟨q1, q2, q3, q4, q5, q6, q7, q8⟩ := hR
  refine Wn.run (tab := tb_rd_fail) rfl 4 (c' := (6, [(0, .ref 77), (1, .int (nI f))], [.int (nI f), .int (M.1 77 4), .ref 77], M)) (o := [shp 77 = (0, 3)]) rfl rfl ?_
  refine Wn.callV (p := 77) (n := 3) (ix := 52) (ci := (3)) (fun r0 M9 => r0 = none ∧ M9.1 77 = upd (upd (M.1 77) 11 (nI f)) 12 (M.1 77 4) ∧ M9.2.2 = M.2.2 ∧ Fr [77] M M9) [.int (M.1 77 4), .int (nI f)] [] rfl rfl rfl rfl (Nat.le_of_ble_eq_true rfl) (Nat.le_of_ble_eq_true rfl) (c_rd_failAt d M (M.1 77) (M.1 77 4) (nI f) rfl q5) ?_
  rintro _ M1 ⟨rfl, h1, h2, h3⟩
  show Wn _ 173 _ (9, [(0, .ref 77), (1, .int (nI f))], [], M1)
  exact Wn.vret rfl ⟨rfl, ⟨by rw [h1]; exact (pk_un (by decide)).trans pk_us, by rw [h1, pk_us]; exact q3, hf, by rw [h2, q7]; exact isK_kR T L mo p⟩, h3⟩
theorem c_rd_failD (d : Nat) (M : Mm) (fk fp : Nat) (hR : RdD M fk fp) (f : Int32) : Wn (d + 1) 173 (fun r0 M9 => r0 = none ∧ M9 = M) (0, lv_args 0 [.ref 77, .int f], [], M) := by
  refine Wn.run (tab := tb_rd_fail) rfl 4 (c' := (6, [(0, .ref 77), (1, .int f)], [.int f, .int (M.1 77 4), .ref 77], M)) (o := [shp 77 = (0, 3)]) rfl rfl ?_
  refine Wn.callV (p := 77) (n := 3) (ix := 52) (ci := (3)) (fun r0 M9 => r0 = none ∧ M9 = M) [.int (M.1 77 4), .int f] [] rfl rfl rfl rfl (Nat.le_of_ble_eq_true rfl) (Nat.le_of_ble_eq_true rfl) (c_rd_failAtD d M fk (M.1 77 4) f hR.1 hR.2.2.1) ?_
  rintro _ _ ⟨rfl, rfl⟩
  exact Wn.vret rfl ⟨rfl, rfl⟩
theorem c_rd_failTaken (d : Nat) (M : Mm) (T : Nat → Nat) (L mo p ta : Nat) (hR : RdC M T L mo p ta 0 0) (f : Nat) (hf : 0 < f ∧ f < 9) : Wn (d + 1) 174 (PFl M f ta none) (0, lv_args 0 [.ref 77, .int (nI f)], [], M) := by
  obtain ⟨q1, q2, q3, q4, q5, q6, q7, q8⟩ := hR
  refine Wn.run (tab := tb_rd_failTaken) rfl 4 (c' := (6, [(0, .ref 77), (1, .int (nI f))], [.int (nI f), .int (M.1 77 5), .ref 77], M)) (o := [shp 77 = (0, 3)]) rfl rfl ?_
  refine Wn.callV (p := 77) (n := 3) (ix := 52) (ci := (3)) (fun r0 M9 => r0 = none ∧ M9.1 77 = upd (upd (M.1 77) 11 (nI f)) 12 (M.1 77 5) ∧ M9.2.2 = M.2.2 ∧ Fr [77] M M9) [.int (M.1 77 5), .int (nI f)] [] rfl rfl rfl rfl (Nat.le_of_ble_eq_true rfl) (Nat.le_of_ble_eq_true rfl) (c_rd_failAt d M (M.1 77) (M.1 77 5) (nI f) rfl q5) ?_
  rintro _ M1 ⟨rfl, h1, h2, h3⟩
  show Wn _ 174 _ (9, [(0, .ref 77), (1, .int (nI f))], [], M1)
  exact Wn.vret rfl ⟨rfl, ⟨by rw [h1]; exact (pk_un (by decide)).trans pk_us, by rw [h1, pk_us]; exact q4, hf, by rw [h2, q7]; exact isK_kR T L mo p⟩, h3⟩
theorem c_rd_failTakenD (d : Nat) (M : Mm) (fk fp : Nat) (hR : RdD M fk fp) (f : Int32) : Wn (d + 1) 174 (fun r0 M9 => r0 = none ∧ M9 = M) (0, lv_args 0 [.ref 77, .int f], [], M) := by
  refine Wn.run (tab := tb_rd_failTaken) rfl 4 (c' := (6, [(0, .ref 77), (1, .int f)], [.int f, .int (M.1 77 5), .ref 77], M)) (o := [shp 77 = (0, 3)]) rfl rfl ?_
  refine Wn.callV (p := 77) (n := 3) (ix := 52) (ci := (3)) (fun r0 M9 => r0 = none ∧ M9 = M) [.int (M.1 77 5), .int f] [] rfl rfl rfl rfl (Nat.le_of_ble_eq_true rfl) (Nat.le_of_ble_eq_true rfl) (c_rd_failAtD d M fk (M.1 77 5) f hR.1 hR.2.2.1) ?_
  rintro _ _ ⟨rfl, rfl⟩
  exact Wn.vret rfl ⟨rfl, rfl⟩
theorem w_rd_failedL (d : Nat) (M : Mm) (h : M.1 77 11 = nI 0) (Q : Po) (hQ : Q (some (.int (nI 0))) M) : Wn (d + 0) 171 Q (0, lv_args 0 [.ref 77], [], M) := by
  refine Wn.run (tab := tb_rd_failed) rfl 3 (c' := (if (M.1 77 11) = 0 then 11 else 7, [(0, .ref 77)], [], M)) (o := [shp 77 = (0, 3)]) rfl rfl ?_
  rw [if_pos (by rw [h]; rfl)]
  refine Wn.run (tab := tb_rd_failed) rfl 1 (c' := (12, [(0, .ref 77)], [.int (nI 0)], M)) (o := []) rfl trivial ?_
  exact Wn.zret rfl (Or.inl rfl) hQ
theorem w_rd_failedD (d : Nat) (M : Mm) (fk : Nat) (h : M.1 77 11 = nI fk) (h0 : 0 < fk ∧ fk < 9) (Q : Po) (hQ : Q (some (.int (nI 1))) M) : Wn (d + 0) 171 Q (0, lv_args 0 [.ref 77], [], M) := by
  refine Wn.run (tab := tb_rd_failed) rfl 3 (c' := (if (M.1 77 11) = 0 then 11 else 7, [(0, .ref 77)], [], M)) (o := [shp 77 = (0, 3)]) rfl rfl ?_
  rw [if_neg (by rw [h]; exact nI_ne0 (by omega) (by omega))]
  refine Wn.run (tab := tb_rd_failed) rfl 2 (c' := (12, [(0, .ref 77)], [.int (nI 1)], M)) (o := []) rfl trivial ?_
  exact Wn.zret rfl (Or.inr rfl) hQ
