theorem w_m_isIn (d : Nat) (v : Int32) (lo : Int32) (hi : Int32) (M : Mm)  (Q : Po) (hQ : Q (some (.int (if v < lo then (nI 0) else (if hi < v then (nI 0) else (nI 1))))) M) : Wn (d + 0) 46 Q (0, lv_args 0 [.int v, .int lo, .int hi], [], M) := by
  refine Wn.run (tab := tb_m_isIn) rfl 3 (c' := (if v < lo then 14 else 5, [(0, .int v), (1, .int lo), (2, .int hi)], [], M)) (o := []) rfl trivial ?_
  refine Wn.br (fun h1 => ?_) (fun h1 => ?_)
  · refine Wn.run (tab := tb_m_isIn) rfl 1 (c' := (15, [(0, .int v), (1, .int lo), (2, .int hi)], [.int (nI 0)], M)) (o := []) rfl trivial ?_
    exact Wn.zret rfl (Or.inl rfl) (by rw [if_pos h1] at hQ; exact hQ)
  · refine Wn.run (tab := tb_m_isIn) rfl 3 (c' := (if hi < v then 14 else 10, [(0, .int v), (1, .int lo), (2, .int hi)], [], M)) (o := []) rfl trivial ?_
    refine Wn.br (fun h2 => ?_) (fun h2 => ?_)
    · refine Wn.run (tab := tb_m_isIn) rfl 1 (c' := (15, [(0, .int v), (1, .int lo), (2, .int hi)], [.int (nI 0)], M)) (o := []) rfl trivial ?_
      exact Wn.zret rfl (Or.inl rfl) (by rw [if_neg h1, if_pos h2] at hQ; exact hQ)
    · refine Wn.run (tab := tb_m_isIn) rfl 2 (c' := (15, [(0, .int v), (1, .int lo), (2, .int hi)], [.int (nI 1)], M)) (o := []) rfl trivial ?_
      exact Wn.zret rfl (Or.inr rfl) (by rw [if_neg h1, if_neg h2] at hQ; exact hQ)
theorem w_m_lesser (d : Nat) (a : Int32) (b : Int32) (M : Mm)  (Q : Po) (hQ : Q (some (.int (if b ≤ a then b else a))) M) : Wn (d + 0) 48 Q (0, lv_args 0 [.int a, .int b], [], M) := by
  refine Wn.run (tab := tb_m_lesser) rfl 3 (c' := (if b ≤ a then 9 else 5, [(0, .int a), (1, .int b)], [], M)) (o := []) rfl trivial ?_
  refine Wn.br (fun h1 => ?_) (fun h1 => ?_)
  · refine Wn.run (tab := tb_m_lesser) rfl 1 (c' := (10, [(0, .int a), (1, .int b)], [.int b], M)) (o := []) rfl trivial ?_
    exact Wn.iret rfl (by rw [if_pos h1] at hQ; exact hQ)
  · refine Wn.run (tab := tb_m_lesser) rfl 2 (c' := (10, [(0, .int a), (1, .int b)], [.int a], M)) (o := []) rfl trivial ?_
    exact Wn.iret rfl (by rw [if_neg h1] at hQ; exact hQ)
theorem w_m_greater (d : Nat) (a : Int32) (b : Int32) (M : Mm)  (Q : Po) (hQ : Q (some (.int (if a ≤ b then b else a))) M) : Wn (d + 0) 49 Q (0, lv_args 0 [.int a, .int b], [], M) := by
  refine Wn.run (tab := tb_m_greater) rfl 3 (c' := (if a ≤ b then 9 else 5, [(0, .int a), (1, .int b)], [], M)) (o := []) rfl trivial ?_
  refine Wn.br (fun h1 => ?_) (fun h1 => ?_)
  · refine Wn.run (tab := tb_m_greater) rfl 1 (c' := (10, [(0, .int a), (1, .int b)], [.int b], M)) (o := []) rfl trivial ?_
    exact Wn.iret rfl (by rw [if_pos h1] at hQ; exact hQ)
  · refine Wn.run (tab := tb_m_greater) rfl 2 (c' := (10, [(0, .int a), (1, .int b)], [.int a], M)) (o := []) rfl trivial ?_
    exact Wn.iret rfl (by rw [if_neg h1] at hQ; exact hQ)
theorem w_m_absolute (d : Nat) (v : Int32) (M : Mm)  (Q : Po) (hQ : Q (some (.int (if 0 ≤ v then v else (-v)))) M) : Wn (d + 0) 50 Q (0, lv_args 0 [.int v], [], M) := by
  refine Wn.run (tab := tb_m_absolute) rfl 2 (c' := (if 0 ≤ v then 9 else 4, [(0, .int v)], [], M)) (o := []) rfl trivial ?_
  refine Wn.br (fun h1 => ?_) (fun h1 => ?_)
  · refine Wn.run (tab := tb_m_absolute) rfl 1 (c' := (10, [(0, .int v)], [.int v], M)) (o := []) rfl trivial ?_
    exact Wn.iret rfl (by rw [if_pos h1] at hQ; exact hQ)
  · refine Wn.run (tab := tb_m_absolute) rfl 3 (c' := (10, [(0, .int v)], [.int (-v)], M)) (o := []) rfl trivial ?_
    exact Wn.iret rfl (by rw [if_neg h1] at hQ; exact hQ)
theorem w_m_bitOf (d : Nat) (s : Int32) (k : Int32) (M : Mm)  (Q : Po) (hQ : Q (some (.int (if ¬ ((s >>> (k &&& 31)) &&& (nI 1)) = (nI 1) then (nI 0) else (nI 1)))) M) : Wn (d + 0) 47 Q (0, lv_args 0 [.int s, .int k], [], M) := by
  refine Wn.run (tab := tb_m_bitOf) rfl 7 (c' := (if ¬ ((s >>> (k &&& 31)) &&& (nI 1)) = (nI 1) then 13 else 9, [(0, .int s), (1, .int k)], [], M)) (o := []) rfl trivial ?_
  refine Wn.br (fun h1 => ?_) (fun h1 => ?_)
  · refine Wn.run (tab := tb_m_bitOf) rfl 1 (c' := (14, [(0, .int s), (1, .int k)], [.int (nI 0)], M)) (o := []) rfl trivial ?_
    exact Wn.zret rfl (Or.inl rfl) (by rw [if_pos h1] at hQ; exact hQ)
  · refine Wn.run (tab := tb_m_bitOf) rfl 2 (c' := (14, [(0, .int s), (1, .int k)], [.int (nI 1)], M)) (o := []) rfl trivial ?_
    exact Wn.zret rfl (Or.inr rfl) (by rw [if_neg h1] at hQ; exact hQ)
theorem w_m_isSmall (d : Nat) (c : Int32) (M : Mm)  (Q : Po) (hQ : Q (some (.int (if c < (nI 97) then (nI 0) else (if (nI 122) < c then (nI 0) else (nI 1))))) M) : Wn (d + 0) 55 Q (0, lv_args 0 [.int c], [], M) := by
  refine Wn.run (tab := tb_m_isSmall) rfl 3 (c' := (if c < (nI 97) then 16 else 6, [(0, .int c)], [], M)) (o := []) rfl trivial ?_
  refine Wn.br (fun h1 => ?_) (fun h1 => ?_)
  · refine Wn.run (tab := tb_m_isSmall) rfl 1 (c' := (17, [(0, .int c)], [.int (nI 0)], M)) (o := []) rfl trivial ?_
    exact Wn.zret rfl (Or.inl rfl) (by rw [if_pos h1] at hQ; exact hQ)
  · refine Wn.run (tab := tb_m_isSmall) rfl 3 (c' := (if (nI 122) < c then 16 else 12, [(0, .int c)], [], M)) (o := []) rfl trivial ?_
    refine Wn.br (fun h2 => ?_) (fun h2 => ?_)
    · refine Wn.run (tab := tb_m_isSmall) rfl 1 (c' := (17, [(0, .int c)], [.int (nI 0)], M)) (o := []) rfl trivial ?_
      exact Wn.zret rfl (Or.inl rfl) (by rw [if_neg h1, if_pos h2] at hQ; exact hQ)
    · refine Wn.run (tab := tb_m_isSmall) rfl 2 (c' := (17, [(0, .int c)], [.int (nI 1)], M)) (o := []) rfl trivial ?_
      exact Wn.zret rfl (Or.inr rfl) (by rw [if_neg h1, if_neg h2] at hQ; exact hQ)
theorem w_m_isDigit (d : Nat) (c : Int32) (M : Mm)  (Q : Po) (hQ : Q (some (.int (if c < (nI 48) then (nI 0) else (if (nI 57) < c then (nI 0) else (nI 1))))) M) : Wn (d + 0) 56 Q (0, lv_args 0 [.int c], [], M) := by
  refine Wn.run (tab := tb_m_isDigit) rfl 3 (c' := (if c < (nI 48) then 16 else 6, [(0, .int c)], [], M)) (o := []) rfl trivial ?_
  refine Wn.br (fun h1 => ?_) (fun h1 => ?_)
  · refine Wn.run (tab := tb_m_isDigit) rfl 1 (c' := (17, [(0, .int c)], [.int (nI 0)], M)) (o := []) rfl trivial ?_
    exact Wn.zret rfl (Or.inl rfl) (by rw [if_pos h1] at hQ; exact hQ)
  · refine Wn.run (tab := tb_m_isDigit) rfl 3 (c' := (if (nI 57) < c then 16 else 12, [(0, .int c)], [], M)) (o := []) rfl trivial ?_
    refine Wn.br (fun h2 => ?_) (fun h2 => ?_)
    · refine Wn.run (tab := tb_m_isDigit) rfl 1 (c' := (17, [(0, .int c)], [.int (nI 0)], M)) (o := []) rfl trivial ?_
      exact Wn.zret rfl (Or.inl rfl) (by rw [if_neg h1, if_pos h2] at hQ; exact hQ)
    · refine Wn.run (tab := tb_m_isDigit) rfl 2 (c' := (17, [(0, .int c)], [.int (nI 1)], M)) (o := []) rfl trivial ?_
      exact Wn.zret rfl (Or.inr rfl) (by rw [if_neg h1, if_neg h2] at hQ; exact hQ)
theorem w_m_bitN (d : Nat) (a q : Nat) (ha : a < 64) (hq : q < 6) (M : Mm) (Q : Po) (hQ : Q (some (.int (b2 (a.testBit q = true)))) M) : Wn (d + 0) 47 Q (0, lv_args 0 [.int (nI a), .int (nI q)], [], M) := by
  refine w_m_bitOf d _ _ M Q ?_
  have e := bit_ok a ha q hq
  by_cases h : a.testBit q = true
  · rw [if_neg (Classical.not_not.mpr (e.mpr h))]; rw [b2_t h] at hQ; exact hQ
  · rw [if_pos (fun h9 => h (e.mp h9))]; rw [b2_f h] at hQ; exact hQ
theorem w_m_hasFallen (d : Nat) (q : Nat) (hq : q < 6) (M : Mm) (σ : Nat → Nat) (hM : Ms M σ) (Q : Po) (hQ : Q (some (.int (b2 (fal σ q = true)))) M) : Wn (d + 1) 76 Q (0, lv_args 0 [.ref 114, .int (nI q)], [], M) := by
  obtain ⟨hS, hB⟩ := hM
  refine Wn.run (tab := tb_m_hasFallen) rfl 5 (c' := (8, [(0, .ref 114), (1, .int (nI q))], [.int (nI q), .int (M.1 116 91)], M)) (o := [shp 114 = (0, 10), aok shp 116 0 (nI 91)]) rfl ⟨rfl, ⟨rfl, vp_in_nI (by decide) (by decide)⟩⟩ ?_
  have c9_91 := Bd_91 hB
  rw [show (M.1 116 91) = (nI (σ 91)) from (rd0 hS (by omega))]
  refine Wn.callS (n := 2) (ix := 216) (fun r0 M0 => r0 = some (.int (b2 (((σ 91)).testBit q = true))) ∧ M = M0) [.int (nI (σ 91)), .int (nI q)] [] rfl rfl rfl (Nat.le_of_ble_eq_true rfl) (Nat.le_of_ble_eq_true rfl) (w_m_bitN _ (σ 91) q (by omega) (by omega) M _ ⟨rfl, rfl⟩) ?_
  rintro _ _ ⟨rfl, rfl⟩
  show Wn _ 76 _ (11, [(0, .ref 114), (1, .int (nI q))], [.int (b2 (((σ 91)).testBit q = true))], M)
  exact Wn.zret rfl (is01_b2 _) hQ
theorem w_m_personsOn (d : Nat) (c : Nat) (hc : c < 2 ^ 31) (M : Mm) (σ : Nat → Nat) (hM : Ms M σ) (Q : Po) (hQ : Q (some (.int (nI (pon σ c)))) M) : Wn (d + 2) 78 Q (0, lv_args 0 [.ref 114, .int (nI c)], [], M) := by
  obtain ⟨hS, hB⟩ := hM
  have hM9 : Ms M σ := ⟨hS, hB⟩
  have c9_2 := Bd_2 hB
  refine Wn.run (tab := tb_m_personsOn) rfl 4 (c' := (4, [(3, .int (nI 0)), (2, .int (nI 0)), (0, .ref 114), (1, .int (nI c))], [], M)) (o := []) rfl trivial ?_
  have loop : ∀ (m q : Nat), σ 2 - q = m → q ≤ σ 2 → Wn (d + 2) 78 Q (4, [(3, .int (nI q)), (2, .int (nI (ponN σ c q))), (0, .ref 114), (1, .int (nI c))], [], M) := by
    intro m
    induction m using Nat.strongRecOn with
    | _ m ih =>
      intro q hm hq
      have hlt := ponN_lt σ c q
      refine Wn.run (tab := tb_m_personsOn) rfl 6 (c' := (if (M.1 116 2) ≤ (nI q) then 52 else 14, [(3, .int (nI q)), (2, .int (nI (ponN σ c q))), (0, .ref 114), (1, .int (nI c))], [], M)) (o := [shp 114 = (0, 10), aok shp 116 0 (nI 2)]) rfl ⟨rfl, ⟨rfl, vp_in_nI (by decide) (by decide)⟩⟩ ?_
      refine Wn.br (fun h1 => ?_) (fun h1 => ?_)
      · have c9_2 := Bd_2 hB
        have h1 := (n_le (rd0 hS (by omega)) rfl (by omega) (by omega)).mp h1
        refine Wn.run (tab := tb_m_personsOn) rfl 1 (c' := (53, [(3, .int (nI q)), (2, .int (nI (ponN σ c q))), (0, .ref 114), (1, .int (nI c))], [.int (nI (ponN σ c q))], M)) (o := []) rfl trivial ?_
        have e9 : q = σ 2 := by omega
        rw [e9]
        exact Wn.iret rfl hQ
      · have c9_2 := Bd_2 hB
        have h1 := mt (n_le (rd0 hS (by omega)) rfl (by omega) (by omega)).mpr h1
        refine Wn.run (tab := tb_m_personsOn) rfl 9 (c' := (if ¬ (M.1 116 (((nI 160) + (nI q))).toNatClampNeg) = (nI c) then 43 else 29, [(3, .int (nI q)), (2, .int (nI (ponN σ c q))), (0, .ref 114), (1, .int (nI c))], [.int (nI (ponN σ c q))], M)) (o := [shp 114 = (0, 10), aok shp 116 0 ((nI 160) + (nI q))]) rfl ⟨rfl, (ak1 (n := 359) rfl rfl (n_add rfl rfl) (by omega))⟩ ?_
        refine Wn.br (fun h2 => ?_) (fun h2 => ?_)
        · have f9 := Bd_q hB q (by omega)
          have h2 := mt (n_eq (rd1 hS (n_add rfl rfl) (by omega) (by omega)) rfl (by omega) (by omega)).mpr h2
          refine Wn.run (tab := tb_m_personsOn) rfl 5 (c' := (4, [(3, .int ((nI q) + (nI 1))), (2, .int ((nI (ponN σ c q)) ||| (nI 0))), (0, .ref 114), (1, .int (nI c))], [], M)) (o := []) rfl trivial ?_
          rw [show ((nI q) + (nI 1)) = (nI (q + 1)) from (n_add rfl rfl)]
          have hq6 : q < 6 := by omega
          have on9 : ¬ onC σ c q = true := by intro h9; have h8 := onC_iff.mp h9; exact h2 h8.1
          have h64 : ponN σ c q < 64 := Nat.lt_of_lt_of_le hlt (Nat.pow_le_pow_right (by decide) (by omega : q ≤ 6))
          rw [show ((nI (ponN σ c q)) ||| (nI 0)) = (nI (ponN σ c (q + 1))) from (by rw [or_0 _ h64]; show _ = nI (ponN σ c q + (if onC σ c q then 2 ^ q else 0)); rw [if_neg on9]; rfl)]
          exact ih (σ 2 - (q + 1)) (by omega) (q + 1) rfl (by omega)
        · have f9 := Bd_q hB q (by omega)
          have h2 := (n_eq (rd1 hS (n_add rfl rfl) (by omega) (by omega)) rfl (by omega) (by omega)).mp (Classical.not_not.mp h2)
          refine Wn.run (tab := tb_m_personsOn) rfl 2 (c' := (31, [(3, .int (nI q)), (2, .int (nI (ponN σ c q))), (0, .ref 114), (1, .int (nI c))], [.int (nI q), .ref 114, .int (nI (ponN σ c q))], M)) (o := []) rfl trivial ?_
          refine Wn.callV (p := 114) (n := 2) (ix := 260) (ci := (10)) (fun r0 M0 => r0 = some (.int (b2 (fal σ q = true))) ∧ M = M0) [.int (nI q)] [.int (nI (ponN σ c q))] rfl rfl rfl rfl (Nat.le_of_ble_eq_true rfl) (Nat.le_of_ble_eq_true rfl) (w_m_hasFallen _ q (by omega) M σ hM9 _ ⟨rfl, rfl⟩) ?_
          rintro _ _ ⟨rfl, rfl⟩
          show Wn _ 78 _ (34, [(3, .int (nI q)), (2, .int (nI (ponN σ c q))), (0, .ref 114), (1, .int (nI c))], [.int (b2 (fal σ q = true)), .int (nI (ponN σ c q))], M)
          refine Wn.run (tab := tb_m_personsOn) rfl 1 (c' := (if ¬ (b2 (fal σ q = true)) = 0 then 43 else 37, [(3, .int (nI q)), (2, .int (nI (ponN σ c q))), (0, .ref 114), (1, .int (nI c))], [.int (nI (ponN σ c q))], M)) (o := []) rfl trivial ?_
          refine Wn.br (fun h3 => ?_) (fun h3 => ?_)
          · have h3 := b2_pos h3
            refine Wn.run (tab := tb_m_personsOn) rfl 5 (c' := (4, [(3, .int ((nI q) + (nI 1))), (2, .int ((nI (ponN σ c q)) ||| (nI 0))), (0, .ref 114), (1, .int (nI c))], [], M)) (o := []) rfl trivial ?_
            rw [show ((nI q) + (nI 1)) = (nI (q + 1)) from (n_add rfl rfl)]
            have hq6 : q < 6 := by omega
            have on9 : ¬ onC σ c q = true := by intro h9; have h8 := onC_iff.mp h9; exact h8.2 h3
            have h64 : ponN σ c q < 64 := Nat.lt_of_lt_of_le hlt (Nat.pow_le_pow_right (by decide) (by omega : q ≤ 6))
            rw [show ((nI (ponN σ c q)) ||| (nI 0)) = (nI (ponN σ c (q + 1))) from (by rw [or_0 _ h64]; show _ = nI (ponN σ c q + (if onC σ c q then 2 ^ q else 0)); rw [if_neg on9]; rfl)]
            exact ih (σ 2 - (q + 1)) (by omega) (q + 1) rfl (by omega)
          · have h3 := b2_nneg h3
            refine Wn.run (tab := tb_m_personsOn) rfl 8 (c' := (4, [(3, .int ((nI q) + (nI 1))), (2, .int ((nI (ponN σ c q)) ||| ((nI 1) <<< ((nI q) &&& 31)))), (0, .ref 114), (1, .int (nI c))], [], M)) (o := []) rfl trivial ?_
            rw [show ((nI q) + (nI 1)) = (nI (q + 1)) from (n_add rfl rfl)]
            have hq6 : q < 6 := by omega
            have on9 : onC σ c q = true := onC_iff.mpr ⟨h2, h3⟩
            rw [show ((nI (ponN σ c q)) ||| ((nI 1) <<< ((nI q) &&& 31))) = (nI (ponN σ c (q + 1))) from (by rw [or_ok q hq6 _ hlt]; show _ = nI (ponN σ c q + (if onC σ c q then 2 ^ q else 0)); rw [if_pos on9])]
            exact ih (σ 2 - (q + 1)) (by omega) (q + 1) rfl (by omega)
  exact loop (σ 2 - 0) 0 rfl (by omega)
theorem w_m_loadsOn (d : Nat) (c : Nat) (hc : c < 2 ^ 31) (M : Mm) (σ : Nat → Nat) (hM : Ms M σ) (Q : Po) (hQ : Q (some (.int (nI (ld σ c)))) M) : Wn (d + 3) 79 Q (0, lv_args 0 [.ref 114, .int (nI c)], [], M) := by
  obtain ⟨hS, hB⟩ := hM
  have hM9 : Ms M σ := ⟨hS, hB⟩
  have c9_2 := Bd_2 hB
  have hp64 := pon_lt hB c
  refine Wn.run (tab := tb_m_loadsOn) rfl 2 (c' := (2, [(0, .ref 114), (1, .int (nI c))], [.int (nI c), .ref 114], M)) (o := []) rfl trivial ?_
  refine Wn.callV (p := 114) (n := 2) (ix := 263) (ci := (10)) (fun r0 M0 => r0 = some (.int (nI (pon σ c))) ∧ M = M0) [.int (nI c)] [] rfl rfl rfl rfl (Nat.le_of_ble_eq_true rfl) (Nat.le_of_ble_eq_true rfl) (w_m_personsOn _ c (by omega) M σ hM9 _ ⟨rfl, rfl⟩) ?_
  rintro _ _ ⟨rfl, rfl⟩
  show Wn _ 79 _ (5, [(0, .ref 114), (1, .int (nI c))], [.int (nI (pon σ c))], M)
  refine Wn.run (tab := tb_m_loadsOn) rfl 5 (c' := (11, [(4, .int (nI 0)), (3, .int (nI 0)), (2, .int (nI (pon σ c))), (0, .ref 114), (1, .int (nI c))], [], M)) (o := []) rfl trivial ?_
  have loop : ∀ (m q : Nat), σ 2 - q = m → q ≤ σ 2 → Wn (d + 3) 79 Q (11, [(4, .int (nI q)), (3, .int (nI (ldN σ c q))), (2, .int (nI (pon σ c))), (0, .ref 114), (1, .int (nI c))], [], M) := by
    intro m
    induction m using Nat.strongRecOn with
    | _ m ih =>
      intro q hm hq
      refine Wn.run (tab := tb_m_loadsOn) rfl 6 (c' := (if (M.1 116 2) ≤ (nI q) then 54 else 22, [(4, .int (nI q)), (3, .int (nI (ldN σ c q))), (2, .int (nI (pon σ c))), (0, .ref 114), (1, .int (nI c))], [], M)) (o := [shp 114 = (0, 10), aok shp 116 0 (nI 2)]) rfl ⟨rfl, ⟨rfl, vp_in_nI (by decide) (by decide)⟩⟩ ?_
      refine Wn.br (fun h1 => ?_) (fun h1 => ?_)
      · have c9_2 := Bd_2 hB
        have h1 := (n_le (rd0 hS (by omega)) rfl (by omega) (by omega)).mp h1
        refine Wn.run (tab := tb_m_loadsOn) rfl 1 (c' := (55, [(4, .int (nI q)), (3, .int (nI (ldN σ c q))), (2, .int (nI (pon σ c))), (0, .ref 114), (1, .int (nI c))], [.int (nI (ldN σ c q))], M)) (o := []) rfl trivial ?_
        have e9 : q = σ 2 := by omega
        rw [e9]
        exact Wn.iret rfl hQ
      · have c9_2 := Bd_2 hB
        have h1 := mt (n_le (rd0 hS (by omega)) rfl (by omega) (by omega)).mpr h1
        refine Wn.run (tab := tb_m_loadsOn) rfl 3 (c' := (26, [(4, .int (nI q)), (3, .int (nI (ldN σ c q))), (2, .int (nI (pon σ c))), (0, .ref 114), (1, .int (nI c))], [.int (nI q), .int (nI (pon σ c)), .int (nI (ldN σ c q))], M)) (o := []) rfl trivial ?_
        refine Wn.callS (n := 2) (ix := 216) (fun r0 M0 => r0 = some (.int (b2 (((pon σ c)).testBit q = true))) ∧ M = M0) [.int (nI (pon σ c)), .int (nI q)] [.int (nI (ldN σ c q))] rfl rfl rfl (Nat.le_of_ble_eq_true rfl) (Nat.le_of_ble_eq_true rfl) (w_m_bitN _ (pon σ c) q (by omega) (by omega) M _ ⟨rfl, rfl⟩) ?_
        rintro _ _ ⟨rfl, rfl⟩
        show Wn _ 79 _ (29, [(4, .int (nI q)), (3, .int (nI (ldN σ c q))), (2, .int (nI (pon σ c))), (0, .ref 114), (1, .int (nI c))], [.int (b2 (((pon σ c)).testBit q = true)), .int (nI (ldN σ c q))], M)
        refine Wn.run (tab := tb_m_loadsOn) rfl 1 (c' := (if (b2 (((pon σ c)).testBit q = true)) = 0 then 45 else 32, [(4, .int (nI q)), (3, .int (nI (ldN σ c q))), (2, .int (nI (pon σ c))), (0, .ref 114), (1, .int (nI c))], [.int (nI (ldN σ c q))], M)) (o := []) rfl trivial ?_
        refine Wn.br (fun h2 => ?_) (fun h2 => ?_)
        · have h2 := b2_neg h2
          refine Wn.run (tab := tb_m_loadsOn) rfl 5 (c' := (11, [(4, .int ((nI q) + (nI 1))), (3, .int ((nI (ldN σ c q)) + (nI 0))), (2, .int (nI (pon σ c))), (0, .ref 114), (1, .int (nI c))], [], M)) (o := []) rfl trivial ?_
          rw [show ((nI (ldN σ c q)) + (nI 0)) = (nI ((ldN σ c q) + 0)) from (n_add rfl rfl)]
          rw [show ((nI q) + (nI 1)) = (nI (q + 1)) from (n_add rfl rfl)]
          have on9 : ¬ onC σ c q = true := by have hb := ponN_bit σ c (σ 2) q; rw [decide_eq_true (show q < σ 2 by omega), Bool.true_and] at hb; rw [← hb]; exact h2
          rw [show (nI ((ldN σ c q) + 0)) = (nI (ldN σ c (q + 1))) from (by show _ = nI (ldN σ c q + (if onC σ c q then σ (78 + q) else 0)); rw [if_neg on9])]
          exact ih (σ 2 - (q + 1)) (by omega) (q + 1) rfl (by omega)
        · have h2 := b2_pos h2
          refine Wn.run (tab := tb_m_loadsOn) rfl 11 (c' := (11, [(4, .int ((nI q) + (nI 1))), (3, .int ((nI (ldN σ c q)) + (M.1 116 (((nI 78) + (nI q))).toNatClampNeg))), (2, .int (nI (pon σ c))), (0, .ref 114), (1, .int (nI c))], [], M)) (o := [shp 114 = (0, 10), aok shp 116 0 ((nI 78) + (nI q))]) rfl ⟨rfl, (ak1 (n := 359) rfl rfl (n_add rfl rfl) (by omega))⟩ ?_
          have f9 := Bd_q hB q (by omega)
          rw [show ((nI (ldN σ c q)) + (M.1 116 (((nI 78) + (nI q))).toNatClampNeg)) = (nI ((ldN σ c q) + (σ (78 + q)))) from (n_add rfl (rd1 hS (n_add rfl rfl) (by omega) (by omega)))]
          rw [show ((nI q) + (nI 1)) = (nI (q + 1)) from (n_add rfl rfl)]
          have on9 : onC σ c q = true := by have hb := ponN_bit σ c (σ 2) q; rw [decide_eq_true (show q < σ 2 by omega), Bool.true_and] at hb; rw [← hb]; exact h2
          rw [show (nI ((ldN σ c q) + (σ (78 + q)))) = (nI (ldN σ c (q + 1))) from (by show _ = nI (ldN σ c q + (if onC σ c q then σ (78 + q) else 0)); rw [if_pos on9])]
          exact ih (σ 2 - (q + 1)) (by omega) (q + 1) rfl (by omega)
  exact loop (σ 2 - 0) 0 rfl (by omega)
theorem w_m_isInT (d : Nat) (v lo hi : Int32) (M : Mm) (Q : Po) (hQ : Q (some (.int (b2 (lo.toInt ≤ v.toInt ∧ v.toInt ≤ hi.toInt)))) M) : Wn (d + 0) 46 Q (0, lv_args 0 [.int v, .int lo, .int hi], [], M) := by
  refine w_m_isIn d v lo hi M Q ?_
  by_cases h1 : v < lo
  · rw [if_pos h1]
    rw [b2_f (by have := Int32.lt_iff_toInt_lt.mp h1; omega)] at hQ
    exact hQ
  · rw [if_neg h1]
    have h1 := mt Int32.lt_iff_toInt_lt.mpr h1
    by_cases h2 : hi < v
    · rw [if_pos h2]
      rw [b2_f (by have := Int32.lt_iff_toInt_lt.mp h2; omega)] at hQ
      exact hQ
    · rw [if_neg h2]
      have h2 := mt Int32.lt_iff_toInt_lt.mpr h2
      rw [b2_t (by omega)] at hQ
      exact hQ
theorem sub1_toInt {a : Nat} (h : a < 2 ^ 30) : (nI a - nI 1).toInt = (a : Int) - 1 := pk_sub_toInt h (by decide)
theorem nI0_toInt : (nI 0).toInt = 0 := nI_toInt (n := 0) (by decide)
theorem isP_iff {σ : Nat → Nat} (hB : Bd σ) (q : Int32) : ((nI 0).toInt ≤ q.toInt ∧ q.toInt ≤ ((nI (σ 2)) - (nI 1)).toInt) ↔ (0 ≤ q.toInt ∧ q.toInt < (σ 2 : Int)) := by
  have h := Bd_2 hB
  rw [nI0_toInt, sub1_toInt (by omega)]
  omega
theorem w_m_isPerson (d : Nat) (q : Int32) (M : Mm) (σ : Nat → Nat) (hM : Ms M σ) (Q : Po) (hQ : Q (some (.int (b2 (0 ≤ q.toInt ∧ q.toInt < (σ 2 : Int))))) M) : Wn (d + 1) 74 Q (0, lv_args 0 [.ref 114, .int q], [], M) := by
  obtain ⟨hS, hB⟩ := hM
  refine Wn.run (tab := tb_m_isPerson) rfl 8 (c' := (10, [(0, .ref 114), (1, .int q)], [.int ((M.1 116 2) - (nI 1)), .int (nI 0), .int q], M)) (o := [shp 114 = (0, 10), aok shp 116 0 (nI 2)]) rfl ⟨rfl, ⟨rfl, vp_in_nI (by decide) (by decide)⟩⟩ ?_
  have c9_2 := Bd_2 hB
  rw [show (M.1 116 2) = (nI (σ 2)) from (rd0 hS (by omega))]
  refine Wn.callS (n := 3) (ix := 194) (fun r0 M0 => r0 = some (.int (b2 ((nI 0).toInt ≤ q.toInt ∧ q.toInt ≤ ((nI (σ 2)) - (nI 1)).toInt))) ∧ M = M0) [.int q, .int (nI 0), .int ((nI (σ 2)) - (nI 1))] [] rfl rfl rfl (Nat.le_of_ble_eq_true rfl) (Nat.le_of_ble_eq_true rfl) (w_m_isInT _ q (nI 0) ((nI (σ 2)) - (nI 1)) M _ ⟨rfl, rfl⟩) ?_
  rintro _ _ ⟨rfl, rfl⟩
  show Wn _ 74 _ (13, [(0, .ref 114), (1, .int q)], [.int (b2 ((nI 0).toInt ≤ q.toInt ∧ q.toInt ≤ ((nI (σ 2)) - (nI 1)).toInt))], M)
  exact Wn.zret rfl (is01_b2 _) (by rw [b2_iff (isP_iff hB q)]; exact hQ)
theorem isX_iff {a : Nat} (h : a ≤ 8) (q : Int32) : ((nI 0).toInt ≤ q.toInt ∧ q.toInt ≤ ((nI a) - (nI 1)).toInt) ↔ (0 ≤ q.toInt ∧ q.toInt < (a : Int)) := by
  rw [nI0_toInt, sub1_toInt (by omega)]
  omega
theorem w_m_isCell (d : Nat) (x y : Int32) (M : Mm) (σ : Nat → Nat) (hM : Ms M σ) (Q : Po) (hQ : Q (some (.int (b2 (0 ≤ x.toInt ∧ x.toInt < (σ 0 : Int) ∧ 0 ≤ y.toInt ∧ y.toInt < (σ 1 : Int))))) M) : Wn (d + 1) 75 Q (0, lv_args 0 [.ref 114, .int x, .int y], [], M) := by
  obtain ⟨hS, hB⟩ := hM
  refine Wn.run (tab := tb_m_isCell) rfl 8 (c' := (10, [(0, .ref 114), (1, .int x), (2, .int y)], [.int ((M.1 116 0) - (nI 1)), .int (nI 0), .int x], M)) (o := [shp 114 = (0, 10), aok shp 116 0 (nI 0)]) rfl ⟨rfl, ⟨rfl, vp_in_nI (by decide) (by decide)⟩⟩ ?_
  have c9_0 := Bd_0 hB
  rw [show (M.1 116 0) = (nI (σ 0)) from (rd0 hS (by omega))]
  refine Wn.callS (n := 3) (ix := 194) (fun r0 M0 => r0 = some (.int (b2 ((nI 0).toInt ≤ x.toInt ∧ x.toInt ≤ ((nI (σ 0)) - (nI 1)).toInt))) ∧ M = M0) [.int x, .int (nI 0), .int ((nI (σ 0)) - (nI 1))] [] rfl rfl rfl (Nat.le_of_ble_eq_true rfl) (Nat.le_of_ble_eq_true rfl) (w_m_isInT _ x (nI 0) ((nI (σ 0)) - (nI 1)) M _ ⟨rfl, rfl⟩) ?_
  rintro _ _ ⟨rfl, rfl⟩
  show Wn _ 75 _ (13, [(0, .ref 114), (1, .int x), (2, .int y)], [.int (b2 ((nI 0).toInt ≤ x.toInt ∧ x.toInt ≤ ((nI (σ 0)) - (nI 1)).toInt))], M)
  refine Wn.run (tab := tb_m_isCell) rfl 1 (c' := (if (b2 ((nI 0).toInt ≤ x.toInt ∧ x.toInt ≤ ((nI (σ 0)) - (nI 1)).toInt)) = 0 then 36 else 16, [(0, .ref 114), (1, .int x), (2, .int y)], [], M)) (o := []) rfl trivial ?_
  refine Wn.br (fun h1 => ?_) (fun h1 => ?_)
  · have h1 := b2_neg h1
    refine Wn.run (tab := tb_m_isCell) rfl 1 (c' := (37, [(0, .ref 114), (1, .int x), (2, .int y)], [.int (nI 0)], M)) (o := []) rfl trivial ?_
    have k0 := Bd_0 hB
    have k1 := Bd_1 hB
    rw [isX_iff (by omega)] at h1
    exact Wn.zret rfl (Or.inl rfl) (by rw [b2_f (by omega)] at hQ; exact hQ)
  · have h1 := b2_pos h1
    refine Wn.run (tab := tb_m_isCell) rfl 8 (c' := (26, [(0, .ref 114), (1, .int x), (2, .int y)], [.int ((M.1 116 1) - (nI 1)), .int (nI 0), .int y], M)) (o := [shp 114 = (0, 10), aok shp 116 0 (nI 1)]) rfl ⟨rfl, ⟨rfl, vp_in_nI (by decide) (by decide)⟩⟩ ?_
    have c9_1 := Bd_1 hB
    rw [show (M.1 116 1) = (nI (σ 1)) from (rd0 hS (by omega))]
    refine Wn.callS (n := 3) (ix := 194) (fun r0 M0 => r0 = some (.int (b2 ((nI 0).toInt ≤ y.toInt ∧ y.toInt ≤ ((nI (σ 1)) - (nI 1)).toInt))) ∧ M = M0) [.int y, .int (nI 0), .int ((nI (σ 1)) - (nI 1))] [] rfl rfl rfl (Nat.le_of_ble_eq_true rfl) (Nat.le_of_ble_eq_true rfl) (w_m_isInT _ y (nI 0) ((nI (σ 1)) - (nI 1)) M _ ⟨rfl, rfl⟩) ?_
    rintro _ _ ⟨rfl, rfl⟩
    show Wn _ 75 _ (29, [(0, .ref 114), (1, .int x), (2, .int y)], [.int (b2 ((nI 0).toInt ≤ y.toInt ∧ y.toInt ≤ ((nI (σ 1)) - (nI 1)).toInt))], M)
    refine Wn.run (tab := tb_m_isCell) rfl 1 (c' := (if (b2 ((nI 0).toInt ≤ y.toInt ∧ y.toInt ≤ ((nI (σ 1)) - (nI 1)).toInt)) = 0 then 36 else 32, [(0, .ref 114), (1, .int x), (2, .int y)], [], M)) (o := []) rfl trivial ?_
    refine Wn.br (fun h2 => ?_) (fun h2 => ?_)
    · have h2 := b2_neg h2
      refine Wn.run (tab := tb_m_isCell) rfl 1 (c' := (37, [(0, .ref 114), (1, .int x), (2, .int y)], [.int (nI 0)], M)) (o := []) rfl trivial ?_
      have k0 := Bd_0 hB
      have k1 := Bd_1 hB
      rw [isX_iff (by omega)] at h1
      rw [isX_iff (by omega)] at h2
      exact Wn.zret rfl (Or.inl rfl) (by rw [b2_f (by omega)] at hQ; exact hQ)
    · have h2 := b2_pos h2
      refine Wn.run (tab := tb_m_isCell) rfl 2 (c' := (37, [(0, .ref 114), (1, .int x), (2, .int y)], [.int (nI 1)], M)) (o := []) rfl trivial ?_
      have k0 := Bd_0 hB
      have k1 := Bd_1 hB
      rw [isX_iff (by omega)] at h1
      rw [isX_iff (by omega)] at h2
      exact Wn.zret rfl (Or.inr rfl) (by rw [b2_t (by omega)] at hQ; exact hQ)
theorem apart_ok : ∀ a, a < 64 → ∀ b, b < 64 → ((if 0 ≤ (((nI a) - (nI a) / (nI 8) * (nI 8)) - ((nI b) - (nI b) / (nI 8) * (nI 8))) then (((nI a) - (nI a) / (nI 8) * (nI 8)) - ((nI b) - (nI b) / (nI 8) * (nI 8))) else (-(((nI a) - (nI a) / (nI 8) * (nI 8)) - ((nI b) - (nI b) / (nI 8) * (nI 8))))) + (if 0 ≤ (((nI a) / (nI 8)) - ((nI b) / (nI 8))) then (((nI a) / (nI 8)) - ((nI b) / (nI 8))) else (-(((nI a) / (nI 8)) - ((nI b) / (nI 8)))))) = nI (far a b) := by decide +kernel
theorem w_m_apart (d : Nat) (a b : Nat) (ha : a < 64) (hb : b < 64) (M : Mm) (Q : Po) (hQ : Q (some (.int (nI (far a b)))) M) : Wn (d + 1) 77 Q (0, lv_args 0 [.int (nI a), .int (nI b)], [], M) := by
  refine Wn.run (tab := tb_m_apart) rfl 7 (c' := (9, [(0, .int (nI a)), (1, .int (nI b))], [.int (((nI a) - (nI a) / (nI 8) * (nI 8)) - ((nI b) - (nI b) / (nI 8) * (nI 8)))], M)) (o := [¬ (nI 8) = 0, ¬ (nI 8) = 0]) rfl ⟨(show ¬ (nI 8) = 0 by decide), (show ¬ (nI 8) = 0 by decide)⟩ ?_
  refine Wn.callS (n := 1) (ix := 256) (fun r0 M0 => r0 = some (.int (if 0 ≤ (((nI a) - (nI a) / (nI 8) * (nI 8)) - ((nI b) - (nI b) / (nI 8) * (nI 8))) then (((nI a) - (nI a) / (nI 8) * (nI 8)) - ((nI b) - (nI b) / (nI 8) * (nI 8))) else (-(((nI a) - (nI a) / (nI 8) * (nI 8)) - ((nI b) - (nI b) / (nI 8) * (nI 8)))))) ∧ M = M0) [.int (((nI a) - (nI a) / (nI 8) * (nI 8)) - ((nI b) - (nI b) / (nI 8) * (nI 8)))] [] rfl rfl rfl (Nat.le_of_ble_eq_true rfl) (Nat.le_of_ble_eq_true rfl) (w_m_absolute _ (((nI a) - (nI a) / (nI 8) * (nI 8)) - ((nI b) - (nI b) / (nI 8) * (nI 8))) M _ ⟨rfl, rfl⟩) ?_
  rintro _ _ ⟨rfl, rfl⟩
  show Wn _ 77 _ (12, [(0, .int (nI a)), (1, .int (nI b))], [.int (if 0 ≤ (((nI a) - (nI a) / (nI 8) * (nI 8)) - ((nI b) - (nI b) / (nI 8) * (nI 8))) then (((nI a) - (nI a) / (nI 8) * (nI 8)) - ((nI b) - (nI b) / (nI 8) * (nI 8))) else (-(((nI a) - (nI a) / (nI 8) * (nI 8)) - ((nI b) - (nI b) / (nI 8) * (nI 8)))))], M)
  refine Wn.run (tab := tb_m_apart) rfl 7 (c' := (21, [(0, .int (nI a)), (1, .int (nI b))], [.int (((nI a) / (nI 8)) - ((nI b) / (nI 8))), .int (if 0 ≤ (((nI a) - (nI a) / (nI 8) * (nI 8)) - ((nI b) - (nI b) / (nI 8) * (nI 8))) then (((nI a) - (nI a) / (nI 8) * (nI 8)) - ((nI b) - (nI b) / (nI 8) * (nI 8))) else (-(((nI a) - (nI a) / (nI 8) * (nI 8)) - ((nI b) - (nI b) / (nI 8) * (nI 8)))))], M)) (o := [¬ (nI 8) = 0, ¬ (nI 8) = 0]) rfl ⟨(show ¬ (nI 8) = 0 by decide), (show ¬ (nI 8) = 0 by decide)⟩ ?_
  refine Wn.callS (n := 1) (ix := 256) (fun r0 M0 => r0 = some (.int (if 0 ≤ (((nI a) / (nI 8)) - ((nI b) / (nI 8))) then (((nI a) / (nI 8)) - ((nI b) / (nI 8))) else (-(((nI a) / (nI 8)) - ((nI b) / (nI 8)))))) ∧ M = M0) [.int (((nI a) / (nI 8)) - ((nI b) / (nI 8)))] [.int (if 0 ≤ (((nI a) - (nI a) / (nI 8) * (nI 8)) - ((nI b) - (nI b) / (nI 8) * (nI 8))) then (((nI a) - (nI a) / (nI 8) * (nI 8)) - ((nI b) - (nI b) / (nI 8) * (nI 8))) else (-(((nI a) - (nI a) / (nI 8) * (nI 8)) - ((nI b) - (nI b) / (nI 8) * (nI 8)))))] rfl rfl rfl (Nat.le_of_ble_eq_true rfl) (Nat.le_of_ble_eq_true rfl) (w_m_absolute _ (((nI a) / (nI 8)) - ((nI b) / (nI 8))) M _ ⟨rfl, rfl⟩) ?_
  rintro _ _ ⟨rfl, rfl⟩
  show Wn _ 77 _ (24, [(0, .int (nI a)), (1, .int (nI b))], [.int (if 0 ≤ (((nI a) / (nI 8)) - ((nI b) / (nI 8))) then (((nI a) / (nI 8)) - ((nI b) / (nI 8))) else (-(((nI a) / (nI 8)) - ((nI b) / (nI 8))))), .int (if 0 ≤ (((nI a) - (nI a) / (nI 8) * (nI 8)) - ((nI b) - (nI b) / (nI 8) * (nI 8))) then (((nI a) - (nI a) / (nI 8) * (nI 8)) - ((nI b) - (nI b) / (nI 8) * (nI 8))) else (-(((nI a) - (nI a) / (nI 8) * (nI 8)) - ((nI b) - (nI b) / (nI 8) * (nI 8)))))], M)
  refine Wn.run (tab := tb_m_apart) rfl 1 (c' := (25, [(0, .int (nI a)), (1, .int (nI b))], [.int ((if 0 ≤ (((nI a) - (nI a) / (nI 8) * (nI 8)) - ((nI b) - (nI b) / (nI 8) * (nI 8))) then (((nI a) - (nI a) / (nI 8) * (nI 8)) - ((nI b) - (nI b) / (nI 8) * (nI 8))) else (-(((nI a) - (nI a) / (nI 8) * (nI 8)) - ((nI b) - (nI b) / (nI 8) * (nI 8))))) + (if 0 ≤ (((nI a) / (nI 8)) - ((nI b) / (nI 8))) then (((nI a) / (nI 8)) - ((nI b) / (nI 8))) else (-(((nI a) / (nI 8)) - ((nI b) / (nI 8))))))], M)) (o := []) rfl trivial ?_
  exact Wn.iret rfl (by rw [apart_ok a ha b hb]; exact hQ)
theorem w_m_max0 (d : Nat) (x y : Nat) (hx : x < 2 ^ 30) (hy : y < 2 ^ 30) (M : Mm) (Q : Po) (hQ : Q (some (.int (nI (x - y)))) M) : Wn (d + 0) 49 Q (0, lv_args 0 [.int (nI 0), .int (nI x - nI y)], [], M) := by
  refine w_m_greater d _ _ M Q ?_
  rw [mx0 hx hy]
  exact hQ
theorem w_m_lacks (d : Nat) (q c : Nat) (hq : q < 6) (hc : c < 64) (M : Mm) (σ : Nat → Nat) (hM : Ms M σ) (Q : Po) (hQ : Q (some (.int (nI (ld σ c + σ (78 + q) - σ (96 + c))))) M) : Wn (d + 4) 81 Q (0, lv_args 0 [.ref 114, .int (nI q), .int (nI c)], [], M) := by
  obtain ⟨hS, hB⟩ := hM
  have hM9 : Ms M σ := ⟨hS, hB⟩
  have c9_2 := Bd_2 hB
  have l9 := ld_le hB c
  have f9 := Bd_q hB q hq
  have g9 := Bd_c hB c hc
  refine Wn.run (tab := tb_m_lacks) rfl 3 (c' := (3, [(0, .ref 114), (1, .int (nI q)), (2, .int (nI c))], [.int (nI c), .ref 114, .int (nI 0)], M)) (o := []) rfl trivial ?_
  refine Wn.callV (p := 114) (n := 2) (ix := 269) (ci := (10)) (fun r0 M0 => r0 = some (.int (nI (ld σ c))) ∧ M = M0) [.int (nI c)] [.int (nI 0)] rfl rfl rfl rfl (Nat.le_of_ble_eq_true rfl) (Nat.le_of_ble_eq_true rfl) (w_m_loadsOn _ c (by omega) M σ hM9 _ ⟨rfl, rfl⟩) ?_
  rintro _ _ ⟨rfl, rfl⟩
  show Wn _ 81 _ (6, [(0, .ref 114), (1, .int (nI q)), (2, .int (nI c))], [.int (nI (ld σ c)), .int (nI 0)], M)
  refine Wn.run (tab := tb_m_lacks) rfl 14 (c' := (26, [(0, .ref 114), (1, .int (nI q)), (2, .int (nI c))], [.int (((nI (ld σ c)) + (M.1 116 (((nI 78) + (nI q))).toNatClampNeg)) - (M.1 116 (((nI 96) + (nI c))).toNatClampNeg)), .int (nI 0)], M)) (o := [shp 114 = (0, 10), aok shp 116 0 ((nI 78) + (nI q)), shp 114 = (0, 10), aok shp 116 0 ((nI 96) + (nI c))]) rfl ⟨rfl, (ak1 (n := 359) rfl rfl (n_add rfl rfl) (by omega)), rfl, (ak1 (n := 359) rfl rfl (n_add rfl rfl) (by omega))⟩ ?_
  have f9 := Bd_q hB q (by omega)
  have r9 := ld_le hB c
  rw [show ((nI (ld σ c)) + (M.1 116 (((nI 78) + (nI q))).toNatClampNeg)) = (nI ((ld σ c) + (σ (78 + q)))) from (n_add rfl (rd1 hS (n_add rfl rfl) (by omega) (by omega)))]
  have g9 := Bd_c hB c (by omega)
  rw [show (M.1 116 (((nI 96) + (nI c))).toNatClampNeg) = (nI (σ (96 + c))) from (rd1 hS (n_add rfl rfl) (by omega) (by omega))]
  refine Wn.callS (n := 2) (ix := 272) (fun r0 M0 => r0 = some (.int (nI (((ld σ c) + (σ (78 + q))) - (σ (96 + c))))) ∧ M = M0) [.int (nI 0), .int ((nI ((ld σ c) + (σ (78 + q)))) - (nI (σ (96 + c))))] [] rfl rfl rfl (Nat.le_of_ble_eq_true rfl) (Nat.le_of_ble_eq_true rfl) (w_m_max0 _ ((ld σ c) + (σ (78 + q))) (σ (96 + c)) (by omega) (by omega) M _ ⟨rfl, rfl⟩) ?_
  rintro _ _ ⟨rfl, rfl⟩
  show Wn _ 81 _ (29, [(0, .ref 114), (1, .int (nI q)), (2, .int (nI c))], [.int (nI (((ld σ c) + (σ (78 + q))) - (σ (96 + c))))], M)
  exact Wn.iret rfl hQ
theorem w_m_iceIfSworn (d : Nat) (q c : Nat) (hq : q < 6) (hc : c < 64) (M : Mm) (σ : Nat → Nat) (hM : Ms M σ) (Q : Po) (hQ : Q (some (.int (nI (ifs σ q c)))) M) : Wn (d + 2) 82 Q (0, lv_args 0 [.ref 114, .int (nI q), .int (nI c)], [], M) := by
  obtain ⟨hS, hB⟩ := hM
  have hM9 : Ms M σ := ⟨hS, hB⟩
  have c9_2 := Bd_2 hB
  have f9 := Bd_q hB q hq
  have g9 := Bd_c hB c hc
  have k4 := Bd_4 hB
  have k3 := Bd_3 hB
  refine Wn.run (tab := tb_m_iceIfSworn) rfl 7 (c' := (11, [(0, .ref 114), (1, .int (nI q)), (2, .int (nI c))], [.int (nI c), .int (M.1 116 (((nI 160) + (nI q))).toNatClampNeg)], M)) (o := [shp 114 = (0, 10), aok shp 116 0 ((nI 160) + (nI q))]) rfl ⟨rfl, (ak1 (n := 359) rfl rfl (n_add rfl rfl) (by omega))⟩ ?_
  have f9 := Bd_q hB q (by omega)
  rw [show (M.1 116 (((nI 160) + (nI q))).toNatClampNeg) = (nI (σ (160 + q))) from (rd1 hS (n_add rfl rfl) (by omega) (by omega))]
  refine Wn.callS (n := 2) (ix := 275) (fun r0 M0 => r0 = some (.int (nI (far (σ (160 + q)) c))) ∧ M = M0) [.int (nI (σ (160 + q))), .int (nI c)] [] rfl rfl rfl (Nat.le_of_ble_eq_true rfl) (Nat.le_of_ble_eq_true rfl) (w_m_apart _ (σ (160 + q)) c (by omega) (by omega) M _ ⟨rfl, rfl⟩) ?_
  rintro _ _ ⟨rfl, rfl⟩
  show Wn _ 82 _ (14, [(0, .ref 114), (1, .int (nI q)), (2, .int (nI c))], [.int (nI (far (σ (160 + q)) c))], M)
  refine Wn.run (tab := tb_m_iceIfSworn) rfl 5 (c' := (if (M.1 116 4) < (nI (far (σ (160 + q)) c)) then 46 else 23, [(0, .ref 114), (1, .int (nI q)), (2, .int (nI c))], [], M)) (o := [shp 114 = (0, 10), aok shp 116 0 (nI 4)]) rfl ⟨rfl, ⟨rfl, vp_in_nI (by decide) (by decide)⟩⟩ ?_
  refine Wn.br (fun h1 => ?_) (fun h1 => ?_)
  · have c9_4 := Bd_4 hB
    have f9 := Bd_q hB q (by omega)
    have r9 := far_lt (σ (160 + q)) c (by omega) (by omega)
    have h1 := (n_lt (rd0 hS (by omega)) rfl (by omega) (by omega)).mp h1
    refine Wn.run (tab := tb_m_iceIfSworn) rfl 6 (c' := (55, [(0, .ref 114), (1, .int (nI q)), (2, .int (nI c))], [.int (M.1 116 (((nI 96) + (nI c))).toNatClampNeg)], M)) (o := [shp 114 = (0, 10), aok shp 116 0 ((nI 96) + (nI c))]) rfl ⟨rfl, (ak1 (n := 359) rfl rfl (n_add rfl rfl) (by omega))⟩ ?_
    have g9 := Bd_c hB c (by omega)
    rw [show (M.1 116 (((nI 96) + (nI c))).toNatClampNeg) = (nI (σ (96 + c))) from (rd1 hS (n_add rfl rfl) (by omega) (by omega))]
    have e9 : ifs σ q c = σ (96 + c) := if_neg (by omega)
    rw [e9] at hQ
    exact Wn.iret rfl hQ
  · have c9_4 := Bd_4 hB
    have f9 := Bd_q hB q (by omega)
    have r9 := far_lt (σ (160 + q)) c (by omega) (by omega)
    have h1 := mt (n_lt (rd0 hS (by omega)) rfl (by omega) (by omega)).mpr h1
    refine Wn.run (tab := tb_m_iceIfSworn) rfl 12 (c' := (40, [(0, .ref 114), (1, .int (nI q)), (2, .int (nI c))], [.int ((M.1 116 (((nI 96) + (nI c))).toNatClampNeg) - (M.1 116 3)), .int (nI 0)], M)) (o := [shp 114 = (0, 10), aok shp 116 0 ((nI 96) + (nI c)), shp 114 = (0, 10), aok shp 116 0 (nI 3)]) rfl ⟨rfl, (ak1 (n := 359) rfl rfl (n_add rfl rfl) (by omega)), rfl, ⟨rfl, vp_in_nI (by decide) (by decide)⟩⟩ ?_
    have g9 := Bd_c hB c (by omega)
    rw [show (M.1 116 (((nI 96) + (nI c))).toNatClampNeg) = (nI (σ (96 + c))) from (rd1 hS (n_add rfl rfl) (by omega) (by omega))]
    have c9_3 := Bd_3 hB
    rw [show (M.1 116 3) = (nI (σ 3)) from (rd0 hS (by omega))]
    refine Wn.callS (n := 2) (ix := 272) (fun r0 M0 => r0 = some (.int (nI ((σ (96 + c)) - (σ 3)))) ∧ M = M0) [.int (nI 0), .int ((nI (σ (96 + c))) - (nI (σ 3)))] [] rfl rfl rfl (Nat.le_of_ble_eq_true rfl) (Nat.le_of_ble_eq_true rfl) (w_m_max0 _ (σ (96 + c)) (σ 3) (by omega) (by omega) M _ ⟨rfl, rfl⟩) ?_
    rintro _ _ ⟨rfl, rfl⟩
    show Wn _ 82 _ (43, [(0, .ref 114), (1, .int (nI q)), (2, .int (nI c))], [.int (nI ((σ (96 + c)) - (σ 3)))], M)
    refine Wn.run (tab := tb_m_iceIfSworn) rfl 1 (c' := (55, [(0, .ref 114), (1, .int (nI q)), (2, .int (nI c))], [.int (nI ((σ (96 + c)) - (σ 3)))], M)) (o := []) rfl trivial ?_
    have e9 : ifs σ q c = σ (96 + c) - σ 3 := if_pos (by omega)
    rw [e9] at hQ
    exact Wn.iret rfl hQ
theorem w_m_dangerOf (d : Nat) (q : Nat) (hq6 : q < 6) (M : Mm) (σ : Nat → Nat) (hM : Ms M σ) (Q : Po) (hQ : Q (some (.int (nI (dng σ q)))) M) : Wn (d + 4) 83 Q (0, lv_args 0 [.ref 114, .int (nI q)], [], M) := by
  obtain ⟨hS, hB⟩ := hM
  have hM9 : Ms M σ := ⟨hS, hB⟩
  have c9_2 := Bd_2 hB
  refine Wn.run (tab := tb_m_dangerOf) rfl 4 (c' := (4, [(3, .int (nI 0)), (2, .int (nI 0)), (0, .ref 114), (1, .int (nI q))], [], M)) (o := []) rfl trivial ?_
  have loop : ∀ (m k : Nat), σ 2 - k = m → k ≤ σ 2 → Wn (d + 4) 83 Q (4, [(3, .int (nI k)), (2, .int (nI (dngN σ q k))), (0, .ref 114), (1, .int (nI q))], [], M) := by
    intro m
    induction m using Nat.strongRecOn with
    | _ m ih =>
      intro k hm hq
      have hlt := dngN_lt σ q k
      refine Wn.run (tab := tb_m_dangerOf) rfl 6 (c' := (if (M.1 116 2) ≤ (nI k) then 78 else 14, [(3, .int (nI k)), (2, .int (nI (dngN σ q k))), (0, .ref 114), (1, .int (nI q))], [], M)) (o := [shp 114 = (0, 10), aok shp 116 0 (nI 2)]) rfl ⟨rfl, ⟨rfl, vp_in_nI (by decide) (by decide)⟩⟩ ?_
      refine Wn.br (fun h1 => ?_) (fun h1 => ?_)
      · have c9_2 := Bd_2 hB
        have h1 := (n_le (rd0 hS (by omega)) rfl (by omega) (by omega)).mp h1
        refine Wn.run (tab := tb_m_dangerOf) rfl 1 (c' := (79, [(3, .int (nI k)), (2, .int (nI (dngN σ q k))), (0, .ref 114), (1, .int (nI q))], [.int (nI (dngN σ q k))], M)) (o := []) rfl trivial ?_
        have e9 : k = σ 2 := by omega
        rw [e9]
        exact Wn.iret rfl hQ
      · have c9_2 := Bd_2 hB
        have h1 := mt (n_le (rd0 hS (by omega)) rfl (by omega) (by omega)).mpr h1
        refine Wn.run (tab := tb_m_dangerOf) rfl 3 (c' := (17, [(3, .int (nI k)), (2, .int (nI (dngN σ q k))), (0, .ref 114), (1, .int (nI q))], [.int (nI q), .ref 114, .int (nI (dngN σ q k))], M)) (o := []) rfl trivial ?_
        refine Wn.callV (p := 114) (n := 2) (ix := 260) (ci := (10)) (fun r0 M0 => r0 = some (.int (b2 (fal σ q = true))) ∧ M = M0) [.int (nI q)] [.int (nI (dngN σ q k))] rfl rfl rfl rfl (Nat.le_of_ble_eq_true rfl) (Nat.le_of_ble_eq_true rfl) (w_m_hasFallen _ q (by omega) M σ hM9 _ ⟨rfl, rfl⟩) ?_
        rintro _ _ ⟨rfl, rfl⟩
        show Wn _ 83 _ (20, [(3, .int (nI k)), (2, .int (nI (dngN σ q k))), (0, .ref 114), (1, .int (nI q))], [.int (b2 (fal σ q = true)), .int (nI (dngN σ q k))], M)
        refine Wn.run (tab := tb_m_dangerOf) rfl 1 (c' := (if ¬ (b2 (fal σ q = true)) = 0 then 69 else 23, [(3, .int (nI k)), (2, .int (nI (dngN σ q k))), (0, .ref 114), (1, .int (nI q))], [.int (nI (dngN σ q k))], M)) (o := []) rfl trivial ?_
        refine Wn.br (fun h2 => ?_) (fun h2 => ?_)
        · have h2 := b2_pos h2
          refine Wn.run (tab := tb_m_dangerOf) rfl 5 (c' := (4, [(3, .int ((nI k) + (nI 1))), (2, .int ((nI (dngN σ q k)) ||| (nI 0))), (0, .ref 114), (1, .int (nI q))], [], M)) (o := []) rfl trivial ?_
          rw [show ((nI k) + (nI 1)) = (nI (k + 1)) from (n_add rfl rfl)]
          have hk6 : k < 6 := by omega
          have on9 : ¬ (¬ fal σ q = true ∧ ¬ fal σ k = true ∧ ifs σ q (σ (160 + k)) < ld σ (σ (160 + k))) := by intro h9; exact h9.1 h2
          have h64 : dngN σ q k < 64 := Nat.lt_of_lt_of_le hlt (Nat.pow_le_pow_right (by decide) (by omega : k ≤ 6))
          rw [show ((nI (dngN σ q k)) ||| (nI 0)) = (nI (dngN σ q (k + 1))) from (by rw [or_0 _ h64]; show _ = nI (dngN σ q k + (if _ then 2 ^ k else 0)); rw [if_neg on9]; rfl)]
          exact ih (σ 2 - (k + 1)) (by omega) (k + 1) rfl (by omega)
        · have h2 := b2_nneg h2
          refine Wn.run (tab := tb_m_dangerOf) rfl 2 (c' := (25, [(3, .int (nI k)), (2, .int (nI (dngN σ q k))), (0, .ref 114), (1, .int (nI q))], [.int (nI k), .ref 114, .int (nI (dngN σ q k))], M)) (o := []) rfl trivial ?_
          refine Wn.callV (p := 114) (n := 2) (ix := 260) (ci := (10)) (fun r0 M0 => r0 = some (.int (b2 (fal σ k = true))) ∧ M = M0) [.int (nI k)] [.int (nI (dngN σ q k))] rfl rfl rfl rfl (Nat.le_of_ble_eq_true rfl) (Nat.le_of_ble_eq_true rfl) (w_m_hasFallen _ k (by omega) M σ hM9 _ ⟨rfl, rfl⟩) ?_
          rintro _ _ ⟨rfl, rfl⟩
          show Wn _ 83 _ (28, [(3, .int (nI k)), (2, .int (nI (dngN σ q k))), (0, .ref 114), (1, .int (nI q))], [.int (b2 (fal σ k = true)), .int (nI (dngN σ q k))], M)
          refine Wn.run (tab := tb_m_dangerOf) rfl 1 (c' := (if ¬ (b2 (fal σ k = true)) = 0 then 69 else 31, [(3, .int (nI k)), (2, .int (nI (dngN σ q k))), (0, .ref 114), (1, .int (nI q))], [.int (nI (dngN σ q k))], M)) (o := []) rfl trivial ?_
          refine Wn.br (fun h3 => ?_) (fun h3 => ?_)
          · have h3 := b2_pos h3
            refine Wn.run (tab := tb_m_dangerOf) rfl 5 (c' := (4, [(3, .int ((nI k) + (nI 1))), (2, .int ((nI (dngN σ q k)) ||| (nI 0))), (0, .ref 114), (1, .int (nI q))], [], M)) (o := []) rfl trivial ?_
            rw [show ((nI k) + (nI 1)) = (nI (k + 1)) from (n_add rfl rfl)]
            have hk6 : k < 6 := by omega
            have on9 : ¬ (¬ fal σ q = true ∧ ¬ fal σ k = true ∧ ifs σ q (σ (160 + k)) < ld σ (σ (160 + k))) := by intro h9; exact h9.2.1 h3
            have h64 : dngN σ q k < 64 := Nat.lt_of_lt_of_le hlt (Nat.pow_le_pow_right (by decide) (by omega : k ≤ 6))
            rw [show ((nI (dngN σ q k)) ||| (nI 0)) = (nI (dngN σ q (k + 1))) from (by rw [or_0 _ h64]; show _ = nI (dngN σ q k + (if _ then 2 ^ k else 0)); rw [if_neg on9]; rfl)]
            exact ih (σ 2 - (k + 1)) (by omega) (k + 1) rfl (by omega)
          · have h3 := b2_nneg h3
            refine Wn.run (tab := tb_m_dangerOf) rfl 7 (c' := (42, [(3, .int (nI k)), (2, .int (nI (dngN σ q k))), (0, .ref 114), (1, .int (nI q))], [.int (M.1 116 (((nI 160) + (nI k))).toNatClampNeg), .ref 114, .int (nI (dngN σ q k))], M)) (o := [shp 114 = (0, 10), aok shp 116 0 ((nI 160) + (nI k))]) rfl ⟨rfl, (ak1 (n := 359) rfl rfl (n_add rfl rfl) (by omega))⟩ ?_
            have f9 := Bd_q hB k (by omega)
            rw [show (M.1 116 (((nI 160) + (nI k))).toNatClampNeg) = (nI (σ (160 + k))) from (rd1 hS (n_add rfl rfl) (by omega) (by omega))]
            refine Wn.callV (p := 114) (n := 2) (ix := 269) (ci := (10)) (fun r0 M0 => r0 = some (.int (nI (ld σ (σ (160 + k))))) ∧ M = M0) [.int (nI (σ (160 + k)))] [.int (nI (dngN σ q k))] rfl rfl rfl rfl (Nat.le_of_ble_eq_true rfl) (Nat.le_of_ble_eq_true rfl) (w_m_loadsOn _ (σ (160 + k)) (by omega) M σ hM9 _ ⟨rfl, rfl⟩) ?_
            rintro _ _ ⟨rfl, rfl⟩
            show Wn _ 83 _ (45, [(3, .int (nI k)), (2, .int (nI (dngN σ q k))), (0, .ref 114), (1, .int (nI q))], [.int (nI (ld σ (σ (160 + k)))), .int (nI (dngN σ q k))], M)
            refine Wn.run (tab := tb_m_dangerOf) rfl 8 (c' := (57, [(3, .int (nI k)), (2, .int (nI (dngN σ q k))), (0, .ref 114), (1, .int (nI q))], [.int (M.1 116 (((nI 160) + (nI k))).toNatClampNeg), .int (nI q), .ref 114, .int (nI (ld σ (σ (160 + k)))), .int (nI (dngN σ q k))], M)) (o := [shp 114 = (0, 10), aok shp 116 0 ((nI 160) + (nI k))]) rfl ⟨rfl, (ak1 (n := 359) rfl rfl (n_add rfl rfl) (by omega))⟩ ?_
            have f9 := Bd_q hB k (by omega)
            rw [show (M.1 116 (((nI 160) + (nI k))).toNatClampNeg) = (nI (σ (160 + k))) from (rd1 hS (n_add rfl rfl) (by omega) (by omega))]
            refine Wn.callV (p := 114) (n := 3) (ix := 278) (ci := (10)) (fun r0 M0 => r0 = some (.int (nI (ifs σ q (σ (160 + k))))) ∧ M = M0) [.int (nI q), .int (nI (σ (160 + k)))] [.int (nI (ld σ (σ (160 + k)))), .int (nI (dngN σ q k))] rfl rfl rfl rfl (Nat.le_of_ble_eq_true rfl) (Nat.le_of_ble_eq_true rfl) (w_m_iceIfSworn _ q (σ (160 + k)) (by omega) (by omega) M σ hM9 _ ⟨rfl, rfl⟩) ?_
            rintro _ _ ⟨rfl, rfl⟩
            show Wn _ 83 _ (60, [(3, .int (nI k)), (2, .int (nI (dngN σ q k))), (0, .ref 114), (1, .int (nI q))], [.int (nI (ifs σ q (σ (160 + k)))), .int (nI (ld σ (σ (160 + k)))), .int (nI (dngN σ q k))], M)
            refine Wn.run (tab := tb_m_dangerOf) rfl 1 (c' := (if (nI (ld σ (σ (160 + k)))) ≤ (nI (ifs σ q (σ (160 + k)))) then 69 else 63, [(3, .int (nI k)), (2, .int (nI (dngN σ q k))), (0, .ref 114), (1, .int (nI q))], [.int (nI (dngN σ q k))], M)) (o := []) rfl trivial ?_
            refine Wn.br (fun h4 => ?_) (fun h4 => ?_)
            · have f9 := Bd_q hB k (by omega)
              have r9 := ld_le hB (σ (160 + k))
              have r9 := ifs_le hB q (σ (160 + k)) (by omega)
              have h4 := (n_le rfl rfl (by omega) (by omega)).mp h4
              refine Wn.run (tab := tb_m_dangerOf) rfl 5 (c' := (4, [(3, .int ((nI k) + (nI 1))), (2, .int ((nI (dngN σ q k)) ||| (nI 0))), (0, .ref 114), (1, .int (nI q))], [], M)) (o := []) rfl trivial ?_
              rw [show ((nI k) + (nI 1)) = (nI (k + 1)) from (n_add rfl rfl)]
              have hk6 : k < 6 := by omega
              have on9 : ¬ (¬ fal σ q = true ∧ ¬ fal σ k = true ∧ ifs σ q (σ (160 + k)) < ld σ (σ (160 + k))) := by intro h9; have h8 := h9.2.2; omega
              have h64 : dngN σ q k < 64 := Nat.lt_of_lt_of_le hlt (Nat.pow_le_pow_right (by decide) (by omega : k ≤ 6))
              rw [show ((nI (dngN σ q k)) ||| (nI 0)) = (nI (dngN σ q (k + 1))) from (by rw [or_0 _ h64]; show _ = nI (dngN σ q k + (if _ then 2 ^ k else 0)); rw [if_neg on9]; rfl)]
              exact ih (σ 2 - (k + 1)) (by omega) (k + 1) rfl (by omega)
            · have f9 := Bd_q hB k (by omega)
              have r9 := ld_le hB (σ (160 + k))
              have r9 := ifs_le hB q (σ (160 + k)) (by omega)
              have h4 := mt (n_le rfl rfl (by omega) (by omega)).mpr h4
              refine Wn.run (tab := tb_m_dangerOf) rfl 8 (c' := (4, [(3, .int ((nI k) + (nI 1))), (2, .int ((nI (dngN σ q k)) ||| ((nI 1) <<< ((nI k) &&& 31)))), (0, .ref 114), (1, .int (nI q))], [], M)) (o := []) rfl trivial ?_
              rw [show ((nI k) + (nI 1)) = (nI (k + 1)) from (n_add rfl rfl)]
              have hk6 : k < 6 := by omega
              have on9 : ¬ fal σ q = true ∧ ¬ fal σ k = true ∧ ifs σ q (σ (160 + k)) < ld σ (σ (160 + k)) := ⟨h2, h3, by omega⟩
              rw [show ((nI (dngN σ q k)) ||| ((nI 1) <<< ((nI k) &&& 31))) = (nI (dngN σ q (k + 1))) from (by rw [or_ok k hk6 _ hlt]; show _ = nI (dngN σ q k + (if _ then 2 ^ k else 0)); rw [if_pos on9])]
              exact ih (σ 2 - (k + 1)) (by omega) (k + 1) rfl (by omega)
  exact loop (σ 2 - 0) 0 rfl (by omega)
