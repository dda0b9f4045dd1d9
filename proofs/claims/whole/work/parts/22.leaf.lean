theorem w_m_isIn (d : Nat) (v : Int32) (lo : Int32) (hi : Int32) (M : Mm)  (Q : Po) (hQ : Q (some (.int (if v < lo then (nI 0) else (if hi < v then (nI 0) else (nI 1))))) M) : Wn (d + 0) 46 Q (0, lv_args 0 [.int v, .int lo, .int hi], [], M) := by
  refine Wn.run (tab := tb_m_isIn) rfl 3 (c' := (if v < lo then 14 else 5, [(0, .int v), (1, .int lo), (2, .int hi)], [], M)) (o := []) rfl trivial ?_
  refine Wn.br (fun h1 => ?_) (fun h1 => ?_)
  · refine Wn.run (tab := tb_m_isIn) rfl 1 (c' := (15, [(0, .int v), (1, .int lo), (2, .int hi)], [.int (nI 0)], M)) (o := []) rfl trivial ?_
    exact Wn.zret rfl (Or.inl rfl) (by rw [if_pos h1] at hQ; exact hQ)
  · refine Wn.run (tab := tb_m_isIn) rfl 3 (c' := (if hi < v then 14 else 10, [(0, .int v), (1, .int lo), (2, .int hi)], [], M)) (o := []) rfl trivial ?_
    refine Wn.br (fun h2 => ?_) (fun h2 => ?_)
    · refine Wn.run (tab := tb_m_isIn) rfl 1 (c' := (15, [(0, .int v), (1, .int lo), (2, .int hi)], [.int (nI 0)], M)) (o := []) rfl trivial ?_
      exact Wn.zret rfl (Or.inl rfl) (by rw [if_neg h1, if_pos h2] at hQ; exact hQ)
    · refine Wn.run (tab := tb_m_isIn) rfl 2 (c' := (15, [(0, .int v), (1, .int lo), (2, .int hi)], [.int (nI 1)], M)) (o := []) rfl trivial ?_
      exact Wn.zret rfl (Or.inr rfl) (by rw [if_neg h1, if_neg h2] at hQ; exact hQ)
theorem w_m_lesser (d : Nat) (a : Int32) (b : Int32) (M : Mm)  (Q : Po) (hQ : Q (some (.int (if b ≤ a then b else a))) M) : Wn (d + 0) 48 Q (0, lv_args 0 [.int a, .int b], [], M) := by
  refine Wn.run (tab := tb_m_lesser) rfl 3 (c' := (if b ≤ a then 9 else 5, [(0, .int a), (1, .int b)], [], M)) (o := []) rfl trivial ?_
  refine Wn.br (fun h1 => ?_) (fun h1 => ?_)
  · refine Wn.run (tab := tb_m_lesser) rfl 1 (c' := (10, [(0, .int a), (1, .int b)], [.int b], M)) (o := []) rfl trivial ?_
    exact Wn.iret rfl (by rw [if_pos h1] at hQ; exact hQ)
  · refine Wn.run (tab := tb_m_lesser) rfl 2 (c' := (10, [(0, .int a), (1, .int b)], [.int a], M)) (o := []) rfl trivial ?_
    exact Wn.iret rfl (by rw [if_neg h1] at hQ; exact hQ)
theorem w_m_greater (d : Nat) (a : Int32) (b : Int32) (M : Mm)  (Q : Po) (hQ : Q (some (.int (if a ≤ b then b else a))) M) : Wn (d + 0) 49 Q (0, lv_args 0 [.int a, .int b], [], M) := by
  refine Wn.run (tab := tb_m_greater) rfl 3 (c' := (if a ≤ b then 9 else 5, [(0, .int a), (1, .int b)], [], M)) (o := []) rfl trivial ?_
  refine Wn.br (fun h1 => ?_) (fun h1 => ?_)
  · refine Wn.run (tab := tb_m_greater) rfl 1 (c' := (10, [(0, .int a), (1, .int b)], [.int b], M)) (o := []) rfl trivial ?_
    exact Wn.iret rfl (by rw [if_pos h1] at hQ; exact hQ)
  · refine Wn.run (tab := tb_m_greater) rfl 2 (c' := (10, [(0, .int a), (1, .int b)], [.int a], M)) (o := []) rfl trivial ?_
    exact Wn.iret rfl (by rw [if_neg h1] at hQ; exact hQ)
theorem w_m_absolute (d : Nat) (v : Int32) (M : Mm)  (Q : Po) (hQ : Q (some (.int (if 0 ≤ v then v else (-v)))) M) : Wn (d + 0) 50 Q (0, lv_args 0 [.int v], [], M) := by
  refine Wn.run (tab := tb_m_absolute) rfl 2 (c' := (if 0 ≤ v then 9 else 4, [(0, .int v)], [], M)) (o := []) rfl trivial ?_
  refine Wn.br (fun h1 => ?_) (fun h1 => ?_)
  · refine Wn.run (tab := tb_m_absolute) rfl 1 (c' := (10, [(0, .int v)], [.int v], M)) (o := []) rfl trivial ?_
    exact Wn.iret rfl (by rw [if_pos h1] at hQ; exact hQ)
  · refine Wn.run (tab := tb_m_absolute) rfl 3 (c' := (10, [(0, .int v)], [.int (-v)], M)) (o := []) rfl trivial ?_
    exact Wn.iret rfl (by rw [if_neg h1] at hQ; exact hQ)
theorem w_m_bitOf (d : Nat) (s : Int32) (k : Int32) (M : Mm)  (Q : Po) (hQ : Q (some (.int (if ¬ ((s >>> (k &&& 31)) &&& (nI 1)) = (nI 1) then (nI 0) else (nI 1)))) M) : Wn (d + 0) 47 Q (0, lv_args 0 [.int s, .int k], [], M) := by
  refine Wn.run (tab := tb_m_bitOf) rfl 7 (c' := (if ¬ ((s >>> (k &&& 31)) &&& (nI 1)) = (nI 1) then 13 else 9, [(0, .int s), (1, .int k)], [], M)) (o := []) rfl trivial ?_
  refine Wn.br (fun h1 => ?_) (fun h1 => ?_)
  · refine Wn.run (tab := tb_m_bitOf) rfl 1 (c' := (14, [(0, .int s), (1, .int k)], [.int (nI 0)], M)) (o := []) rfl trivial ?_
    exact Wn.zret rfl (Or.inl rfl) (by rw [if_pos h1] at hQ; exact hQ)
  · refine Wn.run (tab := tb_m_bitOf) rfl 2 (c' := (14, [(0, .int s), (1, .int k)], [.int (nI 1)], M)) (o := []) rfl trivial ?_
    exact Wn.zret rfl (Or.inr rfl) (by rw [if_neg h1] at hQ; exact hQ)
theorem w_m_isSmall (d : Nat) (c : Int32) (M : Mm)  (Q : Po) (hQ : Q (some (.int (if c < (nI 97) then (nI 0) else (if (nI 122) < c then (nI 0) else (nI 1))))) M) : Wn (d + 0) 55 Q (0, lv_args 0 [.int c], [], M) := by
  refine Wn.run (tab := tb_m_isSmall) rfl 3 (c' := (if c < (nI 97) then 16 else 6, [(0, .int c)], [], M)) (o := []) rfl trivial ?_
  refine Wn.br (fun h1 => ?_) (fun h1 => ?_)
  · refine Wn.run (tab := tb_m_isSmall) rfl 1 (c' := (17, [(0, .int c)], [.int (nI 0)], M)) (o := []) rfl trivial ?_
    exact Wn.zret rfl (Or.inl rfl) (by rw [if_pos h1] at hQ; exact hQ)
  · refine Wn.run (tab := tb_m_isSmall) rfl 3 (c' := (if (nI 122) < c then 16 else 12, [(0, .int c)], [], M)) (o := []) rfl trivial ?_
    refine Wn.br (fun h2 => ?_) (fun h2 => ?_)
    · refine Wn.run (tab := tb_m_isSmall) rfl 1 (c' := (17, [(0, .int c)], [.int (nI 0)], M)) (o := []) rfl trivial ?_
      exact Wn.zret rfl (Or.inl rfl) (by rw [if_neg h1, if_pos h2] at hQ; exact hQ)
    · refine Wn.run (tab := tb_m_isSmall) rfl 2 (c' := (17, [(0, .int c)], [.int (nI 1)], M)) (o := []) rfl trivial ?_
      exact Wn.zret rfl (Or.inr rfl) (by rw [if_neg h1, if_neg h2] at hQ; exact hQ)
theorem w_m_isDigit (d : Nat) (c : Int32) (M : Mm)  (Q : Po) (hQ : Q (some (.int (if c < (nI 48) then (nI 0) else (if (nI 57) < c then (nI 0) else (nI 1))))) M) : Wn (d + 0) 56 Q (0, lv_args 0 [.int c], [], M) := by
  refine Wn.run (tab := tb_m_isDigit) rfl 3 (c' := (if c < (nI 48) then 16 else 6, [(0, .int c)], [], M)) (o := []) rfl trivial ?_
  refine Wn.br (fun h1 => ?_) (fun h1 => ?_)
  · refine Wn.run (tab := tb_m_isDigit) rfl 1 (c' := (17, [(0, .int c)], [.int (nI 0)], M)) (o := []) rfl trivial ?_
    exact Wn.zret rfl (Or.inl rfl) (by rw [if_pos h1] at hQ; exact hQ)
  · refine Wn.run (tab := tb_m_isDigit) rfl 3 (c' := (if (nI 57) < c then 16 else 12, [(0, .int c)], [], M)) (o := []) rfl trivial ?_
    refine Wn.br (fun h2 => ?_) (fun h2 => ?_)
    · refine Wn.run (tab := tb_m_isDigit) rfl 1 (c' := (17, [(0, .int c)], [.int (nI 0)], M)) (o := []) rfl trivial ?_
      exact Wn.zret rfl (Or.inl rfl) (by rw [if_neg h1, if_pos h2] at hQ; exact hQ)
    · refine Wn.run (tab := tb_m_isDigit) rfl 2 (c' := (17, [(0, .int c)], [.int (nI 1)], M)) (o := []) rfl trivial ?_
      exact Wn.zret rfl (Or.inr rfl) (by rw [if_neg h1, if_neg h2] at hQ; exact hQ)
theorem w_m_bitN (d : Nat) (a q : Nat) (ha : a < 64) (hq : q < 6) (M : Mm) (Q : Po) (hQ : Q (some (.int (b2 (a.testBit q = true)))) M) : Wn (d + 0) 47 Q (0, lv_args 0 [.int (nI a), .int (nI q)], [], M) := by
  refine w_m_bitOf d _ _ M Q ?_
  have e := bit_ok a ha q hq
  by_cases h : a.testBit q = true
  · rw [if_neg (Classical.not_not.mpr (e.mpr h))]; rw [b2_t h] at hQ; exact hQ
  · rw [if_pos (fun h9 => h (e.mp h9))]; rw [b2_f h] at hQ; exact hQ
theorem w_m_hasFallen (d : Nat) (q : Nat) (hq : q < 6) (M : Mm) (σ : Nat → Nat) (hM : Ms M σ) (Q : Po) (hQ : Q (some (.int (b2 (fal σ q = true)))) M) : Wn (d + 1) 76 Q (0, lv_args 0 [.ref 114, .int (nI q)], [], M) := by
  obtain ⟨hS, b1, b2, b3, b4, b5, b6, b7, b8, b9, b10, b11, b12, b13, b14, b15, b16, b17, bq, bc, b18, b19, b20⟩ := hM
  refine Wn.run (tab := tb_m_hasFallen) rfl 5 (c' := (8, [(0, .ref 114), (1, .int (nI q))], [.int (nI q), .int (M.1 116 91)], M)) (o := [shp 114 = (0, 10), aok shp 116 0 (nI 91)]) rfl ⟨rfl, ⟨rfl, vp_in_nI (by decide) (by decide)⟩⟩ ?_
  rw [show (M.1 116 91) = (nI (σ 91)) from (rd0 hS (by omega))]
  refine Wn.callS (n := 2) (ix := 216) (fun r M' => r = some (.int (b2 (((σ 91)).testBit q = true))) ∧ M' = M) [.int (nI (σ 91)), .int (nI q)] [] rfl rfl rfl (Nat.le_of_ble_eq_true rfl) (Nat.le_of_ble_eq_true rfl) (w_m_bitN _ (σ 91) q (by omega) (by omega) M _ ⟨rfl, rfl⟩) ?_
  rintro _ _ ⟨rfl, rfl⟩
  show Wn _ 76 _ (11, [(0, .ref 114), (1, .int (nI q))], [.int (b2 (((σ 91)).testBit q = true))], M)
  exact Wn.zret rfl (is01_b2 _) hQ
theorem w_m_personsOn (d : Nat) (c : Nat) (hc : c < 2 ^ 31) (M : Mm) (σ : Nat → Nat) (hM : Ms M σ) (Q : Po) (hQ : Q (some (.int (nI (pon σ c)))) M) : Wn (d + 2) 78 Q (0, lv_args 0 [.ref 114, .int (nI c)], [], M) := by
  obtain ⟨hS, b1, b2, b3, b4, b5, b6, b7, b8, b9, b10, b11, b12, b13, b14, b15, b16, b17, bq, bc, b18, b19, b20⟩ := hM
  have hM9 : Ms M σ := ⟨hS, b1, b2, b3, b4, b5, b6, b7, b8, b9, b10, b11, b12, b13, b14, b15, b16, b17, bq, bc, b18, b19, b20⟩
  refine Wn.run (tab := tb_m_personsOn) rfl 4 (c' := (4, [(3, .int (nI 0)), (2, .int (nI 0)), (0, .ref 114), (1, .int (nI c))], [], M)) (o := []) rfl trivial ?_
  have loop : ∀ (m q : Nat), σ 2 - q = m → q ≤ σ 2 → Wn (d + 2) 78 Q (4, [(3, .int (nI q)), (2, .int (nI (ponN σ c q))), (0, .ref 114), (1, .int (nI c))], [], M) := by
    intro m
    induction m using Nat.strongRecOn with
    | _ m ih =>
      intro q hm hq
      have hlt := ponN_lt σ c q
      refine Wn.run (tab := tb_m_personsOn) rfl 6 (c' := (if (M.1 116 2) ≤ (nI q) then 52 else 14, [(3, .int (nI q)), (2, .int (nI (ponN σ c q))), (0, .ref 114), (1, .int (nI c))], [], M)) (o := [shp 114 = (0, 10), aok shp 116 0 (nI 2)]) rfl ⟨rfl, ⟨rfl, vp_in_nI (by decide) (by decide)⟩⟩ ?_
      refine Wn.br (fun h1 => ?_) (fun h1 => ?_)
      · have h1 := (n_le (rd0 hS (by omega)) rfl (by omega) (by omega)).mp h1
        refine Wn.run (tab := tb_m_personsOn) rfl 1 (c' := (53, [(3, .int (nI q)), (2, .int (nI (ponN σ c q))), (0, .ref 114), (1, .int (nI c))], [.int (nI (ponN σ c q))], M)) (o := []) rfl trivial ?_
        have e9 : q = σ 2 := by omega
        rw [e9]
        exact Wn.iret rfl hQ
      · have h1 := fun h9 => h1 ((n_le (rd0 hS (by omega)) rfl (by omega) (by omega)).mpr h9)
        refine Wn.run (tab := tb_m_personsOn) rfl 9 (c' := (if ¬ (M.1 116 (((nI 160) + (nI q))).toNatClampNeg) = (nI c) then 43 else 29, [(3, .int (nI q)), (2, .int (nI (ponN σ c q))), (0, .ref 114), (1, .int (nI c))], [.int (nI (ponN σ c q))], M)) (o := [shp 114 = (0, 10), aok shp 116 0 ((nI 160) + (nI q))]) rfl ⟨rfl, (ak1 (n := 359) rfl rfl (n_add rfl rfl) (by omega))⟩ ?_
        refine Wn.br (fun h2 => ?_) (fun h2 => ?_)
        · have f9 := bq q (by omega)
          have h2 := fun h9 => h2 ((n_eq (rd1 hS (n_add rfl rfl) (by omega) (by omega)) rfl (by omega) (by omega)).mpr h9)
          refine Wn.run (tab := tb_m_personsOn) rfl 5 (c' := (4, [(3, .int ((nI q) + (nI 1))), (2, .int ((nI (ponN σ c q)) ||| (nI 0))), (0, .ref 114), (1, .int (nI c))], [], M)) (o := []) rfl trivial ?_
          rw [show ((nI q) + (nI 1)) = (nI (q + 1)) from (n_add rfl rfl)]
          have hq6 : q < 6 := by omega
          have on9 : ¬ onC σ c q = true := by simp_all [onC]
          have h64 : ponN σ c q < 64 := Nat.lt_of_lt_of_le hlt (Nat.pow_le_pow_right (by decide) (by omega : q ≤ 6))
          rw [show ((nI (ponN σ c q)) ||| (nI 0)) = (nI (ponN σ c (q + 1))) from (by rw [or_0 _ h64]; show _ = nI (ponN σ c q + (if onC σ c q then 2 ^ q else 0)); rw [if_neg on9]; rfl)]
          exact ih (σ 2 - (q + 1)) (by omega) (q + 1) rfl (by omega)
        · have f9 := bq q (by omega)
          have h2 := (n_eq (rd1 hS (n_add rfl rfl) (by omega) (by omega)) rfl (by omega) (by omega)).mp (Classical.not_not.mp h2)
          refine Wn.run (tab := tb_m_personsOn) rfl 2 (c' := (31, [(3, .int (nI q)), (2, .int (nI (ponN σ c q))), (0, .ref 114), (1, .int (nI c))], [.int (nI q), .ref 114, .int (nI (ponN σ c q))], M)) (o := []) rfl trivial ?_
          refine Wn.callV (p := 114) (n := 2) (ix := 260) (ci := (10)) (fun r M' => r = some (.int (b2 (fal σ q = true))) ∧ M' = M) [.int (nI q)] [.int (nI (ponN σ c q))] rfl rfl rfl rfl (Nat.le_of_ble_eq_true rfl) (Nat.le_of_ble_eq_true rfl) (w_m_hasFallen _ q (by omega) M σ hM9 _ ⟨rfl, rfl⟩) ?_
          rintro _ _ ⟨rfl, rfl⟩
          show Wn _ 78 _ (34, [(3, .int (nI q)), (2, .int (nI (ponN σ c q))), (0, .ref 114), (1, .int (nI c))], [.int (b2 (fal σ q = true)), .int (nI (ponN σ c q))], M)
          refine Wn.run (tab := tb_m_personsOn) rfl 1 (c' := (if ¬ (b2 (fal σ q = true)) = 0 then 43 else 37, [(3, .int (nI q)), (2, .int (nI (ponN σ c q))), (0, .ref 114), (1, .int (nI c))], [.int (nI (ponN σ c q))], M)) (o := []) rfl trivial ?_
          refine Wn.br (fun h3 => ?_) (fun h3 => ?_)
          · have h3 := b2_pos h3
            refine Wn.run (tab := tb_m_personsOn) rfl 5 (c' := (4, [(3, .int ((nI q) + (nI 1))), (2, .int ((nI (ponN σ c q)) ||| (nI 0))), (0, .ref 114), (1, .int (nI c))], [], M)) (o := []) rfl trivial ?_
            rw [show ((nI q) + (nI 1)) = (nI (q + 1)) from (n_add rfl rfl)]
            have hq6 : q < 6 := by omega
            have on9 : ¬ onC σ c q = true := by simp_all [onC]
            have h64 : ponN σ c q < 64 := Nat.lt_of_lt_of_le hlt (Nat.pow_le_pow_right (by decide) (by omega : q ≤ 6))
            rw [show ((nI (ponN σ c q)) ||| (nI 0)) = (nI (ponN σ c (q + 1))) from (by rw [or_0 _ h64]; show _ = nI (ponN σ c q + (if onC σ c q then 2 ^ q else 0)); rw [if_neg on9]; rfl)]
            exact ih (σ 2 - (q + 1)) (by omega) (q + 1) rfl (by omega)
          · have h3 := b2_nneg h3
            refine Wn.run (tab := tb_m_personsOn) rfl 8 (c' := (4, [(3, .int ((nI q) + (nI 1))), (2, .int ((nI (ponN σ c q)) ||| ((nI 1) <<< ((nI q) &&& 31)))), (0, .ref 114), (1, .int (nI c))], [], M)) (o := []) rfl trivial ?_
            rw [show ((nI q) + (nI 1)) = (nI (q + 1)) from (n_add rfl rfl)]
            have hq6 : q < 6 := by omega
            have on9 : onC σ c q = true := by simp_all [onC]
            rw [show ((nI (ponN σ c q)) ||| ((nI 1) <<< ((nI q) &&& 31))) = (nI (ponN σ c (q + 1))) from (by rw [or_ok q hq6 _ hlt]; show _ = nI (ponN σ c q + (if onC σ c q then 2 ^ q else 0)); rw [if_pos on9])]
            exact ih (σ 2 - (q + 1)) (by omega) (q + 1) rfl (by omega)
  exact loop (σ 2 - 0) 0 rfl (by omega)
theorem w_m_loadsOn (d : Nat) (c : Nat) (hc : c < 2 ^ 31) (M : Mm) (σ : Nat → Nat) (hM : Ms M σ) (Q : Po) (hQ : Q (some (.int (nI (ld σ c)))) M) : Wn (d + 3) 79 Q (0, lv_args 0 [.ref 114, .int (nI c)], [], M) := by
  obtain ⟨hS, b1, b2, b3, b4, b5, b6, b7, b8, b9, b10, b11, b12, b13, b14, b15, b16, b17, bq, bc, b18, b19, b20⟩ := hM
  have hM9 : Ms M σ := ⟨hS, b1, b2, b3, b4, b5, b6, b7, b8, b9, b10, b11, b12, b13, b14, b15, b16, b17, bq, bc, b18, b19, b20⟩
  have hp64 : pon σ c < 64 := Nat.lt_of_lt_of_le (ponN_lt σ c (σ 2)) (Nat.pow_le_pow_right (by decide) (by omega : σ 2 ≤ 6))
  refine Wn.run (tab := tb_m_loadsOn) rfl 2 (c' := (2, [(0, .ref 114), (1, .int (nI c))], [.int (nI c), .ref 114], M)) (o := []) rfl trivial ?_
  refine Wn.callV (p := 114) (n := 2) (ix := 263) (ci := (10)) (fun r M' => r = some (.int (nI (pon σ c))) ∧ M' = M) [.int (nI c)] [] rfl rfl rfl rfl (Nat.le_of_ble_eq_true rfl) (Nat.le_of_ble_eq_true rfl) (w_m_personsOn _ c (by omega) M σ hM9 _ ⟨rfl, rfl⟩) ?_
  rintro _ _ ⟨rfl, rfl⟩
  show Wn _ 79 _ (5, [(0, .ref 114), (1, .int (nI c))], [.int (nI (pon σ c))], M)
  refine Wn.run (tab := tb_m_loadsOn) rfl 5 (c' := (11, [(4, .int (nI 0)), (3, .int (nI 0)), (2, .int (nI (pon σ c))), (0, .ref 114), (1, .int (nI c))], [], M)) (o := []) rfl trivial ?_
  have loop : ∀ (m q : Nat), σ 2 - q = m → q ≤ σ 2 → Wn (d + 3) 79 Q (11, [(4, .int (nI q)), (3, .int (nI (ldN σ c q))), (2, .int (nI (pon σ c))), (0, .ref 114), (1, .int (nI c))], [], M) := by
    intro m
    induction m using Nat.strongRecOn with
    | _ m ih =>
      intro q hm hq
      refine Wn.run (tab := tb_m_loadsOn) rfl 6 (c' := (if (M.1 116 2) ≤ (nI q) then 54 else 22, [(4, .int (nI q)), (3, .int (nI (ldN σ c q))), (2, .int (nI (pon σ c))), (0, .ref 114), (1, .int (nI c))], [], M)) (o := [shp 114 = (0, 10), aok shp 116 0 (nI 2)]) rfl ⟨rfl, ⟨rfl, vp_in_nI (by decide) (by decide)⟩⟩ ?_
      refine Wn.br (fun h1 => ?_) (fun h1 => ?_)
      · have h1 := (n_le (rd0 hS (by omega)) rfl (by omega) (by omega)).mp h1
        refine Wn.run (tab := tb_m_loadsOn) rfl 1 (c' := (55, [(4, .int (nI q)), (3, .int (nI (ldN σ c q))), (2, .int (nI (pon σ c))), (0, .ref 114), (1, .int (nI c))], [.int (nI (ldN σ c q))], M)) (o := []) rfl trivial ?_
        have e9 : q = σ 2 := by omega
        rw [e9]
        exact Wn.iret rfl hQ
      · have h1 := fun h9 => h1 ((n_le (rd0 hS (by omega)) rfl (by omega) (by omega)).mpr h9)
        refine Wn.run (tab := tb_m_loadsOn) rfl 3 (c' := (26, [(4, .int (nI q)), (3, .int (nI (ldN σ c q))), (2, .int (nI (pon σ c))), (0, .ref 114), (1, .int (nI c))], [.int (nI q), .int (nI (pon σ c)), .int (nI (ldN σ c q))], M)) (o := []) rfl trivial ?_
        refine Wn.callS (n := 2) (ix := 216) (fun r M' => r = some (.int (b2 (((pon σ c)).testBit q = true))) ∧ M' = M) [.int (nI (pon σ c)), .int (nI q)] [.int (nI (ldN σ c q))] rfl rfl rfl (Nat.le_of_ble_eq_true rfl) (Nat.le_of_ble_eq_true rfl) (w_m_bitN _ (pon σ c) q (by omega) (by omega) M _ ⟨rfl, rfl⟩) ?_
        rintro _ _ ⟨rfl, rfl⟩
        show Wn _ 79 _ (29, [(4, .int (nI q)), (3, .int (nI (ldN σ c q))), (2, .int (nI (pon σ c))), (0, .ref 114), (1, .int (nI c))], [.int (b2 (((pon σ c)).testBit q = true)), .int (nI (ldN σ c q))], M)
        refine Wn.run (tab := tb_m_loadsOn) rfl 1 (c' := (if (b2 (((pon σ c)).testBit q = true)) = 0 then 45 else 32, [(4, .int (nI q)), (3, .int (nI (ldN σ c q))), (2, .int (nI (pon σ c))), (0, .ref 114), (1, .int (nI c))], [.int (nI (ldN σ c q))], M)) (o := []) rfl trivial ?_
        refine Wn.br (fun h2 => ?_) (fun h2 => ?_)
        · have h2 := b2_neg h2
          refine Wn.run (tab := tb_m_loadsOn) rfl 5 (c' := (11, [(4, .int ((nI q) + (nI 1))), (3, .int ((nI (ldN σ c q)) + (nI 0))), (2, .int (nI (pon σ c))), (0, .ref 114), (1, .int (nI c))], [], M)) (o := []) rfl trivial ?_
          rw [show ((nI q) + (nI 1)) = (nI (q + 1)) from (n_add rfl rfl)]
          rw [show ((nI (ldN σ c q)) + (nI 0)) = (nI ((ldN σ c q) + 0)) from (n_add rfl rfl)]
          have on9 : ¬ onC σ c q = true := by have hb := ponN_bit σ c (σ 2) q; have hq2 : q < σ 2 := by omega; simp_all [pon]
          rw [show (nI ((ldN σ c q) + 0)) = (nI (ldN σ c (q + 1))) from (by show _ = nI (ldN σ c q + (if onC σ c q then σ (78 + q) else 0)); rw [if_neg on9])]
          exact ih (σ 2 - (q + 1)) (by omega) (q + 1) rfl (by omega)
        · have h2 := b2_pos h2
          refine Wn.run (tab := tb_m_loadsOn) rfl 11 (c' := (11, [(4, .int ((nI q) + (nI 1))), (3, .int ((nI (ldN σ c q)) + (M.1 116 (((nI 78) + (nI q))).toNatClampNeg))), (2, .int (nI (pon σ c))), (0, .ref 114), (1, .int (nI c))], [], M)) (o := [shp 114 = (0, 10), aok shp 116 0 ((nI 78) + (nI q))]) rfl ⟨rfl, (ak1 (n := 359) rfl rfl (n_add rfl rfl) (by omega))⟩ ?_
          rw [show ((nI q) + (nI 1)) = (nI (q + 1)) from (n_add rfl rfl)]
          have f9 := bq q (by omega)
          rw [show ((nI (ldN σ c q)) + (M.1 116 (((nI 78) + (nI q))).toNatClampNeg)) = (nI ((ldN σ c q) + (σ (78 + q)))) from (n_add rfl (rd1 hS (n_add rfl rfl) (by omega) (by omega)))]
          have on9 : onC σ c q = true := by have hb := ponN_bit σ c (σ 2) q; have hq2 : q < σ 2 := by omega; simp_all [pon]
          rw [show (nI ((ldN σ c q) + (σ (78 + q)))) = (nI (ldN σ c (q + 1))) from (by show _ = nI (ldN σ c q + (if onC σ c q then σ (78 + q) else 0)); rw [if_pos on9])]
          exact ih (σ 2 - (q + 1)) (by omega) (q + 1) rfl (by omega)
  exact loop (σ 2 - 0) 0 rfl (by omega)
