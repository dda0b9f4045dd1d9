theorem nI_m1 {n : Nat} (h : n < 2 ^ 31) : ¬ nI n = (-1 : Int32) := by
  intro e
  have h9 := congrArg Int32.toInt e
  rw [nI_toInt h] at h9
  have : ((-1 : Int32)).toInt = -1 := rfl
  omega
theorem nI_ge0 {n : Nat} (h : n < 2 ^ 31) : 0 ≤ nI n := by
  rw [Int32.le_iff_toInt_le, nI_toInt h]
  have : ((0 : Int32)).toInt = 0 := rfl
  omega
theorem nI_nn {n : Nat} (h : n < 2 ^ 31) : ¬ nI n < 0 := by
  rw [Int32.lt_iff_toInt_lt, nI_toInt h]
  have : ((0 : Int32)).toInt = 0 := rfl
  omega
theorem bes_in {σ : Nat → Nat} (hB : Bd σ) {c s k : Nat} (hc : c < 64) (h : bes σ c s = some k) : inL σ k := by
  have h0 := Bd_0 hB
  have h1 := Bd_1 hB
  unfold bes at h
  unfold inL
  split at h
  · split at h
    · cases h; omega
    · cases h
  · split at h
    · split at h
      · cases h; omega
      · cases h
    · split at h
      · split at h
        · cases h; omega
        · cases h
      · split at h
        · cases h; omega
        · cases h
theorem bes_ne {σ : Nat → Nat} (hB : Bd σ) {c s k : Nat} (hc : c < 64) (h : bes σ c s = some k) : ¬ k = c := by
  have h0 := Bd_0 hB
  have h1 := Bd_1 hB
  unfold bes at h
  split at h
  · split at h
    · cases h; omega
    · cases h
  · split at h
    · split at h
      · cases h; omega
      · cases h
    · split at h
      · split at h
        · cases h; omega
        · cases h
      · split at h
        · cases h; omega
        · cases h
/-- the loads of those who have not fallen; how far a cell is from them -/
def alN (σ : Nat → Nat) : Nat → Nat
  | 0 => 0
  | q + 1 => alN σ q + (if fal σ q = true then 0 else σ (78 + q))
def ffN (σ : Nat → Nat) (c : Nat) : Nat → Nat
  | 0 => 0
  | q + 1 => ffN σ c q + (if fal σ q = true then 0 else far (σ (160 + q)) c)
def alI (σ : Nat → Nat) : Nat → Nat
  | 0 => 0
  | c + 1 => alI σ c + (if inL σ c then σ (96 + c) else 0)
def brN (σ : Nat → Nat) : Nat → Nat
  | 0 => 0
  | c + 1 => brN σ c + (if inL σ c ∧ σ (96 + c) = 0 then 1 else 0)
set_option maxRecDepth 20000 in
theorem w_st_allLoads (d : Nat) (M : Mm) (b : Nat) (σ : Nat → Nat) (hS : StC M b σ) (hB : Bd σ) (Q : Po) (hQ : Q (some (.int (nI (alN σ (σ 2))))) M) : Wn (d + 1) 205 Q (0, lv_args 0 [.ref b], [], M) := by
  have c9_2 := Bd_2 hB
  refine Wn.run (tab := tb_st_allLoads) rfl 4 (c' := (4, [(2, .int (nI 0)), (1, .int (nI 0)), (0, .ref b)], [], M)) (o := []) rfl trivial ?_
  have loop : ∀ (m q : Nat), σ 2 - q = m → q ≤ σ 2 → Wn (d + 1) 205 Q (4, [(2, .int (nI q)), (1, .int (nI (alN σ q))), (0, .ref b)], [], M) := by
    intro m
    induction m using Nat.strongRecOn with
    | _ m ih =>
      intro q hm hq
      refine Wn.run (tab := tb_st_allLoads) rfl 5 (c' := (if (M.1 (lkp b) 2) ≤ (nI q) then 45 else 15, [(2, .int (nI q)), (1, .int (nI (alN σ q))), (0, .ref b)], [], M)) (o := [shp b = (0, 5), shp (lkp b) = (0, 2)]) rfl ⟨hS.1.1, hS.2.1.1⟩ ?_
      refine Wn.br (fun h1 => ?_) (fun h1 => ?_)
      · show Wn _ 205 _ (45, [(2, .int (nI q)), (1, .int (nI (alN σ q))), (0, .ref b)], [], M)
        have c9_2 := Bd_2 hB
        have h1 := (n_le (hS.2.1.2.2.2.1 2 (by decide)) rfl (by omega) (by omega)).mp h1
        refine Wn.run (tab := tb_st_allLoads) rfl 1 (c' := (46, [(2, .int (nI q)), (1, .int (nI (alN σ q))), (0, .ref b)], [.int (nI (alN σ q))], M)) (o := []) rfl trivial ?_
        have e9 : q = σ 2 := by omega
        rw [e9]
        exact Wn.iret rfl hQ
      · show Wn _ 205 _ (15, [(2, .int (nI q)), (1, .int (nI (alN σ q))), (0, .ref b)], [], M)
        have c9_2 := Bd_2 hB
        have h1 := mt (n_le (hS.2.1.2.2.2.1 2 (by decide)) rfl (by omega) (by omega)).mpr h1
        refine Wn.run (tab := tb_st_allLoads) rfl 3 (c' := (18, [(2, .int (nI q)), (1, .int (nI (alN σ q))), (0, .ref b)], [.int (nI q), .ref b, .int (nI (alN σ q))], M)) (o := []) rfl trivial ?_
        refine Wn.callV (p := b) (n := 2) (ix := 70) (ci := (5)) (fun r0 M0 => r0 = some (.int (b2 (fal σ q = true))) ∧ M = M0) [.int (nI q)] [.int (nI (alN σ q))] rfl rfl rfl hS.1.1 (Nat.le_of_ble_eq_true rfl) (Nat.le_of_ble_eq_true rfl) (w_st_isFallen _ M b σ hS hB q (by omega) _ ⟨rfl, rfl⟩) ?_
        rintro _ _ ⟨rfl, rfl⟩
        show Wn _ 205 _ (21, [(2, .int (nI q)), (1, .int (nI (alN σ q))), (0, .ref b)], [.int (b2 (fal σ q = true)), .int (nI (alN σ q))], M)
        refine Wn.run (tab := tb_st_allLoads) rfl 1 (c' := (if (b2 (fal σ q = true)) = 0 then 28 else 24, [(2, .int (nI q)), (1, .int (nI (alN σ q))), (0, .ref b)], [.int (nI (alN σ q))], M)) (o := []) rfl trivial ?_
        refine Wn.br (fun h2 => ?_) (fun h2 => ?_)
        · show Wn _ 205 _ (28, [(2, .int (nI q)), (1, .int (nI (alN σ q))), (0, .ref b)], [.int (nI (alN σ q))], M)
          have h2 := b2_neg h2
          refine Wn.run (tab := tb_st_allLoads) rfl 9 (c' := (4, [(2, .int ((nI q) + (nI 1))), (1, .int ((nI (alN σ q)) + (M.1 ((lkp b) + 2) ((nI q)).toNatClampNeg))), (0, .ref b)], [], M)) (o := [shp b = (0, 5), shp (lkp b) = (0, 2), aok shp ((lkp b) + 2) 0 (nI q)]) rfl ⟨hS.1.1, hS.2.1.1, (ak2 hS.2.1.2.2.1 rfl (by omega))⟩ ?_
          have f9 := Bd_q hB q (by omega)
          rw [show (M.1 ((lkp b) + 2) ((nI q)).toNatClampNeg) = (nI (σ (78 + q))) from (rdq (v := fun z9 => σ (78 + z9)) hS.2.1.2.2.2.2 rfl (by omega) (by omega))]
          have f9 := Bd_q hB q (by omega)
          rw [show ((nI (alN σ q)) + (nI (σ (78 + q)))) = (nI ((alN σ q) + (σ (78 + q)))) from (n_add rfl rfl)]
          rw [show ((nI q) + (nI 1)) = (nI (q + 1)) from (n_add rfl rfl)]
          rw [show (nI ((alN σ q) + (σ (78 + q)))) = (nI (alN σ (q + 1))) from (by show _ = nI (alN σ q + (if fal σ q = true then 0 else σ (78 + q))); rw [if_neg h2])]
          exact ih (σ 2 - (q + 1)) (by omega) (q + 1) rfl (by omega)
        · show Wn _ 205 _ (24, [(2, .int (nI q)), (1, .int (nI (alN σ q))), (0, .ref b)], [.int (nI (alN σ q))], M)
          have h2 := b2_pos h2
          refine Wn.run (tab := tb_st_allLoads) rfl 6 (c' := (4, [(2, .int ((nI q) + (nI 1))), (1, .int ((nI (alN σ q)) + (nI 0))), (0, .ref b)], [], M)) (o := []) rfl trivial ?_
          rw [show ((nI (alN σ q)) + (nI 0)) = (nI ((alN σ q) + 0)) from (n_add rfl rfl)]
          rw [show ((nI q) + (nI 1)) = (nI (q + 1)) from (n_add rfl rfl)]
          rw [show (nI ((alN σ q) + 0)) = (nI (alN σ (q + 1))) from (by show _ = nI (alN σ q + (if fal σ q = true then 0 else σ (78 + q))); rw [if_pos h2])]
          exact ih (σ 2 - (q + 1)) (by omega) (q + 1) rfl (by omega)
  exact loop (σ 2 - 0) 0 rfl (by omega)
set_option maxRecDepth 20000 in
theorem w_st_farFromAll (d : Nat) (M : Mm) (b : Nat) (σ : Nat → Nat) (hS : StC M b σ) (hB : Bd σ) (c : Nat) (hc : c < 64) (Q : Po) (hQ : Q (some (.int (nI (ffN σ c (σ 2))))) M) : Wn (d + 1) 206 Q (0, lv_args 0 [.ref b, .int (nI c)], [], M) := by
  have c9_2 := Bd_2 hB
  refine Wn.run (tab := tb_st_farFromAll) rfl 4 (c' := (4, [(3, .int (nI 0)), (2, .int (nI 0)), (0, .ref b), (1, .int (nI c))], [], M)) (o := []) rfl trivial ?_
  have loop : ∀ (m q : Nat), σ 2 - q = m → q ≤ σ 2 → Wn (d + 1) 206 Q (4, [(3, .int (nI q)), (2, .int (nI (ffN σ c q))), (0, .ref b), (1, .int (nI c))], [], M) := by
    intro m
    induction m using Nat.strongRecOn with
    | _ m ih =>
      intro q hm hq
      refine Wn.run (tab := tb_st_farFromAll) rfl 5 (c' := (if (M.1 (lkp b) 2) ≤ (nI q) then 46 else 15, [(3, .int (nI q)), (2, .int (nI (ffN σ c q))), (0, .ref b), (1, .int (nI c))], [], M)) (o := [shp b = (0, 5), shp (lkp b) = (0, 2)]) rfl ⟨hS.1.1, hS.2.1.1⟩ ?_
      refine Wn.br (fun h1 => ?_) (fun h1 => ?_)
      · show Wn _ 206 _ (46, [(3, .int (nI q)), (2, .int (nI (ffN σ c q))), (0, .ref b), (1, .int (nI c))], [], M)
        have c9_2 := Bd_2 hB
        have h1 := (n_le (hS.2.1.2.2.2.1 2 (by decide)) rfl (by omega) (by omega)).mp h1
        refine Wn.run (tab := tb_st_farFromAll) rfl 1 (c' := (47, [(3, .int (nI q)), (2, .int (nI (ffN σ c q))), (0, .ref b), (1, .int (nI c))], [.int (nI (ffN σ c q))], M)) (o := []) rfl trivial ?_
        have e9 : q = σ 2 := by omega
        rw [e9]
        exact Wn.iret rfl hQ
      · show Wn _ 206 _ (15, [(3, .int (nI q)), (2, .int (nI (ffN σ c q))), (0, .ref b), (1, .int (nI c))], [], M)
        have c9_2 := Bd_2 hB
        have h1 := mt (n_le (hS.2.1.2.2.2.1 2 (by decide)) rfl (by omega) (by omega)).mpr h1
        refine Wn.run (tab := tb_st_farFromAll) rfl 3 (c' := (18, [(3, .int (nI q)), (2, .int (nI (ffN σ c q))), (0, .ref b), (1, .int (nI c))], [.int (nI q), .ref b, .int (nI (ffN σ c q))], M)) (o := []) rfl trivial ?_
        refine Wn.callV (p := b) (n := 2) (ix := 70) (ci := (5)) (fun r0 M0 => r0 = some (.int (b2 (fal σ q = true))) ∧ M = M0) [.int (nI q)] [.int (nI (ffN σ c q))] rfl rfl rfl hS.1.1 (Nat.le_of_ble_eq_true rfl) (Nat.le_of_ble_eq_true rfl) (w_st_isFallen _ M b σ hS hB q (by omega) _ ⟨rfl, rfl⟩) ?_
        rintro _ _ ⟨rfl, rfl⟩
        show Wn _ 206 _ (21, [(3, .int (nI q)), (2, .int (nI (ffN σ c q))), (0, .ref b), (1, .int (nI c))], [.int (b2 (fal σ q = true)), .int (nI (ffN σ c q))], M)
        refine Wn.run (tab := tb_st_farFromAll) rfl 1 (c' := (if (b2 (fal σ q = true)) = 0 then 28 else 24, [(3, .int (nI q)), (2, .int (nI (ffN σ c q))), (0, .ref b), (1, .int (nI c))], [.int (nI (ffN σ c q))], M)) (o := []) rfl trivial ?_
        refine Wn.br (fun h2 => ?_) (fun h2 => ?_)
        · show Wn _ 206 _ (28, [(3, .int (nI q)), (2, .int (nI (ffN σ c q))), (0, .ref b), (1, .int (nI c))], [.int (nI (ffN σ c q))], M)
          have h2 := b2_neg h2
          refine Wn.run (tab := tb_st_farFromAll) rfl 5 (c' := (35, [(3, .int (nI q)), (2, .int (nI (ffN σ c q))), (0, .ref b), (1, .int (nI c))], [.int (nI c), .int (M.1 (b + 2) ((nI q)).toNatClampNeg), .int (nI (ffN σ c q))], M)) (o := [shp b = (0, 5), aok shp (b + 2) 0 (nI q)]) rfl ⟨hS.1.1, (ak2 hS.1.2.2.1 rfl (by omega))⟩ ?_
          have f9 := Bd_q hB q (by omega)
          rw [show (M.1 (b + 2) ((nI q)).toNatClampNeg) = (nI (σ (160 + q))) from (rdq (v := fun z9 => σ (160 + z9)) hS.2.2.2.2.1 rfl (by omega) (by omega))]
          refine Wn.callS (n := 2) (ix := 80) (fun r0 M0 => r0 = some (.int (nI (far (σ (160 + q)) c))) ∧ M = M0) [.int (nI (σ (160 + q))), .int (nI c)] [.int (nI (ffN σ c q))] rfl rfl rfl (Nat.le_of_ble_eq_true rfl) (Nat.le_of_ble_eq_true rfl) (w_lk_far _ (σ (160 + q)) c (by omega) (by omega) M _ ⟨rfl, rfl⟩) ?_
          rintro _ _ ⟨rfl, rfl⟩
          show Wn _ 206 _ (38, [(3, .int (nI q)), (2, .int (nI (ffN σ c q))), (0, .ref b), (1, .int (nI c))], [.int (nI (far (σ (160 + q)) c)), .int (nI (ffN σ c q))], M)
          refine Wn.run (tab := tb_st_farFromAll) rfl 4 (c' := (4, [(3, .int ((nI q) + (nI 1))), (2, .int ((nI (ffN σ c q)) + (nI (far (σ (160 + q)) c)))), (0, .ref b), (1, .int (nI c))], [], M)) (o := []) rfl trivial ?_
          have f9 := Bd_q hB q (by omega)
          have r9 := far_lt (σ (160 + q)) c (by omega) (by omega)
          rw [show ((nI (ffN σ c q)) + (nI (far (σ (160 + q)) c))) = (nI ((ffN σ c q) + (far (σ (160 + q)) c))) from (n_add rfl rfl)]
          rw [show ((nI q) + (nI 1)) = (nI (q + 1)) from (n_add rfl rfl)]
          rw [show (nI ((ffN σ c q) + (far (σ (160 + q)) c))) = (nI (ffN σ c (q + 1))) from (by show _ = nI (ffN σ c q + (if fal σ q = true then 0 else far (σ (160 + q)) c)); rw [if_neg h2])]
          exact ih (σ 2 - (q + 1)) (by omega) (q + 1) rfl (by omega)
        · show Wn _ 206 _ (24, [(3, .int (nI q)), (2, .int (nI (ffN σ c q))), (0, .ref b), (1, .int (nI c))], [.int (nI (ffN σ c q))], M)
          have h2 := b2_pos h2
          refine Wn.run (tab := tb_st_farFromAll) rfl 6 (c' := (4, [(3, .int ((nI q) + (nI 1))), (2, .int ((nI (ffN σ c q)) + (nI 0))), (0, .ref b), (1, .int (nI c))], [], M)) (o := []) rfl trivial ?_
          rw [show ((nI (ffN σ c q)) + (nI 0)) = (nI ((ffN σ c q) + 0)) from (n_add rfl rfl)]
          rw [show ((nI q) + (nI 1)) = (nI (q + 1)) from (n_add rfl rfl)]
          rw [show (nI ((ffN σ c q) + 0)) = (nI (ffN σ c (q + 1))) from (by show _ = nI (ffN σ c q + (if fal σ q = true then 0 else far (σ (160 + q)) c)); rw [if_pos h2])]
          exact ih (σ 2 - (q + 1)) (by omega) (q + 1) rfl (by omega)
  exact loop (σ 2 - 0) 0 rfl (by omega)
set_option maxRecDepth 20000 in
theorem w_st_allIce (d : Nat) (M : Mm) (b : Nat) (σ : Nat → Nat) (hS : StC M b σ) (hB : Bd σ) (Q : Po) (hQ : Q (some (.int (nI (alI σ 64)))) M) : Wn (d + 2) 207 Q (0, lv_args 0 [.ref b], [], M) := by
  refine Wn.run (tab := tb_st_allIce) rfl 4 (c' := (4, [(2, .int (nI 0)), (1, .int (nI 0)), (0, .ref b)], [], M)) (o := []) rfl trivial ?_
  have loop : ∀ (m c : Nat), 64 - c = m → c ≤ 64 → Wn (d + 2) 207 Q (4, [(2, .int (nI c)), (1, .int (nI (alI σ c))), (0, .ref b)], [], M) := by
    intro m
    induction m using Nat.strongRecOn with
    | _ m ih =>
      intro c hm hq
      refine Wn.run (tab := tb_st_allIce) rfl 3 (c' := (if (nI 64) ≤ (nI c) then 40 else 10, [(2, .int (nI c)), (1, .int (nI (alI σ c))), (0, .ref b)], [], M)) (o := []) rfl trivial ?_
      refine Wn.br (fun h1 => ?_) (fun h1 => ?_)
      · show Wn _ 207 _ (40, [(2, .int (nI c)), (1, .int (nI (alI σ c))), (0, .ref b)], [], M)
        have h1 := (n_le rfl rfl (by omega) (by omega)).mp h1
        refine Wn.run (tab := tb_st_allIce) rfl 1 (c' := (41, [(2, .int (nI c)), (1, .int (nI (alI σ c))), (0, .ref b)], [.int (nI (alI σ c))], M)) (o := []) rfl trivial ?_
        have e9 : c = 64 := by omega
        rw [e9]
        exact Wn.iret rfl hQ
      · show Wn _ 207 _ (10, [(2, .int (nI c)), (1, .int (nI (alI σ c))), (0, .ref b)], [], M)
        have h1 := mt (n_le rfl rfl (by omega) (by omega)).mpr h1
        refine Wn.run (tab := tb_st_allIce) rfl 4 (c' := (16, [(2, .int (nI c)), (1, .int (nI (alI σ c))), (0, .ref b)], [.int (nI c), .ref (lkp b), .int (nI (alI σ c))], M)) (o := [shp b = (0, 5)]) rfl hS.1.1 ?_
        refine Wn.callV (p := (lkp b)) (n := 2) (ix := 83) (ci := (2)) (fun r0 M0 => r0 = some (.int (b2 (inL σ c))) ∧ M = M0) [.int (nI c)] [.int (nI (alI σ c))] rfl rfl rfl hS.2.1.1 (Nat.le_of_ble_eq_true rfl) (Nat.le_of_ble_eq_true rfl) (w_lk_hasCell _ M (lkp b) σ hS.2.1 hB c (by omega) _ ⟨rfl, rfl⟩) ?_
        rintro _ _ ⟨rfl, rfl⟩
        show Wn _ 207 _ (19, [(2, .int (nI c)), (1, .int (nI (alI σ c))), (0, .ref b)], [.int (b2 (inL σ c)), .int (nI (alI σ c))], M)
        refine Wn.run (tab := tb_st_allIce) rfl 1 (c' := (if (b2 (inL σ c)) = 0 then 31 else 22, [(2, .int (nI c)), (1, .int (nI (alI σ c))), (0, .ref b)], [.int (nI (alI σ c))], M)) (o := []) rfl trivial ?_
        refine Wn.br (fun h2 => ?_) (fun h2 => ?_)
        · show Wn _ 207 _ (31, [(2, .int (nI c)), (1, .int (nI (alI σ c))), (0, .ref b)], [.int (nI (alI σ c))], M)
          have h2 := b2_neg h2
          refine Wn.run (tab := tb_st_allIce) rfl 5 (c' := (4, [(2, .int ((nI c) + (nI 1))), (1, .int ((nI (alI σ c)) + (nI 0))), (0, .ref b)], [], M)) (o := []) rfl trivial ?_
          rw [show ((nI (alI σ c)) + (nI 0)) = (nI ((alI σ c) + 0)) from (n_add rfl rfl)]
          rw [show ((nI c) + (nI 1)) = (nI (c + 1)) from (n_add rfl rfl)]
          rw [show (nI ((alI σ c) + 0)) = (nI (alI σ (c + 1))) from (by show _ = nI (alI σ c + (if inL σ c then σ (96 + c) else 0)); rw [if_neg h2])]
          exact ih (64 - (c + 1)) (by omega) (c + 1) rfl (by omega)
        · show Wn _ 207 _ (22, [(2, .int (nI c)), (1, .int (nI (alI σ c))), (0, .ref b)], [.int (nI (alI σ c))], M)
          have h2 := b2_pos h2
          refine Wn.run (tab := tb_st_allIce) rfl 9 (c' := (4, [(2, .int ((nI c) + (nI 1))), (1, .int ((nI (alI σ c)) + (M.1 (b + 1) ((nI c)).toNatClampNeg))), (0, .ref b)], [], M)) (o := [shp b = (0, 5), aok shp (b + 1) 0 (nI c)]) rfl ⟨hS.1.1, (ak2 hS.1.2.1 rfl (by omega))⟩ ?_
          have g9 := Bd_c hB c (by omega)
          rw [show (M.1 (b + 1) ((nI c)).toNatClampNeg) = (nI (σ (96 + c))) from (rdc hS.2.2.2.1 rfl (by omega) h2)]
          have g9 := Bd_c hB c (by omega)
          rw [show ((nI (alI σ c)) + (nI (σ (96 + c)))) = (nI ((alI σ c) + (σ (96 + c)))) from (n_add rfl rfl)]
          rw [show ((nI c) + (nI 1)) = (nI (c + 1)) from (n_add rfl rfl)]
          rw [show (nI ((alI σ c) + (σ (96 + c)))) = (nI (alI σ (c + 1))) from (by show _ = nI (alI σ c + (if inL σ c then σ (96 + c) else 0)); rw [if_pos h2])]
          exact ih (64 - (c + 1)) (by omega) (c + 1) rfl (by omega)
  exact loop (64 - 0) 0 rfl (by omega)
set_option maxRecDepth 20000 in
theorem w_st_bareCells (d : Nat) (M : Mm) (b : Nat) (σ : Nat → Nat) (hS : StC M b σ) (hB : Bd σ) (Q : Po) (hQ : Q (some (.int (nI (brN σ 64)))) M) : Wn (d + 2) 208 Q (0, lv_args 0 [.ref b], [], M) := by
  refine Wn.run (tab := tb_st_bareCells) rfl 4 (c' := (4, [(2, .int (nI 0)), (1, .int (nI 0)), (0, .ref b)], [], M)) (o := []) rfl trivial ?_
  have loop : ∀ (m c : Nat), 64 - c = m → c ≤ 64 → Wn (d + 2) 208 Q (4, [(2, .int (nI c)), (1, .int (nI (brN σ c))), (0, .ref b)], [], M) := by
    intro m
    induction m using Nat.strongRecOn with
    | _ m ih =>
      intro c hm hq
      refine Wn.run (tab := tb_st_bareCells) rfl 3 (c' := (if (nI 64) ≤ (nI c) then 44 else 10, [(2, .int (nI c)), (1, .int (nI (brN σ c))), (0, .ref b)], [], M)) (o := []) rfl trivial ?_
      refine Wn.br (fun h1 => ?_) (fun h1 => ?_)
      · show Wn _ 208 _ (44, [(2, .int (nI c)), (1, .int (nI (brN σ c))), (0, .ref b)], [], M)
        have h1 := (n_le rfl rfl (by omega) (by omega)).mp h1
        refine Wn.run (tab := tb_st_bareCells) rfl 1 (c' := (45, [(2, .int (nI c)), (1, .int (nI (brN σ c))), (0, .ref b)], [.int (nI (brN σ c))], M)) (o := []) rfl trivial ?_
        have e9 : c = 64 := by omega
        rw [e9]
        exact Wn.iret rfl hQ
      · show Wn _ 208 _ (10, [(2, .int (nI c)), (1, .int (nI (brN σ c))), (0, .ref b)], [], M)
        have h1 := mt (n_le rfl rfl (by omega) (by omega)).mpr h1
        refine Wn.run (tab := tb_st_bareCells) rfl 4 (c' := (16, [(2, .int (nI c)), (1, .int (nI (brN σ c))), (0, .ref b)], [.int (nI c), .ref (lkp b), .int (nI (brN σ c))], M)) (o := [shp b = (0, 5)]) rfl hS.1.1 ?_
        refine Wn.callV (p := (lkp b)) (n := 2) (ix := 83) (ci := (2)) (fun r0 M0 => r0 = some (.int (b2 (inL σ c))) ∧ M = M0) [.int (nI c)] [.int (nI (brN σ c))] rfl rfl rfl hS.2.1.1 (Nat.le_of_ble_eq_true rfl) (Nat.le_of_ble_eq_true rfl) (w_lk_hasCell _ M (lkp b) σ hS.2.1 hB c (by omega) _ ⟨rfl, rfl⟩) ?_
        rintro _ _ ⟨rfl, rfl⟩
        show Wn _ 208 _ (19, [(2, .int (nI c)), (1, .int (nI (brN σ c))), (0, .ref b)], [.int (b2 (inL σ c)), .int (nI (brN σ c))], M)
        refine Wn.run (tab := tb_st_bareCells) rfl 1 (c' := (if (b2 (inL σ c)) = 0 then 35 else 22, [(2, .int (nI c)), (1, .int (nI (brN σ c))), (0, .ref b)], [.int (nI (brN σ c))], M)) (o := []) rfl trivial ?_
        refine Wn.br (fun h2 => ?_) (fun h2 => ?_)
        · show Wn _ 208 _ (35, [(2, .int (nI c)), (1, .int (nI (brN σ c))), (0, .ref b)], [.int (nI (brN σ c))], M)
          have h2 := b2_neg h2
          refine Wn.run (tab := tb_st_bareCells) rfl 5 (c' := (4, [(2, .int ((nI c) + (nI 1))), (1, .int ((nI (brN σ c)) + (nI 0))), (0, .ref b)], [], M)) (o := []) rfl trivial ?_
          rw [show ((nI (brN σ c)) + (nI 0)) = (nI ((brN σ c) + 0)) from (n_add rfl rfl)]
          rw [show ((nI c) + (nI 1)) = (nI (c + 1)) from (n_add rfl rfl)]
          have on9 : ¬ (inL σ c ∧ σ (96 + c) = 0) := fun h9 => h2 h9.1
          rw [show (nI ((brN σ c) + 0)) = (nI (brN σ (c + 1))) from (by show _ = nI (brN σ c + (if inL σ c ∧ σ (96 + c) = 0 then 1 else 0)); rw [if_neg on9])]
          exact ih (64 - (c + 1)) (by omega) (c + 1) rfl (by omega)
        · show Wn _ 208 _ (22, [(2, .int (nI c)), (1, .int (nI (brN σ c))), (0, .ref b)], [.int (nI (brN σ c))], M)
          have h2 := b2_pos h2
          refine Wn.run (tab := tb_st_bareCells) rfl 5 (c' := (if ¬ (M.1 (b + 1) ((nI c)).toNatClampNeg) = 0 then 35 else 31, [(2, .int (nI c)), (1, .int (nI (brN σ c))), (0, .ref b)], [.int (nI (brN σ c))], M)) (o := [shp b = (0, 5), aok shp (b + 1) 0 (nI c)]) rfl ⟨hS.1.1, (ak2 hS.1.2.1 rfl (by omega))⟩ ?_
          refine Wn.br (fun h3 => ?_) (fun h3 => ?_)
          · show Wn _ 208 _ (35, [(2, .int (nI c)), (1, .int (nI (brN σ c))), (0, .ref b)], [.int (nI (brN σ c))], M)
            have g9 := Bd_c hB c (by omega)
            have h3 := mt (n_eq (rdc hS.2.2.2.1 rfl (by omega) h2) nI_0.symm (by omega) (by omega)).mpr h3
            refine Wn.run (tab := tb_st_bareCells) rfl 5 (c' := (4, [(2, .int ((nI c) + (nI 1))), (1, .int ((nI (brN σ c)) + (nI 0))), (0, .ref b)], [], M)) (o := []) rfl trivial ?_
            rw [show ((nI (brN σ c)) + (nI 0)) = (nI ((brN σ c) + 0)) from (n_add rfl rfl)]
            rw [show ((nI c) + (nI 1)) = (nI (c + 1)) from (n_add rfl rfl)]
            have on9 : ¬ (inL σ c ∧ σ (96 + c) = 0) := fun h9 => h3 h9.2
            rw [show (nI ((brN σ c) + 0)) = (nI (brN σ (c + 1))) from (by show _ = nI (brN σ c + (if inL σ c ∧ σ (96 + c) = 0 then 1 else 0)); rw [if_neg on9])]
            exact ih (64 - (c + 1)) (by omega) (c + 1) rfl (by omega)
          · show Wn _ 208 _ (31, [(2, .int (nI c)), (1, .int (nI (brN σ c))), (0, .ref b)], [.int (nI (brN σ c))], M)
            have g9 := Bd_c hB c (by omega)
            have h3 := (n_eq (rdc hS.2.2.2.1 rfl (by omega) h2) nI_0.symm (by omega) (by omega)).mp (Classical.not_not.mp h3)
            refine Wn.run (tab := tb_st_bareCells) rfl 6 (c' := (4, [(2, .int ((nI c) + (nI 1))), (1, .int ((nI (brN σ c)) + (nI 1))), (0, .ref b)], [], M)) (o := []) rfl trivial ?_
            rw [show ((nI (brN σ c)) + (nI 1)) = (nI ((brN σ c) + 1)) from (n_add rfl rfl)]
            rw [show ((nI c) + (nI 1)) = (nI (c + 1)) from (n_add rfl rfl)]
            have on9 : (inL σ c ∧ σ (96 + c) = 0) := ⟨h2, by omega⟩
            rw [show (nI ((brN σ c) + 1)) = (nI (brN σ (c + 1))) from (by show _ = nI (brN σ c + (if inL σ c ∧ σ (96 + c) = 0 then 1 else 0)); rw [if_pos on9])]
            exact ih (64 - (c + 1)) (by omega) (c + 1) rfl (by omega)
  exact loop (64 - 0) 0 rfl (by omega)
set_option maxRecDepth 20000 in
theorem w_st_whyNotGo (d : Nat) (M : Mm) (b : Nat) (σ : Nat → Nat) (hS : StC M b σ) (hB : Bd σ) (hI : Inl σ) (q s : Nat) (hq : q < σ 2) (hs : s < 4) (Q : Po) (hQ : Q (some (.int (nI (wgo σ q s)))) M) : Wn (d + 3) 212 Q (0, lv_args 0 [.ref b, .int (nI q), .int (nI s)], [], M) := by
  have c9_2 := Bd_2 hB
  have f9 := Bd_q hB q (by omega)
  refine Wn.run (tab := tb_st_whyNotGo) rfl 2 (c' := (2, [(0, .ref b), (1, .int (nI q)), (2, .int (nI s))], [.int (nI q), .ref b], M)) (o := []) rfl trivial ?_
  refine Wn.callV (p := b) (n := 2) (ix := 70) (ci := (5)) (fun r0 M0 => r0 = some (.int (b2 (fal σ q = true))) ∧ M = M0) [.int (nI q)] [] rfl rfl rfl hS.1.1 (Nat.le_of_ble_eq_true rfl) (Nat.le_of_ble_eq_true rfl) (w_st_isFallen _ M b σ hS hB q (by omega) _ ⟨rfl, rfl⟩) ?_
  rintro _ _ ⟨rfl, rfl⟩
  show Wn _ 212 _ (5, [(0, .ref b), (1, .int (nI q)), (2, .int (nI s))], [.int (b2 (fal σ q = true))], M)
  refine Wn.run (tab := tb_st_whyNotGo) rfl 1 (c' := (if (b2 (fal σ q = true)) = 0 then 10 else 8, [(0, .ref b), (1, .int (nI q)), (2, .int (nI s))], [], M)) (o := []) rfl trivial ?_
  refine Wn.br (fun h1 => ?_) (fun h1 => ?_)
  · show Wn _ 212 _ (10, [(0, .ref b), (1, .int (nI q)), (2, .int (nI s))], [], M)
    have h1 := b2_neg h1
    refine Wn.run (tab := tb_st_whyNotGo) rfl 7 (c' := (21, [(0, .ref b), (1, .int (nI q)), (2, .int (nI s))], [.int (nI s), .int (M.1 (b + 2) ((nI q)).toNatClampNeg), .ref (lkp b)], M)) (o := [shp b = (0, 5), shp b = (0, 5), aok shp (b + 2) 0 (nI q)]) rfl ⟨hS.1.1, hS.1.1, (ak2 hS.1.2.2.1 rfl (by omega))⟩ ?_
    have f9 := Bd_q hB q (by omega)
    rw [show (M.1 (b + 2) ((nI q)).toNatClampNeg) = (nI (σ (160 + q))) from (rdq (v := fun z9 => σ (160 + z9)) hS.2.2.2.2.1 rfl (by omega) (by omega))]
    refine Wn.callV (p := (lkp b)) (n := 3) (ix := 98) (ci := (2)) (fun r0 M0 => r0 = some (.int (oI (bes σ (σ (160 + q)) s))) ∧ M = M0) [.int (nI (σ (160 + q))), .int (nI s)] [] rfl rfl rfl hS.2.1.1 (Nat.le_of_ble_eq_true rfl) (Nat.le_of_ble_eq_true rfl) (w_lk_beside _ M (lkp b) σ hS.2.1 hB (σ (160 + q)) s (by omega) (by omega) _ ⟨rfl, rfl⟩) ?_
    rintro _ _ ⟨rfl, rfl⟩
    show Wn _ 212 _ (24, [(0, .ref b), (1, .int (nI q)), (2, .int (nI s))], [.int (oI (bes σ (σ (160 + q)) s))], M)
    cases hb1 : bes σ (σ (160 + q)) s with
    | none =>
      show Wn _ 212 _ (24, [(0, .ref b), (1, .int (nI q)), (2, .int (nI s))], [.int (-1 : Int32)], M)
      refine Wn.run (tab := tb_st_whyNotGo) rfl 4 (c' := (if ¬ (-1 : Int32) = (-1 : Int32) then 32 else 30, [(3, .int (-1 : Int32)), (0, .ref b), (1, .int (nI q)), (2, .int (nI s))], [], M)) (o := []) rfl trivial ?_
      rw [if_neg (show ¬ (¬ (-1 : Int32) = (-1 : Int32)) by decide)]
      show Wn _ 212 _ (30, [(3, .int (-1 : Int32)), (0, .ref b), (1, .int (nI q)), (2, .int (nI s))], [], M)
      refine Wn.run (tab := tb_st_whyNotGo) rfl 1 (c' := (31, [(3, .int (-1 : Int32)), (0, .ref b), (1, .int (nI q)), (2, .int (nI s))], [.int (nI 2)], M)) (o := []) rfl trivial ?_
      have e9 : wgo σ q s = 2 := by unfold wgo; rw [if_neg h1, hb1]
      exact Wn.iret rfl (by rw [e9] at hQ; exact hQ)
    | some k1 =>
      have hk1 := bes_lt hB (by omega) hb1
      have hin_k1 := bes_in hB (by omega) hb1
      have hne_k1 := bes_ne hB (by omega) hb1
      show Wn _ 212 _ (24, [(0, .ref b), (1, .int (nI q)), (2, .int (nI s))], [.int (nI k1)], M)
      refine Wn.run (tab := tb_st_whyNotGo) rfl 4 (c' := (if ¬ (nI k1) = (-1 : Int32) then 32 else 30, [(3, .int (nI k1)), (0, .ref b), (1, .int (nI q)), (2, .int (nI s))], [], M)) (o := []) rfl trivial ?_
      rw [if_pos (nI_m1 (by omega))]
      show Wn _ 212 _ (32, [(3, .int (nI k1)), (0, .ref b), (1, .int (nI q)), (2, .int (nI s))], [], M)
      refine Wn.run (tab := tb_st_whyNotGo) rfl 3 (c' := (35, [(3, .int (nI k1)), (0, .ref b), (1, .int (nI q)), (2, .int (nI s))], [.int (nI k1), .int (nI q), .ref b], M)) (o := []) rfl trivial ?_
      refine Wn.callV (p := b) (n := 3) (ix := 101) (ci := (5)) (fun r0 M0 => r0 = some (.int (nI (ldX σ k1 (nI q) (σ 2) + σ (78 + q)))) ∧ M = M0) [.int (nI q), .int (nI k1)] [] rfl rfl rfl hS.1.1 (Nat.le_of_ble_eq_true rfl) (Nat.le_of_ble_eq_true rfl) (w_st_loadWith _ M b σ hS hB q k1 (by omega) (by omega) _ ⟨rfl, rfl⟩) ?_
      rintro _ _ ⟨rfl, rfl⟩
      show Wn _ 212 _ (38, [(3, .int (nI k1)), (0, .ref b), (1, .int (nI q)), (2, .int (nI s))], [.int (nI (ldX σ k1 (nI q) (σ 2) + σ (78 + q)))], M)
      have r9 := ldX_le30 hB k1 (nI q)
      have f9 := Bd_q hB q (by omega)
      refine Wn.run (tab := tb_st_whyNotGo) rfl 5 (c' := (if (nI (ldX σ k1 (nI q) (σ 2) + σ (78 + q))) ≤ (M.1 (b + 1) ((nI k1)).toNatClampNeg) then 51 else 47, [(3, .int (nI k1)), (0, .ref b), (1, .int (nI q)), (2, .int (nI s))], [], M)) (o := [shp b = (0, 5), aok shp (b + 1) 0 (nI k1)]) rfl ⟨hS.1.1, (ak2 hS.1.2.1 rfl (by omega))⟩ ?_
      refine Wn.br (fun h2 => ?_) (fun h2 => ?_)
      · show Wn _ 212 _ (51, [(3, .int (nI k1)), (0, .ref b), (1, .int (nI q)), (2, .int (nI s))], [], M)
        have c9_2 := Bd_2 hB
        have f9 := Bd_q hB q (by omega)
        have g9 := Bd_c hB k1 (by omega)
        have h2 := (n_le rfl (rdc hS.2.2.2.1 rfl (by omega) hin_k1) (by omega) (by omega)).mp h2
        refine Wn.run (tab := tb_st_whyNotGo) rfl 1 (c' := (52, [(3, .int (nI k1)), (0, .ref b), (1, .int (nI q)), (2, .int (nI s))], [.int (nI 0)], M)) (o := []) rfl trivial ?_
        rw [ldX_off (p := q) (by intro h9; exact hne_k1 (onC_iff.mp h9).1.symm) (by omega) (σ 2) (by omega)] at h2
        have l9 : ldN σ k1 (σ 2) = ld σ k1 := rfl
        have e9 : wgo σ q s = 0 := by unfold wgo; rw [if_neg h1, hb1]; exact if_neg (by omega)
        exact Wn.iret rfl (by rw [e9] at hQ; exact hQ)
      · show Wn _ 212 _ (47, [(3, .int (nI k1)), (0, .ref b), (1, .int (nI q)), (2, .int (nI s))], [], M)
        have c9_2 := Bd_2 hB
        have f9 := Bd_q hB q (by omega)
        have g9 := Bd_c hB k1 (by omega)
        have h2 := mt (n_le rfl (rdc hS.2.2.2.1 rfl (by omega) hin_k1) (by omega) (by omega)).mpr h2
        refine Wn.run (tab := tb_st_whyNotGo) rfl 2 (c' := (52, [(3, .int (nI k1)), (0, .ref b), (1, .int (nI q)), (2, .int (nI s))], [.int (nI 3)], M)) (o := []) rfl trivial ?_
        rw [ldX_off (p := q) (by intro h9; exact hne_k1 (onC_iff.mp h9).1.symm) (by omega) (σ 2) (by omega)] at h2
        have l9 : ldN σ k1 (σ 2) = ld σ k1 := rfl
        have e9 : wgo σ q s = 3 := by unfold wgo; rw [if_neg h1, hb1]; exact if_pos (by omega)
        exact Wn.iret rfl (by rw [e9] at hQ; exact hQ)
  · show Wn _ 212 _ (8, [(0, .ref b), (1, .int (nI q)), (2, .int (nI s))], [], M)
    have h1 := b2_pos h1
    refine Wn.run (tab := tb_st_whyNotGo) rfl 1 (c' := (9, [(0, .ref b), (1, .int (nI q)), (2, .int (nI s))], [.int (nI 1)], M)) (o := []) rfl trivial ?_
    have e9 : wgo σ q s = 1 := by unfold wgo; rw [if_pos h1]
    exact Wn.iret rfl (by rw [e9] at hQ; exact hQ)
set_option maxRecDepth 20000 in
theorem w_st_openSides (d : Nat) (M : Mm) (b : Nat) (σ : Nat → Nat) (hS : StC M b σ) (hB : Bd σ) (hI : Inl σ) (q : Nat) (hq9 : q < σ 2) (Q : Po) (hQ : Q (some (.int (nI (sdN σ q 4)))) M) : Wn (d + 4) 209 Q (0, lv_args 0 [.ref b, .int (nI q)], [], M) := by
  have c9_2 := Bd_2 hB
  have f9 := Bd_q hB q (by omega)
  refine Wn.run (tab := tb_st_openSides) rfl 4 (c' := (4, [(3, .int (nI 0)), (2, .int (nI 0)), (0, .ref b), (1, .int (nI q))], [], M)) (o := []) rfl trivial ?_
  have loop : ∀ (m s : Nat), 4 - s = m → s ≤ 4 → Wn (d + 4) 209 Q (4, [(3, .int (nI s)), (2, .int (nI (sdN σ q s))), (0, .ref b), (1, .int (nI q))], [], M) := by
    intro m
    induction m using Nat.strongRecOn with
    | _ m ih =>
      intro s hm hq
      have hlt := sdN_lt σ q s
      refine Wn.run (tab := tb_st_openSides) rfl 3 (c' := (if (nI 4) ≤ (nI s) then 34 else 9, [(3, .int (nI s)), (2, .int (nI (sdN σ q s))), (0, .ref b), (1, .int (nI q))], [], M)) (o := []) rfl trivial ?_
      refine Wn.br (fun h1 => ?_) (fun h1 => ?_)
      · show Wn _ 209 _ (34, [(3, .int (nI s)), (2, .int (nI (sdN σ q s))), (0, .ref b), (1, .int (nI q))], [], M)
        have h1 := (n_le rfl rfl (by omega) (by omega)).mp h1
        refine Wn.run (tab := tb_st_openSides) rfl 1 (c' := (35, [(3, .int (nI s)), (2, .int (nI (sdN σ q s))), (0, .ref b), (1, .int (nI q))], [.int (nI (sdN σ q s))], M)) (o := []) rfl trivial ?_
        have e9 : s = 4 := by omega
        rw [e9]
        exact Wn.iret rfl hQ
      · show Wn _ 209 _ (9, [(3, .int (nI s)), (2, .int (nI (sdN σ q s))), (0, .ref b), (1, .int (nI q))], [], M)
        have h1 := mt (n_le rfl rfl (by omega) (by omega)).mpr h1
        refine Wn.run (tab := tb_st_openSides) rfl 4 (c' := (13, [(3, .int (nI s)), (2, .int (nI (sdN σ q s))), (0, .ref b), (1, .int (nI q))], [.int (nI s), .int (nI q), .ref b, .int (nI (sdN σ q s))], M)) (o := []) rfl trivial ?_
        refine Wn.callV (p := b) (n := 3) (ix := 86) (ci := (5)) (fun r0 M0 => r0 = some (.int (nI (wgo σ q s))) ∧ M = M0) [.int (nI q), .int (nI s)] [.int (nI (sdN σ q s))] rfl rfl rfl hS.1.1 (Nat.le_of_ble_eq_true rfl) (Nat.le_of_ble_eq_true rfl) (w_st_whyNotGo _ M b σ hS hB hI q s (by omega) (by omega) _ ⟨rfl, rfl⟩) ?_
        rintro _ _ ⟨rfl, rfl⟩
        show Wn _ 209 _ (16, [(3, .int (nI s)), (2, .int (nI (sdN σ q s))), (0, .ref b), (1, .int (nI q))], [.int (nI (wgo σ q s)), .int (nI (sdN σ q s))], M)
        have wl9 := wgo_le σ q s
        refine Wn.run (tab := tb_st_openSides) rfl 1 (c' := (if ¬ (nI (wgo σ q s)) = 0 then 25 else 19, [(3, .int (nI s)), (2, .int (nI (sdN σ q s))), (0, .ref b), (1, .int (nI q))], [.int (nI (sdN σ q s))], M)) (o := []) rfl trivial ?_
        refine Wn.br (fun h2 => ?_) (fun h2 => ?_)
        · show Wn _ 209 _ (25, [(3, .int (nI s)), (2, .int (nI (sdN σ q s))), (0, .ref b), (1, .int (nI q))], [.int (nI (sdN σ q s))], M)
          have h2 := mt (n_eq rfl nI_0.symm (by omega) (by omega)).mpr h2
          refine Wn.run (tab := tb_st_openSides) rfl 5 (c' := (4, [(3, .int ((nI s) + (nI 1))), (2, .int ((nI (sdN σ q s)) ||| (nI 0))), (0, .ref b), (1, .int (nI q))], [], M)) (o := []) rfl trivial ?_
          rw [show ((nI s) + (nI 1)) = (nI (s + 1)) from (n_add rfl rfl)]
          have h64 : sdN σ q s < 64 := Nat.lt_of_lt_of_le hlt (Nat.pow_le_pow_right (by decide) (by omega : s ≤ 6))
          rw [show ((nI (sdN σ q s)) ||| (nI 0)) = (nI (sdN σ q (s + 1))) from (by rw [or_0 _ h64]; show _ = nI (sdN σ q s + (if _ then 2 ^ s else 0)); rw [if_neg h2]; rfl)]
          exact ih (4 - (s + 1)) (by omega) (s + 1) rfl (by omega)
        · show Wn _ 209 _ (19, [(3, .int (nI s)), (2, .int (nI (sdN σ q s))), (0, .ref b), (1, .int (nI q))], [.int (nI (sdN σ q s))], M)
          have h2 := (n_eq rfl nI_0.symm (by omega) (by omega)).mp (Classical.not_not.mp h2)
          refine Wn.run (tab := tb_st_openSides) rfl 8 (c' := (4, [(3, .int ((nI s) + (nI 1))), (2, .int ((nI (sdN σ q s)) ||| ((nI 1) <<< ((nI s) &&& 31)))), (0, .ref b), (1, .int (nI q))], [], M)) (o := []) rfl trivial ?_
          have p9 := pow_lt6 (q := s) (by omega)
          rw [show ((nI 1) <<< ((nI s) &&& 31)) = (nI (2 ^ s)) from (n_shl rfl (by omega))]
          rw [show ((nI s) + (nI 1)) = (nI (s + 1)) from (n_add rfl rfl)]
          have h64 : sdN σ q s < 64 := Nat.lt_of_lt_of_le hlt (Nat.pow_le_pow_right (by decide) (by omega : s ≤ 6))
          rw [show ((nI (sdN σ q s)) ||| (nI (2 ^ s))) = (nI (sdN σ q (s + 1))) from (by rw [or_ok2 s (by omega) _ hlt]; show _ = nI (sdN σ q s + (if _ then 2 ^ s else 0)); rw [if_pos h2])]
          exact ih (4 - (s + 1)) (by omega) (s + 1) rfl (by omega)
  exact loop (4 - 0) 0 rfl (by omega)
theorem dngN_fal {σ : Nat → Nat} {q : Nat} (h : fal σ q = true) : ∀ n, dngN σ q n = 0
  | 0 => rfl
  | n + 1 => by
    unfold dngN
    rw [dngN_fal h n, if_neg (fun h9 => h9.1 h)]
set_option maxRecDepth 20000 in
theorem w_st_dangerOf (d : Nat) (M : Mm) (b : Nat) (σ : Nat → Nat) (hS : StC M b σ) (hB : Bd σ) (hI : Inl σ) (q : Nat) (hq9 : q < σ 2) (Q : Po) (hQ : Q (some (.int (nI (dng σ q)))) M) : Wn (d + 2) 211 Q (0, lv_args 0 [.ref b, .int (nI q)], [], M) := by
  have c9_2 := Bd_2 hB
  have f9 := Bd_q hB q (by omega)
  refine Wn.run (tab := tb_st_dangerOf) rfl 4 (c' := (4, [(3, .int (nI 0)), (2, .int (nI 0)), (0, .ref b), (1, .int (nI q))], [], M)) (o := []) rfl trivial ?_
  have loop : ∀ (m k : Nat), σ 2 - k = m → k ≤ σ 2 → Wn (d + 2) 211 Q (4, [(3, .int (nI k)), (2, .int (nI (dngN σ q k))), (0, .ref b), (1, .int (nI q))], [], M) := by
    intro m
    induction m using Nat.strongRecOn with
    | _ m ih =>
      intro k hm hq
      have hlt := dngN_lt σ q k
      refine Wn.run (tab := tb_st_dangerOf) rfl 5 (c' := (if (M.1 (lkp b) 2) ≤ (nI k) then 68 else 15, [(3, .int (nI k)), (2, .int (nI (dngN σ q k))), (0, .ref b), (1, .int (nI q))], [], M)) (o := [shp b = (0, 5), shp (lkp b) = (0, 2)]) rfl ⟨hS.1.1, hS.2.1.1⟩ ?_
      refine Wn.br (fun h1 => ?_) (fun h1 => ?_)
      · show Wn _ 211 _ (68, [(3, .int (nI k)), (2, .int (nI (dngN σ q k))), (0, .ref b), (1, .int (nI q))], [], M)
        have c9_2 := Bd_2 hB
        have h1 := (n_le (hS.2.1.2.2.2.1 2 (by decide)) rfl (by omega) (by omega)).mp h1
        refine Wn.run (tab := tb_st_dangerOf) rfl 1 (c' := (69, [(3, .int (nI k)), (2, .int (nI (dngN σ q k))), (0, .ref b), (1, .int (nI q))], [.int (nI (dngN σ q k))], M)) (o := []) rfl trivial ?_
        have e9 : k = σ 2 := by omega
        rw [e9]
        exact Wn.iret rfl hQ
      · show Wn _ 211 _ (15, [(3, .int (nI k)), (2, .int (nI (dngN σ q k))), (0, .ref b), (1, .int (nI q))], [], M)
        have c9_2 := Bd_2 hB
        have h1 := mt (n_le (hS.2.1.2.2.2.1 2 (by decide)) rfl (by omega) (by omega)).mpr h1
        refine Wn.run (tab := tb_st_dangerOf) rfl 2 (c' := (17, [(3, .int (nI k)), (2, .int (nI (dngN σ q k))), (0, .ref b), (1, .int (nI q))], [.int (nI q), .ref b], M)) (o := []) rfl trivial ?_
        refine Wn.callV (p := b) (n := 2) (ix := 70) (ci := (5)) (fun r0 M0 => r0 = some (.int (b2 (fal σ q = true))) ∧ M = M0) [.int (nI q)] [] rfl rfl rfl hS.1.1 (Nat.le_of_ble_eq_true rfl) (Nat.le_of_ble_eq_true rfl) (w_st_isFallen _ M b σ hS hB q (by omega) _ ⟨rfl, rfl⟩) ?_
        rintro _ _ ⟨rfl, rfl⟩
        show Wn _ 211 _ (20, [(3, .int (nI k)), (2, .int (nI (dngN σ q k))), (0, .ref b), (1, .int (nI q))], [.int (b2 (fal σ q = true))], M)
        refine Wn.run (tab := tb_st_dangerOf) rfl 1 (c' := (if ¬ (b2 (fal σ q = true)) = 0 then 68 else 23, [(3, .int (nI k)), (2, .int (nI (dngN σ q k))), (0, .ref b), (1, .int (nI q))], [], M)) (o := []) rfl trivial ?_
        refine Wn.br (fun h2 => ?_) (fun h2 => ?_)
        · show Wn _ 211 _ (68, [(3, .int (nI k)), (2, .int (nI (dngN σ q k))), (0, .ref b), (1, .int (nI q))], [], M)
          have h2 := b2_pos h2
          refine Wn.run (tab := tb_st_dangerOf) rfl 1 (c' := (69, [(3, .int (nI k)), (2, .int (nI (dngN σ q k))), (0, .ref b), (1, .int (nI q))], [.int (nI (dngN σ q k))], M)) (o := []) rfl trivial ?_
          exact Wn.iret rfl (by rw [dngN_fal h2]; unfold dng at hQ; rw [dngN_fal h2] at hQ; exact hQ)
        · show Wn _ 211 _ (23, [(3, .int (nI k)), (2, .int (nI (dngN σ q k))), (0, .ref b), (1, .int (nI q))], [], M)
          have h2 := b2_nneg h2
          refine Wn.run (tab := tb_st_dangerOf) rfl 2 (c' := (25, [(3, .int (nI k)), (2, .int (nI (dngN σ q k))), (0, .ref b), (1, .int (nI q))], [.int (nI k), .ref b], M)) (o := []) rfl trivial ?_
          refine Wn.callV (p := b) (n := 2) (ix := 70) (ci := (5)) (fun r0 M0 => r0 = some (.int (b2 (fal σ k = true))) ∧ M = M0) [.int (nI k)] [] rfl rfl rfl hS.1.1 (Nat.le_of_ble_eq_true rfl) (Nat.le_of_ble_eq_true rfl) (w_st_isFallen _ M b σ hS hB k (by omega) _ ⟨rfl, rfl⟩) ?_
          rintro _ _ ⟨rfl, rfl⟩
          show Wn _ 211 _ (28, [(3, .int (nI k)), (2, .int (nI (dngN σ q k))), (0, .ref b), (1, .int (nI q))], [.int (b2 (fal σ k = true))], M)
          refine Wn.run (tab := tb_st_dangerOf) rfl 1 (c' := (if ¬ (b2 (fal σ k = true)) = 0 then 62 else 31, [(3, .int (nI k)), (2, .int (nI (dngN σ q k))), (0, .ref b), (1, .int (nI q))], [], M)) (o := []) rfl trivial ?_
          refine Wn.br (fun h3 => ?_) (fun h3 => ?_)
          · show Wn _ 211 _ (62, [(3, .int (nI k)), (2, .int (nI (dngN σ q k))), (0, .ref b), (1, .int (nI q))], [], M)
            have h3 := b2_pos h3
            refine Wn.run (tab := tb_st_dangerOf) rfl 2 (c' := (4, [(3, .int ((nI k) + (nI 1))), (2, .int (nI (dngN σ q k))), (0, .ref b), (1, .int (nI q))], [], M)) (o := []) rfl trivial ?_
            rw [show ((nI k) + (nI 1)) = (nI (k + 1)) from (n_add rfl rfl)]
            have on9 : ¬ (¬ fal σ q = true ∧ ¬ fal σ k = true ∧ ifs σ q (σ (160 + k)) < ld σ (σ (160 + k))) := by intro h9; exact h9.2.1 h3
            rw [show (nI (dngN σ q k)) = (nI (dngN σ q (k + 1))) from (by show _ = nI (dngN σ q k + (if _ then 2 ^ k else 0)); rw [if_neg on9]; rfl)]
            exact ih (σ 2 - (k + 1)) (by omega) (k + 1) rfl (by omega)
          · show Wn _ 211 _ (31, [(3, .int (nI k)), (2, .int (nI (dngN σ q k))), (0, .ref b), (1, .int (nI q))], [], M)
            have h3 := b2_nneg h3
            refine Wn.run (tab := tb_st_dangerOf) rfl 6 (c' := (39, [(3, .int (nI k)), (2, .int (nI (dngN σ q k))), (0, .ref b), (1, .int (nI q))], [.int (-1 : Int32), .int (M.1 (b + 2) ((nI k)).toNatClampNeg), .ref b], M)) (o := [shp b = (0, 5), aok shp (b + 2) 0 (nI k)]) rfl ⟨hS.1.1, (ak2 hS.1.2.2.1 rfl (by omega))⟩ ?_
            have f9 := Bd_q hB k (by omega)
            rw [show (M.1 (b + 2) ((nI k)).toNatClampNeg) = (nI (σ (160 + k))) from (rdq (v := fun z9 => σ (160 + z9)) hS.2.2.2.2.1 rfl (by omega) (by omega))]
            refine Wn.callV (p := b) (n := 3) (ix := 77) (ci := (5)) (fun r0 M0 => r0 = some (.int (nI (ld σ (σ (160 + k))))) ∧ M = M0) [.int (nI (σ (160 + k))), .int (-1 : Int32)] [] rfl rfl rfl hS.1.1 (Nat.le_of_ble_eq_true rfl) (Nat.le_of_ble_eq_true rfl) (w_st_loadOnN _ M b σ hS hB (σ (160 + k)) (by omega) _ ⟨rfl, rfl⟩) ?_
            rintro _ _ ⟨rfl, rfl⟩
            show Wn _ 211 _ (42, [(3, .int (nI k)), (2, .int (nI (dngN σ q k))), (0, .ref b), (1, .int (nI q))], [.int (nI (ld σ (σ (160 + k))))], M)
            have r9 := ld_le hB (σ (160 + k))
            refine Wn.run (tab := tb_st_dangerOf) rfl 6 (c' := (50, [(3, .int (nI k)), (2, .int (nI (dngN σ q k))), (0, .ref b), (1, .int (nI q))], [.int (M.1 (b + 2) ((nI k)).toNatClampNeg), .int (nI q), .ref b, .int (nI (ld σ (σ (160 + k))))], M)) (o := [shp b = (0, 5), aok shp (b + 2) 0 (nI k)]) rfl ⟨hS.1.1, (ak2 hS.1.2.2.1 rfl (by omega))⟩ ?_
            have f9 := Bd_q hB k (by omega)
            rw [show (M.1 (b + 2) ((nI k)).toNatClampNeg) = (nI (σ (160 + k))) from (rdq (v := fun z9 => σ (160 + z9)) hS.2.2.2.2.1 rfl (by omega) (by omega))]
            refine Wn.callV (p := b) (n := 3) (ix := 95) (ci := (5)) (fun r0 M0 => r0 = some (.int (nI (ifs σ q (σ (160 + k))))) ∧ M = M0) [.int (nI q), .int (nI (σ (160 + k)))] [.int (nI (ld σ (σ (160 + k))))] rfl rfl rfl hS.1.1 (Nat.le_of_ble_eq_true rfl) (Nat.le_of_ble_eq_true rfl) (w_st_iceIfSworn _ M b σ hS hB q (σ (160 + k)) (by omega) (by omega) (hI k (by omega)) _ ⟨rfl, rfl⟩) ?_
            rintro _ _ ⟨rfl, rfl⟩
            show Wn _ 211 _ (53, [(3, .int (nI k)), (2, .int (nI (dngN σ q k))), (0, .ref b), (1, .int (nI q))], [.int (nI (ifs σ q (σ (160 + k)))), .int (nI (ld σ (σ (160 + k))))], M)
            have r9 := ifs_le hB q (σ (160 + k)) (by omega)
            refine Wn.run (tab := tb_st_dangerOf) rfl 1 (c' := (if (nI (ld σ (σ (160 + k)))) ≤ (nI (ifs σ q (σ (160 + k)))) then 62 else 56, [(3, .int (nI k)), (2, .int (nI (dngN σ q k))), (0, .ref b), (1, .int (nI q))], [], M)) (o := []) rfl trivial ?_
            refine Wn.br (fun h4 => ?_) (fun h4 => ?_)
            · show Wn _ 211 _ (62, [(3, .int (nI k)), (2, .int (nI (dngN σ q k))), (0, .ref b), (1, .int (nI q))], [], M)
              have f9 := Bd_q hB k (by omega)
              have r9 := ld_le hB (σ (160 + k))
              have r9 := ifs_le hB q (σ (160 + k)) (by omega)
              have h4 := (n_le rfl rfl (by omega) (by omega)).mp h4
              refine Wn.run (tab := tb_st_dangerOf) rfl 2 (c' := (4, [(3, .int ((nI k) + (nI 1))), (2, .int (nI (dngN σ q k))), (0, .ref b), (1, .int (nI q))], [], M)) (o := []) rfl trivial ?_
              rw [show ((nI k) + (nI 1)) = (nI (k + 1)) from (n_add rfl rfl)]
              have on9 : ¬ (¬ fal σ q = true ∧ ¬ fal σ k = true ∧ ifs σ q (σ (160 + k)) < ld σ (σ (160 + k))) := by intro h9; have h8 := h9.2.2; omega
              rw [show (nI (dngN σ q k)) = (nI (dngN σ q (k + 1))) from (by show _ = nI (dngN σ q k + (if _ then 2 ^ k else 0)); rw [if_neg on9]; rfl)]
              exact ih (σ 2 - (k + 1)) (by omega) (k + 1) rfl (by omega)
            · show Wn _ 211 _ (56, [(3, .int (nI k)), (2, .int (nI (dngN σ q k))), (0, .ref b), (1, .int (nI q))], [], M)
              have f9 := Bd_q hB k (by omega)
              have r9 := ld_le hB (σ (160 + k))
              have r9 := ifs_le hB q (σ (160 + k)) (by omega)
              have h4 := mt (n_le rfl rfl (by omega) (by omega)).mpr h4
              refine Wn.run (tab := tb_st_dangerOf) rfl 8 (c' := (4, [(3, .int ((nI k) + (nI 1))), (2, .int ((nI (dngN σ q k)) ||| ((nI 1) <<< ((nI k) &&& 31)))), (0, .ref b), (1, .int (nI q))], [], M)) (o := []) rfl trivial ?_
              have p9 := pow_lt6 (q := k) (by omega)
              rw [show ((nI 1) <<< ((nI k) &&& 31)) = (nI (2 ^ k)) from (n_shl rfl (by omega))]
              rw [show ((nI k) + (nI 1)) = (nI (k + 1)) from (n_add rfl rfl)]
              have on9 : ¬ fal σ q = true ∧ ¬ fal σ k = true ∧ ifs σ q (σ (160 + k)) < ld σ (σ (160 + k)) := ⟨h2, h3, by omega⟩
              rw [show ((nI (dngN σ q k)) ||| (nI (2 ^ k))) = (nI (dngN σ q (k + 1))) from (by rw [or_ok2 k (by omega) _ hlt]; show _ = nI (dngN σ q k + (if _ then 2 ^ k else 0)); rw [if_pos on9])]
              exact ih (σ 2 - (k + 1)) (by omega) (k + 1) rfl (by omega)
  exact loop (σ 2 - 0) 0 rfl (by omega)
set_option maxRecDepth 20000 in
theorem w_st_whyNotBow (d : Nat) (M : Mm) (b : Nat) (σ : Nat → Nat) (hS : StC M b σ) (hB : Bd σ) (q : Nat) (hq : q < σ 2) (Q : Po) (hQ : Q (some (.int (nI (wbw σ q)))) M) : Wn (d + 1) 214 Q (0, lv_args 0 [.ref b, .int (nI q)], [], M) := by
  have c9_2 := Bd_2 hB
  have f9 := Bd_q hB q (by omega)
  refine Wn.run (tab := tb_st_whyNotBow) rfl 2 (c' := (2, [(0, .ref b), (1, .int (nI q))], [.int (nI q), .ref b], M)) (o := []) rfl trivial ?_
  refine Wn.callV (p := b) (n := 2) (ix := 70) (ci := (5)) (fun r0 M0 => r0 = some (.int (b2 (fal σ q = true))) ∧ M = M0) [.int (nI q)] [] rfl rfl rfl hS.1.1 (Nat.le_of_ble_eq_true rfl) (Nat.le_of_ble_eq_true rfl) (w_st_isFallen _ M b σ hS hB q (by omega) _ ⟨rfl, rfl⟩) ?_
  rintro _ _ ⟨rfl, rfl⟩
  show Wn _ 214 _ (5, [(0, .ref b), (1, .int (nI q))], [.int (b2 (fal σ q = true))], M)
  refine Wn.run (tab := tb_st_whyNotBow) rfl 1 (c' := (if (b2 (fal σ q = true)) = 0 then 10 else 8, [(0, .ref b), (1, .int (nI q))], [], M)) (o := []) rfl trivial ?_
  refine Wn.br (fun h1 => ?_) (fun h1 => ?_)
  · show Wn _ 214 _ (10, [(0, .ref b), (1, .int (nI q))], [], M)
    have h1 := b2_neg h1
    refine Wn.run (tab := tb_st_whyNotBow) rfl 7 (c' := (if (((M.1 b 6) >>> ((nI q) &&& 31)) &&& (nI 1)) = 0 then 25 else 21, [(0, .ref b), (1, .int (nI q))], [], M)) (o := [shp b = (0, 5)]) rfl hS.1.1 ?_
    refine Wn.br (fun h2 => ?_) (fun h2 => ?_)
    · show Wn _ 214 _ (25, [(0, .ref b), (1, .int (nI q))], [], M)
      rw [hS.2.2.1.2.1] at h2
      have h2 := (bit_okc (σ 92) (Bd_92 hB) q (by omega)).mp h2
      refine Wn.run (tab := tb_st_whyNotBow) rfl 1 (c' := (26, [(0, .ref b), (1, .int (nI q))], [.int (nI 0)], M)) (o := []) rfl trivial ?_
      exact Wn.iret rfl (by rw [show wbw σ q = 0 from by unfold wbw; rw [if_neg h1, if_neg h2]] at hQ; exact hQ)
    · show Wn _ 214 _ (21, [(0, .ref b), (1, .int (nI q))], [], M)
      rw [hS.2.2.1.2.1] at h2
      have h2 := Classical.not_not.mp (mt (bit_okc (σ 92) (Bd_92 hB) q (by omega)).mpr h2)
      refine Wn.run (tab := tb_st_whyNotBow) rfl 2 (c' := (26, [(0, .ref b), (1, .int (nI q))], [.int (nI 2)], M)) (o := []) rfl trivial ?_
      exact Wn.iret rfl (by rw [show wbw σ q = 2 from by unfold wbw; rw [if_neg h1, if_pos h2]] at hQ; exact hQ)
  · show Wn _ 214 _ (8, [(0, .ref b), (1, .int (nI q))], [], M)
    have h1 := b2_pos h1
    refine Wn.run (tab := tb_st_whyNotBow) rfl 1 (c' := (9, [(0, .ref b), (1, .int (nI q))], [.int (nI 1)], M)) (o := []) rfl trivial ?_
    exact Wn.iret rfl (by rw [show wbw σ q = 1 from by unfold wbw; rw [if_pos h1]] at hQ; exact hQ)
set_option maxRecDepth 20000 in
theorem w_st_whyNotPraise (d : Nat) (M : Mm) (b : Nat) (σ : Nat → Nat) (hS : StC M b σ) (hB : Bd σ) (q r : Nat) (hq : q < σ 2) (hr : r < σ 2) (Q : Po) (hQ : Q (some (.int (nI (wpr σ q r)))) M) : Wn (d + 1) 216 Q (0, lv_args 0 [.ref b, .int (nI q), .int (nI r)], [], M) := by
  have c9_2 := Bd_2 hB
  have f9 := Bd_q hB q (by omega)
  have g9 := Bd_q hB r (by omega)
  refine Wn.run (tab := tb_st_whyNotPraise) rfl 3 (c' := (if ¬ (nI q) = (nI r) then 7 else 5, [(0, .ref b), (1, .int (nI q)), (2, .int (nI r))], [], M)) (o := []) rfl trivial ?_
  refine Wn.br (fun h1 => ?_) (fun h1 => ?_)
  · show Wn _ 216 _ (7, [(0, .ref b), (1, .int (nI q)), (2, .int (nI r))], [], M)
    have h1 := mt (n_eq rfl rfl (by omega) (by omega)).mpr h1
    refine Wn.run (tab := tb_st_whyNotPraise) rfl 2 (c' := (9, [(0, .ref b), (1, .int (nI q)), (2, .int (nI r))], [.int (nI q), .ref b], M)) (o := []) rfl trivial ?_
    refine Wn.callV (p := b) (n := 2) (ix := 70) (ci := (5)) (fun r0 M0 => r0 = some (.int (b2 (fal σ q = true))) ∧ M = M0) [.int (nI q)] [] rfl rfl rfl hS.1.1 (Nat.le_of_ble_eq_true rfl) (Nat.le_of_ble_eq_true rfl) (w_st_isFallen _ M b σ hS hB q (by omega) _ ⟨rfl, rfl⟩) ?_
    rintro _ _ ⟨rfl, rfl⟩
    show Wn _ 216 _ (12, [(0, .ref b), (1, .int (nI q)), (2, .int (nI r))], [.int (b2 (fal σ q = true))], M)
    refine Wn.run (tab := tb_st_whyNotPraise) rfl 1 (c' := (if ¬ (b2 (fal σ q = true)) = 0 then 23 else 15, [(0, .ref b), (1, .int (nI q)), (2, .int (nI r))], [], M)) (o := []) rfl trivial ?_
    refine Wn.br (fun h2 => ?_) (fun h2 => ?_)
    · show Wn _ 216 _ (23, [(0, .ref b), (1, .int (nI q)), (2, .int (nI r))], [], M)
      have h2 := b2_pos h2
      refine Wn.run (tab := tb_st_whyNotPraise) rfl 1 (c' := (24, [(0, .ref b), (1, .int (nI q)), (2, .int (nI r))], [.int (nI 2)], M)) (o := []) rfl trivial ?_
      exact Wn.iret rfl (by rw [show wpr σ q r = 2 from by unfold wpr; rw [if_neg h1, if_pos (Or.inl h2)]] at hQ; exact hQ)
    · show Wn _ 216 _ (15, [(0, .ref b), (1, .int (nI q)), (2, .int (nI r))], [], M)
      have h2 := b2_nneg h2
      refine Wn.run (tab := tb_st_whyNotPraise) rfl 2 (c' := (17, [(0, .ref b), (1, .int (nI q)), (2, .int (nI r))], [.int (nI r), .ref b], M)) (o := []) rfl trivial ?_
      refine Wn.callV (p := b) (n := 2) (ix := 70) (ci := (5)) (fun r0 M0 => r0 = some (.int (b2 (fal σ r = true))) ∧ M = M0) [.int (nI r)] [] rfl rfl rfl hS.1.1 (Nat.le_of_ble_eq_true rfl) (Nat.le_of_ble_eq_true rfl) (w_st_isFallen _ M b σ hS hB r (by omega) _ ⟨rfl, rfl⟩) ?_
      rintro _ _ ⟨rfl, rfl⟩
      show Wn _ 216 _ (20, [(0, .ref b), (1, .int (nI q)), (2, .int (nI r))], [.int (b2 (fal σ r = true))], M)
      refine Wn.run (tab := tb_st_whyNotPraise) rfl 1 (c' := (if (b2 (fal σ r = true)) = 0 then 25 else 23, [(0, .ref b), (1, .int (nI q)), (2, .int (nI r))], [], M)) (o := []) rfl trivial ?_
      refine Wn.br (fun h3 => ?_) (fun h3 => ?_)
      · show Wn _ 216 _ (25, [(0, .ref b), (1, .int (nI q)), (2, .int (nI r))], [], M)
        have h3 := b2_neg h3
        refine Wn.run (tab := tb_st_whyNotPraise) rfl 8 (c' := (37, [(0, .ref b), (1, .int (nI q)), (2, .int (nI r))], [.int (M.1 (b + 2) ((nI r)).toNatClampNeg), .int (M.1 (b + 2) ((nI q)).toNatClampNeg)], M)) (o := [shp b = (0, 5), aok shp (b + 2) 0 (nI q), shp b = (0, 5), aok shp (b + 2) 0 (nI r)]) rfl ⟨hS.1.1, (ak2 hS.1.2.2.1 rfl (by omega)), hS.1.1, (ak2 hS.1.2.2.1 rfl (by omega))⟩ ?_
        have f9 := Bd_q hB q (by omega)
        rw [show (M.1 (b + 2) ((nI q)).toNatClampNeg) = (nI (σ (160 + q))) from (rdq (v := fun z9 => σ (160 + z9)) hS.2.2.2.2.1 rfl (by omega) (by omega))]
        have f9 := Bd_q hB r (by omega)
        rw [show (M.1 (b + 2) ((nI r)).toNatClampNeg) = (nI (σ (160 + r))) from (rdq (v := fun z9 => σ (160 + z9)) hS.2.2.2.2.1 rfl (by omega) (by omega))]
        refine Wn.callS (n := 2) (ix := 80) (fun r0 M0 => r0 = some (.int (nI (far (σ (160 + q)) (σ (160 + r))))) ∧ M = M0) [.int (nI (σ (160 + q))), .int (nI (σ (160 + r)))] [] rfl rfl rfl (Nat.le_of_ble_eq_true rfl) (Nat.le_of_ble_eq_true rfl) (w_lk_far _ (σ (160 + q)) (σ (160 + r)) (by omega) (by omega) M _ ⟨rfl, rfl⟩) ?_
        rintro _ _ ⟨rfl, rfl⟩
        show Wn _ 216 _ (40, [(0, .ref b), (1, .int (nI q)), (2, .int (nI r))], [.int (nI (far (σ (160 + q)) (σ (160 + r))))], M)
        refine Wn.run (tab := tb_st_whyNotPraise) rfl 2 (c' := (if (nI (far (σ (160 + q)) (σ (160 + r)))) ≤ (nI 1) then 48 else 44, [(0, .ref b), (1, .int (nI q)), (2, .int (nI r))], [], M)) (o := []) rfl trivial ?_
        refine Wn.br (fun h4 => ?_) (fun h4 => ?_)
        · show Wn _ 216 _ (48, [(0, .ref b), (1, .int (nI q)), (2, .int (nI r))], [], M)
          have f9 := Bd_q hB q (by omega)
          have f9 := Bd_q hB r (by omega)
          have r9 := far_lt (σ (160 + q)) (σ (160 + r)) (by omega) (by omega)
          have h4 := (n_le rfl rfl (by omega) (by omega)).mp h4
          refine Wn.run (tab := tb_st_whyNotPraise) rfl 1 (c' := (49, [(0, .ref b), (1, .int (nI q)), (2, .int (nI r))], [.int (nI 0)], M)) (o := []) rfl trivial ?_
          exact Wn.iret rfl (by rw [show wpr σ q r = 0 from by unfold wpr; rw [if_neg h1, if_neg (fun h9 => h9.elim h2 h3), if_neg (by omega)]] at hQ; exact hQ)
        · show Wn _ 216 _ (44, [(0, .ref b), (1, .int (nI q)), (2, .int (nI r))], [], M)
          have f9 := Bd_q hB q (by omega)
          have f9 := Bd_q hB r (by omega)
          have r9 := far_lt (σ (160 + q)) (σ (160 + r)) (by omega) (by omega)
          have h4 := mt (n_le rfl rfl (by omega) (by omega)).mpr h4
          refine Wn.run (tab := tb_st_whyNotPraise) rfl 2 (c' := (49, [(0, .ref b), (1, .int (nI q)), (2, .int (nI r))], [.int (nI 3)], M)) (o := []) rfl trivial ?_
          exact Wn.iret rfl (by rw [show wpr σ q r = 3 from by unfold wpr; rw [if_neg h1, if_neg (fun h9 => h9.elim h2 h3), if_pos (by omega)]] at hQ; exact hQ)
      · show Wn _ 216 _ (23, [(0, .ref b), (1, .int (nI q)), (2, .int (nI r))], [], M)
        have h3 := b2_pos h3
        refine Wn.run (tab := tb_st_whyNotPraise) rfl 1 (c' := (24, [(0, .ref b), (1, .int (nI q)), (2, .int (nI r))], [.int (nI 2)], M)) (o := []) rfl trivial ?_
        exact Wn.iret rfl (by rw [show wpr σ q r = 2 from by unfold wpr; rw [if_neg h1, if_pos (Or.inr h3)]] at hQ; exact hQ)
  · show Wn _ 216 _ (5, [(0, .ref b), (1, .int (nI q)), (2, .int (nI r))], [], M)
    have h1 := (n_eq rfl rfl (by omega) (by omega)).mp (Classical.not_not.mp h1)
    refine Wn.run (tab := tb_st_whyNotPraise) rfl 1 (c' := (6, [(0, .ref b), (1, .int (nI q)), (2, .int (nI r))], [.int (nI 1)], M)) (o := []) rfl trivial ?_
    exact Wn.iret rfl (by rw [show wpr σ q r = 1 from by unfold wpr; rw [if_pos h1]] at hQ; exact hQ)
set_option maxRecDepth 20000 in
theorem w_st_whyNotSwear (d : Nat) (M : Mm) (b : Nat) (σ : Nat → Nat) (hS : StC M b σ) (hB : Bd σ) (q : Nat) (hq : q < σ 2) (Q : Po) (hQ : Q (some (.int (nI (if fal σ q = true then 1 else 0)))) M) : Wn (d + 1) 219 Q (0, lv_args 0 [.ref b, .int (nI q)], [], M) := by
  have c9_2 := Bd_2 hB
  have f9 := Bd_q hB q (by omega)
  refine Wn.run (tab := tb_st_whyNotSwear) rfl 2 (c' := (2, [(0, .ref b), (1, .int (nI q))], [.int (nI q), .ref b], M)) (o := []) rfl trivial ?_
  refine Wn.callV (p := b) (n := 2) (ix := 70) (ci := (5)) (fun r0 M0 => r0 = some (.int (b2 (fal σ q = true))) ∧ M = M0) [.int (nI q)] [] rfl rfl rfl hS.1.1 (Nat.le_of_ble_eq_true rfl) (Nat.le_of_ble_eq_true rfl) (w_st_isFallen _ M b σ hS hB q (by omega) _ ⟨rfl, rfl⟩) ?_
  rintro _ _ ⟨rfl, rfl⟩
  show Wn _ 219 _ (5, [(0, .ref b), (1, .int (nI q))], [.int (b2 (fal σ q = true))], M)
  refine Wn.run (tab := tb_st_whyNotSwear) rfl 1 (c' := (if (b2 (fal σ q = true)) = 0 then 12 else 8, [(0, .ref b), (1, .int (nI q))], [], M)) (o := []) rfl trivial ?_
  refine Wn.br (fun h1 => ?_) (fun h1 => ?_)
  · show Wn _ 219 _ (12, [(0, .ref b), (1, .int (nI q))], [], M)
    have h1 := b2_neg h1
    refine Wn.run (tab := tb_st_whyNotSwear) rfl 1 (c' := (13, [(0, .ref b), (1, .int (nI q))], [.int (nI 0)], M)) (o := []) rfl trivial ?_
    exact Wn.iret rfl (by rw [if_neg h1] at hQ; exact hQ)
  · show Wn _ 219 _ (8, [(0, .ref b), (1, .int (nI q))], [], M)
    have h1 := b2_pos h1
    refine Wn.run (tab := tb_st_whyNotSwear) rfl 2 (c' := (13, [(0, .ref b), (1, .int (nI q))], [.int (nI 1)], M)) (o := []) rfl trivial ?_
    exact Wn.iret rfl (by rw [if_pos h1] at hQ; exact hQ)
set_option maxRecDepth 20000 in
theorem w_st_hoursLeft (d : Nat) (M : Mm) (b : Nat) (σ : Nat → Nat) (hS : StC M b σ) (hB : Bd σ) (Q : Po) (hQ : Q (some (.int (nI (400 - σ 90)))) M) : Wn (d + 0) 201 Q (0, lv_args 0 [.ref b], [], M) := by
  have k90 := Bd_90 hB
  refine Wn.run (tab := tb_st_hoursLeft) rfl 6 (c' := (12, [(0, .ref b)], [.int (if (nI 0) < ((nI 400) - (M.1 b 7)) then ((nI 400) - (M.1 b 7)) else (nI 0))], M)) (o := [shp b = (0, 5), ct [] ≤ 8]) rfl ⟨hS.1.1, (Nat.le_of_ble_eq_true rfl)⟩ ?_
  have c9_90 := Bd_90 hB
  rw [show (M.1 b 7) = (nI (σ 90)) from hS.2.2.1.2.2.1]
  have c9_90 := Bd_90 hB
  rw [show (if (nI 0) < ((nI 400) - (nI (σ 90))) then ((nI 400) - (nI (σ 90))) else (nI 0)) = (nI (400 - (σ 90))) from (n_max0 rfl rfl (by omega) (by omega))]
  exact Wn.iret rfl hQ
set_option maxRecDepth 20000 in
theorem w_st_othersNear (d : Nat) (M : Mm) (b : Nat) (σ : Nat → Nat) (hS : StC M b σ) (hB : Bd σ) (q : Nat) (hq9 : q < σ 2) (Q : Po) (hQ : Q (some (.int (nI (nrN σ q (σ 2))))) M) : Wn (d + 1) 223 Q (0, lv_args 0 [.ref b, .int (nI q)], [], M) := by
  have c9_2 := Bd_2 hB
  have f9 := Bd_q hB q (by omega)
  refine Wn.run (tab := tb_st_othersNear) rfl 4 (c' := (4, [(3, .int (nI 0)), (2, .int (nI 0)), (0, .ref b), (1, .int (nI q))], [], M)) (o := []) rfl trivial ?_
  have loop : ∀ (m r : Nat), σ 2 - r = m → r ≤ σ 2 → Wn (d + 1) 223 Q (4, [(3, .int (nI r)), (2, .int (nI (nrN σ q r))), (0, .ref b), (1, .int (nI q))], [], M) := by
    intro m
    induction m using Nat.strongRecOn with
    | _ m ih =>
      intro r hm hq
      refine Wn.run (tab := tb_st_othersNear) rfl 5 (c' := (if (M.1 (lkp b) 2) ≤ (nI r) then 56 else 15, [(3, .int (nI r)), (2, .int (nI (nrN σ q r))), (0, .ref b), (1, .int (nI q))], [], M)) (o := [shp b = (0, 5), shp (lkp b) = (0, 2)]) rfl ⟨hS.1.1, hS.2.1.1⟩ ?_
      refine Wn.br (fun h1 => ?_) (fun h1 => ?_)
      · show Wn _ 223 _ (56, [(3, .int (nI r)), (2, .int (nI (nrN σ q r))), (0, .ref b), (1, .int (nI q))], [], M)
        have c9_2 := Bd_2 hB
        have h1 := (n_le (hS.2.1.2.2.2.1 2 (by decide)) rfl (by omega) (by omega)).mp h1
        refine Wn.run (tab := tb_st_othersNear) rfl 1 (c' := (57, [(3, .int (nI r)), (2, .int (nI (nrN σ q r))), (0, .ref b), (1, .int (nI q))], [.int (nI (nrN σ q r))], M)) (o := []) rfl trivial ?_
        have e9 : r = σ 2 := by omega
        rw [e9]
        exact Wn.iret rfl hQ
      · show Wn _ 223 _ (15, [(3, .int (nI r)), (2, .int (nI (nrN σ q r))), (0, .ref b), (1, .int (nI q))], [], M)
        have c9_2 := Bd_2 hB
        have h1 := mt (n_le (hS.2.1.2.2.2.1 2 (by decide)) rfl (by omega) (by omega)).mpr h1
        refine Wn.run (tab := tb_st_othersNear) rfl 3 (c' := (if (nI r) = (nI q) then 50 else 20, [(3, .int (nI r)), (2, .int (nI (nrN σ q r))), (0, .ref b), (1, .int (nI q))], [], M)) (o := []) rfl trivial ?_
        refine Wn.br (fun h2 => ?_) (fun h2 => ?_)
        · show Wn _ 223 _ (50, [(3, .int (nI r)), (2, .int (nI (nrN σ q r))), (0, .ref b), (1, .int (nI q))], [], M)
          have h2 := (n_eq rfl rfl (by omega) (by omega)).mp h2
          refine Wn.run (tab := tb_st_othersNear) rfl 2 (c' := (4, [(3, .int ((nI r) + (nI 1))), (2, .int (nI (nrN σ q r))), (0, .ref b), (1, .int (nI q))], [], M)) (o := []) rfl trivial ?_
          rw [show ((nI r) + (nI 1)) = (nI (r + 1)) from (n_add rfl rfl)]
          have on9 : ¬ (¬ r = q ∧ ¬ fal σ r = true ∧ far (σ (160 + q)) (σ (160 + r)) < 2) := by intro h9; exact h9.1 h2
          rw [show (nI (nrN σ q r)) = (nI (nrN σ q (r + 1))) from (by show _ = nI (nrN σ q r + (if _ then 1 else 0)); rw [if_neg on9]; rfl)]
          exact ih (σ 2 - (r + 1)) (by omega) (r + 1) rfl (by omega)
        · show Wn _ 223 _ (20, [(3, .int (nI r)), (2, .int (nI (nrN σ q r))), (0, .ref b), (1, .int (nI q))], [], M)
          have h2 := mt (n_eq rfl rfl (by omega) (by omega)).mpr h2
          refine Wn.run (tab := tb_st_othersNear) rfl 2 (c' := (22, [(3, .int (nI r)), (2, .int (nI (nrN σ q r))), (0, .ref b), (1, .int (nI q))], [.int (nI r), .ref b], M)) (o := []) rfl trivial ?_
          refine Wn.callV (p := b) (n := 2) (ix := 70) (ci := (5)) (fun r0 M0 => r0 = some (.int (b2 (fal σ r = true))) ∧ M = M0) [.int (nI r)] [] rfl rfl rfl hS.1.1 (Nat.le_of_ble_eq_true rfl) (Nat.le_of_ble_eq_true rfl) (w_st_isFallen _ M b σ hS hB r (by omega) _ ⟨rfl, rfl⟩) ?_
          rintro _ _ ⟨rfl, rfl⟩
          show Wn _ 223 _ (25, [(3, .int (nI r)), (2, .int (nI (nrN σ q r))), (0, .ref b), (1, .int (nI q))], [.int (b2 (fal σ r = true))], M)
          refine Wn.run (tab := tb_st_othersNear) rfl 1 (c' := (if ¬ (b2 (fal σ r = true)) = 0 then 50 else 28, [(3, .int (nI r)), (2, .int (nI (nrN σ q r))), (0, .ref b), (1, .int (nI q))], [], M)) (o := []) rfl trivial ?_
          refine Wn.br (fun h3 => ?_) (fun h3 => ?_)
          · show Wn _ 223 _ (50, [(3, .int (nI r)), (2, .int (nI (nrN σ q r))), (0, .ref b), (1, .int (nI q))], [], M)
            have h3 := b2_pos h3
            refine Wn.run (tab := tb_st_othersNear) rfl 2 (c' := (4, [(3, .int ((nI r) + (nI 1))), (2, .int (nI (nrN σ q r))), (0, .ref b), (1, .int (nI q))], [], M)) (o := []) rfl trivial ?_
            rw [show ((nI r) + (nI 1)) = (nI (r + 1)) from (n_add rfl rfl)]
            have on9 : ¬ (¬ r = q ∧ ¬ fal σ r = true ∧ far (σ (160 + q)) (σ (160 + r)) < 2) := by intro h9; exact h9.2.1 h3
            rw [show (nI (nrN σ q r)) = (nI (nrN σ q (r + 1))) from (by show _ = nI (nrN σ q r + (if _ then 1 else 0)); rw [if_neg on9]; rfl)]
            exact ih (σ 2 - (r + 1)) (by omega) (r + 1) rfl (by omega)
          · show Wn _ 223 _ (28, [(3, .int (nI r)), (2, .int (nI (nrN σ q r))), (0, .ref b), (1, .int (nI q))], [], M)
            have h3 := b2_nneg h3
            refine Wn.run (tab := tb_st_othersNear) rfl 8 (c' := (40, [(3, .int (nI r)), (2, .int (nI (nrN σ q r))), (0, .ref b), (1, .int (nI q))], [.int (M.1 (b + 2) ((nI r)).toNatClampNeg), .int (M.1 (b + 2) ((nI q)).toNatClampNeg)], M)) (o := [shp b = (0, 5), aok shp (b + 2) 0 (nI q), shp b = (0, 5), aok shp (b + 2) 0 (nI r)]) rfl ⟨hS.1.1, (ak2 hS.1.2.2.1 rfl (by omega)), hS.1.1, (ak2 hS.1.2.2.1 rfl (by omega))⟩ ?_
            have f9 := Bd_q hB q (by omega)
            rw [show (M.1 (b + 2) ((nI q)).toNatClampNeg) = (nI (σ (160 + q))) from (rdq (v := fun z9 => σ (160 + z9)) hS.2.2.2.2.1 rfl (by omega) (by omega))]
            have f9 := Bd_q hB r (by omega)
            rw [show (M.1 (b + 2) ((nI r)).toNatClampNeg) = (nI (σ (160 + r))) from (rdq (v := fun z9 => σ (160 + z9)) hS.2.2.2.2.1 rfl (by omega) (by omega))]
            refine Wn.callS (n := 2) (ix := 80) (fun r0 M0 => r0 = some (.int (nI (far (σ (160 + q)) (σ (160 + r))))) ∧ M = M0) [.int (nI (σ (160 + q))), .int (nI (σ (160 + r)))] [] rfl rfl rfl (Nat.le_of_ble_eq_true rfl) (Nat.le_of_ble_eq_true rfl) (w_lk_far _ (σ (160 + q)) (σ (160 + r)) (by omega) (by omega) M _ ⟨rfl, rfl⟩) ?_
            rintro _ _ ⟨rfl, rfl⟩
            show Wn _ 223 _ (43, [(3, .int (nI r)), (2, .int (nI (nrN σ q r))), (0, .ref b), (1, .int (nI q))], [.int (nI (far (σ (160 + q)) (σ (160 + r))))], M)
            refine Wn.run (tab := tb_st_othersNear) rfl 2 (c' := (if (nI 1) < (nI (far (σ (160 + q)) (σ (160 + r)))) then 50 else 47, [(3, .int (nI r)), (2, .int (nI (nrN σ q r))), (0, .ref b), (1, .int (nI q))], [], M)) (o := []) rfl trivial ?_
            refine Wn.br (fun h4 => ?_) (fun h4 => ?_)
            · show Wn _ 223 _ (50, [(3, .int (nI r)), (2, .int (nI (nrN σ q r))), (0, .ref b), (1, .int (nI q))], [], M)
              have f9 := Bd_q hB q (by omega)
              have f9 := Bd_q hB r (by omega)
              have r9 := far_lt (σ (160 + q)) (σ (160 + r)) (by omega) (by omega)
              have h4 := (n_lt rfl rfl (by omega) (by omega)).mp h4
              refine Wn.run (tab := tb_st_othersNear) rfl 2 (c' := (4, [(3, .int ((nI r) + (nI 1))), (2, .int (nI (nrN σ q r))), (0, .ref b), (1, .int (nI q))], [], M)) (o := []) rfl trivial ?_
              rw [show ((nI r) + (nI 1)) = (nI (r + 1)) from (n_add rfl rfl)]
              have on9 : ¬ (¬ r = q ∧ ¬ fal σ r = true ∧ far (σ (160 + q)) (σ (160 + r)) < 2) := by intro h9; have h8 := h9.2.2; omega
              rw [show (nI (nrN σ q r)) = (nI (nrN σ q (r + 1))) from (by show _ = nI (nrN σ q r + (if _ then 1 else 0)); rw [if_neg on9]; rfl)]
              exact ih (σ 2 - (r + 1)) (by omega) (r + 1) rfl (by omega)
            · show Wn _ 223 _ (47, [(3, .int (nI r)), (2, .int (nI (nrN σ q r))), (0, .ref b), (1, .int (nI q))], [], M)
              have f9 := Bd_q hB q (by omega)
              have f9 := Bd_q hB r (by omega)
              have r9 := far_lt (σ (160 + q)) (σ (160 + r)) (by omega) (by omega)
              have h4 := mt (n_lt rfl rfl (by omega) (by omega)).mpr h4
              refine Wn.run (tab := tb_st_othersNear) rfl 3 (c' := (4, [(3, .int ((nI r) + (nI 1))), (2, .int ((nI (nrN σ q r)) + (nI 1))), (0, .ref b), (1, .int (nI q))], [], M)) (o := []) rfl trivial ?_
              rw [show ((nI (nrN σ q r)) + (nI 1)) = (nI ((nrN σ q r) + 1)) from (n_add rfl rfl)]
              rw [show ((nI r) + (nI 1)) = (nI (r + 1)) from (n_add rfl rfl)]
              have on9 : ¬ r = q ∧ ¬ fal σ r = true ∧ far (σ (160 + q)) (σ (160 + r)) < 2 := ⟨h2, h3, by omega⟩
              rw [show (nI ((nrN σ q r) + 1)) = (nI (nrN σ q (r + 1))) from (by show _ = nI (nrN σ q r + (if _ then 1 else 0)); rw [if_pos on9])]
              exact ih (σ 2 - (r + 1)) (by omega) (r + 1) rfl (by omega)
  exact loop (σ 2 - 0) 0 rfl (by omega)
