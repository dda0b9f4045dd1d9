theorem fill_up {M M' : Mm} {p ix z : Nat} {v : Int32} (hM : mI M p (upd (M.1 p) ix v) = M') (h : ∀ k, k < z → M.1 p k = v) (hi : ix = z) : ∀ k, k < z + 1 → M'.1 p k = v := by
  intro k hk
  rw [mI_eq hM]
  unfold upd
  by_cases e : k = ix
  · rw [if_pos e]
  · rw [if_neg e]; exact h k (by omega)
theorem gr_ne {M M' : Mm} {p q : Nat} {f : Nat → Int32} {C : Nat → Prop} {g : Nat → Int32} (hM : mI M p f = M') (hn : ¬ p = q) (h : ∀ k, C k → M.1 q k = g k) : ∀ k, C k → M'.1 q k = g k := by
  rw [mI_ne hM (fun e => hn e.symm)]; exact h
def PF (p n : Nat) (v : Int32) (M0 : Mm) : Po := fun r0 M' => r0 = none ∧ (∀ k, k < n → M'.1 p k = v) ∧ Fr [p] M0 M'
set_option maxRecDepth 20000 in
theorem c_ja_fill (d : Nat) (M : Mm) (p n : Nat) (v : Int32) (hsh : shp p = (1, n)) (hn : n < 2 ^ 30) : Wn (d + 0) 244 (PF p n v M) (0, lv_args 0 [.ref p, .int v], [], M) := by
  have hF := fr_rf [p] M
  refine Wn.run (tab := tb_ja_fill) rfl 5 (c' := (5, [(3, .int (nI (shp p).2)), (2, .int (nI 0)), (0, .ref p), (1, .int v)], [], M)) (o := [(shp p).1 = 1]) rfl (by show (shp p).1 = 1; rw [hsh]) ?_
  rw [show (shp p).2 = n by rw [hsh]]
  have loop : ∀ (m z : Nat) (N : Mm), n - z = m → z ≤ n → (∀ k, k < z → N.1 p k = v) → Fr [p] M N → Wn (d + 0) 244 (PF p n v M) (5, [(3, .int (nI n)), (2, .int (nI z)), (0, .ref p), (1, .int v)], [], N) := by
    intro m
    induction m using Nat.strongRecOn with
    | _ m ih =>
      intro z N hm hz loop_0 loop_1
      refine Wn.run (tab := tb_ja_fill) rfl 3 (c' := (if (nI n) ≤ (nI z) then 20 else 10, [(3, .int (nI n)), (2, .int (nI z)), (0, .ref p), (1, .int v)], [], N)) (o := []) rfl trivial ?_
      refine Wn.br (fun h1 => ?_) (fun h1 => ?_)
      · show Wn _ 244 _ (20, [(3, .int (nI n)), (2, .int (nI z)), (0, .ref p), (1, .int v)], [], N)
        have h1 := (n_le rfl rfl (by omega) (by omega)).mp h1
        have e9 : z = n := by omega
        rw [e9] at loop_0
        exact Wn.vret rfl ⟨rfl, loop_0, loop_1⟩
      · show Wn _ 244 _ (10, [(3, .int (nI n)), (2, .int (nI z)), (0, .ref p), (1, .int v)], [], N)
        have h1 := mt (n_le rfl rfl (by omega) (by omega)).mpr h1
        refine Wn.run (tab := tb_ja_fill) rfl 4 (c' := (14, [(3, .int (nI n)), (2, .int (nI z)), (0, .ref p), (1, .int v)], [], (mI N p (upd (N.1 p) ((nI z)).toNatClampNeg v)))) (o := [aok shp p 0 (nI z)]) rfl (ak2 hsh rfl (by omega)) ?_
        generalize hM2 : (mI N p (upd (N.1 p) ((nI z)).toNatClampNeg v)) = M1
        have hF3 := fr_sI loop_1 hM2 (by simp)
        have hl4 := fill_up hM2 loop_0 (cl1 rfl (by omega))
        show Wn _ 244 _ (14, [(3, .int (nI n)), (2, .int (nI z)), (0, .ref p), (1, .int v)], [], M1)
        refine Wn.run (tab := tb_ja_fill) rfl 2 (c' := (5, [(2, .int ((nI z) + (nI 1))), (3, .int (nI n)), (0, .ref p), (1, .int v)], [], M1)) (o := []) rfl trivial ?_
        rw [show ((nI z) + (nI 1)) = (nI (z + 1)) from (n_add rfl rfl)]
        refine Wn.lvp [1, 0, 2, 3] (lv' := [(3, .int (nI n)), (2, .int (nI (z + 1))), (0, .ref p), (1, .int v)]) rfl ?_
        exact ih (n - (z + 1)) (by omega) (z + 1) M1 rfl (by omega) hl4 hF3
  exact loop (n - 0) 0 M rfl (by omega) (fun k hk => absurd hk (Nat.not_lt_zero k)) hF
theorem st_prz {M M' : Mm} {b : Nat} {σ : Nat → Nat} (h : StC M b σ) (hp : ∀ k, k < 6 → M'.1 (b + 4) k = nI 0) (hF : Fr [b + 4] M M') : StC M' b (przN σ 6) := by
  have lb := h.1.2.2.2.2.2.2.2.2
  have n : ∀ q, ¬ q = b + 4 → M'.1 q = M.1 q := fun q hq => (hF q (by simp [hq])).1
  have h26 := h.2.2.1.2.2.2.2.2.2
  have e2 : przN σ 6 2 = σ 2 := prz_hi (by omega)
  obtain ⟨g0, ⟨a1, a2, a3, a4, a5⟩, ⟨f5, f6, f7, f8, f9, f10, _⟩, gi, ga, gt, gp⟩ := h
  refine ⟨g0, ⟨a1, a2, a3, fun k hk => by rw [n _ (by omega), prz_hi (by omega)]; exact a4 k hk, fun q hq => by rw [e2] at hq; rw [n _ (by omega), prz_hi (by omega)]; exact a5 q hq⟩, ⟨by rw [n _ (by omega), prz_hi (by omega)]; exact f5, by rw [n _ (by omega), prz_hi (by omega)]; exact f6, by rw [n _ (by omega), prz_hi (by omega)]; exact f7, by rw [n _ (by omega), prz_hi (by omega)]; exact f8, by rw [n _ (by omega), prz_hi (by omega)]; exact f9, by rw [n _ (by omega), prz_hi (by omega)]; exact f10, by rw [e2]; exact h26⟩, fun c hc hin => ?_, fun q hq => ?_, fun q hq => ?_, fun q hq => ?_⟩
  · have hin : inL σ c := (inL_cg (prz_hi (by omega)) (prz_hi (by omega))).mp hin
    rw [n _ (by omega), prz_hi (by omega)]; exact gi c hc hin
  · rw [e2] at hq; rw [n _ (by omega), prz_hi (by omega)]; exact ga q hq
  · rw [e2] at hq; rw [n _ (by omega), prz_hi (by omega)]; exact gt q hq
  · rw [e2] at hq; rw [hp q (by omega), prz_at (by omega)]
theorem frz_s {σ : Nat → Nat} {n : Nat} (h : inL σ n) : su (frzN σ n) (96 + n) (if 9 < frzN σ n (96 + n) + 1 then 9 else frzN σ n (96 + n) + 1) = frzN σ (n + 1) := by
  show _ = (if n % 8 < σ 0 ∧ n / 8 < σ 1 then _ else _)
  rw [if_pos (show n % 8 < σ 0 ∧ n / 8 < σ 1 from h)]
theorem frz_n {σ : Nat → Nat} {n : Nat} (h : ¬ inL σ n) : frzN σ (n + 1) = frzN σ n := by
  show (if n % 8 < σ 0 ∧ n / 8 < σ 1 then _ else _) = _
  rw [if_neg (show ¬ (n % 8 < σ 0 ∧ n / 8 < σ 1) from h)]
set_option maxRecDepth 20000 in
theorem c_st_freeze (d : Nat) (M : Mm) (b : Nat) (σ : Nat → Nat) (hS : StC M b σ) (hB : Bd σ) (w x : Int32) (hw : M.1 b 11 = w) (hx : M.1 b 12 = x)  : Wn (d + 0) 224 (PS b M (frzN σ 64) w x none) (0, lv_args 0 [.ref b], [], M) := by
  have hF := fr_rf [b, (b + 1), (b + 2), (b + 3), (b + 4)] M
  have c9_2 := Bd_2 hB
  refine Wn.run (tab := tb_st_freeze) rfl 2 (c' := (2, [(1, .int (nI 0)), (0, .ref b)], [], M)) (o := []) rfl trivial ?_
  have loop : ∀ (m z : Nat) (N : Mm), 64 - z = m → z ≤ 64 → StC N b (frzN σ z) → N.1 b 11 = w → N.1 b 12 = x → Fr [b, (b + 1), (b + 2), (b + 3), (b + 4)] M N → Wn (d + 0) 224 (PS b M (frzN σ 64) w x none) (2, [(1, .int (nI z)), (0, .ref b)], [], N) := by
    intro m
    induction m using Nat.strongRecOn with
    | _ m ih =>
      intro z N hm hz loop_0 loop_1 loop_2 loop_3
      have hBz := Bd_frz hB z (by omega)
      have gz : z < 64 → frzN σ z (96 + z) ≤ 9 := fun h => Bd_c hBz z h
      by_cases hin9 : inL σ z
      · have e8 := rfl (a := 0)
        refine Wn.run (tab := tb_st_freeze) rfl 3 (c' := (if (nI 64) ≤ (nI z) then 33 else 8, [(1, .int (nI z)), (0, .ref b)], [], N)) (o := []) rfl trivial ?_
        refine Wn.br (fun h1 => ?_) (fun h1 => ?_)
        · show Wn _ 224 _ (33, [(1, .int (nI z)), (0, .ref b)], [], N)
          have h1 := (n_le rfl rfl (by omega) (by omega)).mp h1
          have e9 : z = 64 := by omega
          rw [e9] at loop_0
          exact Wn.vret rfl ⟨rfl, loop_0, loop_1, loop_2, loop_3⟩
        · show Wn _ 224 _ (8, [(1, .int (nI z)), (0, .ref b)], [], N)
          have h1 := mt (n_le rfl rfl (by omega) (by omega)).mpr h1
          refine Wn.run (tab := tb_st_freeze) rfl 12 (c' := (27, [(1, .int (nI z)), (0, .ref b)], [], (mI N (b + 1) (upd (N.1 (b + 1)) ((nI z)).toNatClampNeg (if ((N.1 (b + 1) ((nI z)).toNatClampNeg) + (nI 1)) < (nI 9) then ((N.1 (b + 1) ((nI z)).toNatClampNeg) + (nI 1)) else (nI 9)))))) (o := [shp b = (0, 5), shp b = (0, 5), aok shp (b + 1) 0 (nI z), ct [.int (nI z), .ref (b + 1)] ≤ 8, aok shp (b + 1) 0 (nI z)]) rfl ⟨loop_0.1.1, loop_0.1.1, (ak2 loop_0.1.2.1 rfl (by omega)), (Nat.le_of_ble_eq_true rfl), (ak2 loop_0.1.2.1 rfl (by omega))⟩ ?_
          rw [show (N.1 (b + 1) ((nI z)).toNatClampNeg) = (nI ((frzN σ z) (96 + z))) from (rdc loop_0.2.2.2.1 rfl (by omega) ((inL_cg (frz_lo (by omega) z (by omega)) (frz_lo (by omega) z (by omega))).mpr hin9))]
          have i9 : (if 9 < (((frzN σ z) (96 + z)) + 1) then 9 else (((frzN σ z) (96 + z)) + 1)) ≤ 9 := by split <;> omega
          rw [show (if ((nI ((frzN σ z) (96 + z))) + (nI 1)) < (nI 9) then ((nI ((frzN σ z) (96 + z))) + (nI 1)) else (nI 9)) = (nI (if 9 < (((frzN σ z) (96 + z)) + 1) then 9 else (((frzN σ z) (96 + z)) + 1))) from (n_minI (n_add rfl rfl) rfl (by omega) (by omega))]
          generalize hM2 : (mI N (b + 1) (upd (N.1 (b + 1)) ((nI z)).toNatClampNeg (nI (if 9 < (((frzN σ z) (96 + z)) + 1) then 9 else (((frzN σ z) (96 + z)) + 1))))) = M1
          have i9 : (if 9 < (((frzN σ z) (96 + z)) + 1) then 9 else (((frzN σ z) (96 + z)) + 1)) ≤ 9 := by split <;> omega
          have hs3 : StC M1 b (su (frzN σ z) (96 + z) (if 9 < (((frzN σ z) (96 + z)) + 1) then 9 else (((frzN σ z) (96 + z)) + 1))) := st_ice hM2 loop_0 (cl1 rfl (by omega)) (by omega) rfl
          have hc4 := cl_ne hM2 (by omega) loop_1
          have hc5 := cl_ne hM2 (by omega) loop_2
          have hF6 := fr_sI loop_3 hM2 (by simp)
          show Wn _ 224 _ (27, [(1, .int (nI z)), (0, .ref b)], [], M1)
          refine Wn.run (tab := tb_st_freeze) rfl 2 (c' := (2, [(1, .int ((nI z) + (nI 1))), (0, .ref b)], [], M1)) (o := []) rfl trivial ?_
          rw [show ((nI z) + (nI 1)) = (nI (z + 1)) from (n_add rfl rfl)]
          exact ih (64 - (z + 1)) (by omega) (z + 1) M1 rfl (by omega) (frz_s hin9 ▸ hs3) hc4 hc5 hF6
      · have e8 := rfl (a := 0)
        refine Wn.run (tab := tb_st_freeze) rfl 3 (c' := (if (nI 64) ≤ (nI z) then 33 else 8, [(1, .int (nI z)), (0, .ref b)], [], N)) (o := []) rfl trivial ?_
        refine Wn.br (fun h2 => ?_) (fun h2 => ?_)
        · show Wn _ 224 _ (33, [(1, .int (nI z)), (0, .ref b)], [], N)
          have h2 := (n_le rfl rfl (by omega) (by omega)).mp h2
          have e9 : z = 64 := by omega
          rw [e9] at loop_0
          exact Wn.vret rfl ⟨rfl, loop_0, loop_1, loop_2, loop_3⟩
        · show Wn _ 224 _ (8, [(1, .int (nI z)), (0, .ref b)], [], N)
          have h2 := mt (n_le rfl rfl (by omega) (by omega)).mpr h2
          refine Wn.run (tab := tb_st_freeze) rfl 12 (c' := (27, [(1, .int (nI z)), (0, .ref b)], [], (mI N (b + 1) (upd (N.1 (b + 1)) ((nI z)).toNatClampNeg (if ((N.1 (b + 1) ((nI z)).toNatClampNeg) + (nI 1)) < (nI 9) then ((N.1 (b + 1) ((nI z)).toNatClampNeg) + (nI 1)) else (nI 9)))))) (o := [shp b = (0, 5), shp b = (0, 5), aok shp (b + 1) 0 (nI z), ct [.int (nI z), .ref (b + 1)] ≤ 8, aok shp (b + 1) 0 (nI z)]) rfl ⟨loop_0.1.1, loop_0.1.1, (ak2 loop_0.1.2.1 rfl (by omega)), (Nat.le_of_ble_eq_true rfl), (ak2 loop_0.1.2.1 rfl (by omega))⟩ ?_
          generalize hM8 : (mI N (b + 1) (upd (N.1 (b + 1)) ((nI z)).toNatClampNeg (if ((N.1 (b + 1) ((nI z)).toNatClampNeg) + (nI 1)) < (nI 9) then ((N.1 (b + 1) ((nI z)).toNatClampNeg) + (nI 1)) else (nI 9)))) = M7
          have hs9 := st_iceX hM8 loop_0 (cl1 rfl (by omega)) (fun h9 => hin9 ((inL_cg (frz_lo (by omega) z (by omega)) (frz_lo (by omega) z (by omega))).mp h9))
          have hc10 := cl_ne hM8 (by omega) loop_1
          have hc11 := cl_ne hM8 (by omega) loop_2
          have hF12 := fr_sI loop_3 hM8 (by simp)
          show Wn _ 224 _ (27, [(1, .int (nI z)), (0, .ref b)], [], M7)
          refine Wn.run (tab := tb_st_freeze) rfl 2 (c' := (2, [(1, .int ((nI z) + (nI 1))), (0, .ref b)], [], M7)) (o := []) rfl trivial ?_
          rw [show ((nI z) + (nI 1)) = (nI (z + 1)) from (n_add rfl rfl)]
          exact ih (64 - (z + 1)) (by omega) (z + 1) M7 rfl (by omega) (by rw [frz_n hin9]; exact hs9) hc10 hc11 hF12
  exact loop (64 - 0) 0 M rfl (by omega) hS hw hx hF
theorem w_st_iceIfSwornX (d : Nat) (M : Mm) (b : Nat) (σ : Nat → Nat) (hS : StC M b σ) (hB : Bd σ) (q c : Nat) (hq : q < σ 2) (hc : c < 64) (Q : Po) (hQ : ∀ v, Q (some (.int v)) M) : Wn (d + 1) 210 Q (0, lv_args 0 [.ref b, .int (nI q), .int (nI c)], [], M) := by
  have c9_2 := Bd_2 hB
  have k4 := Bd_4 hB
  have f9 := Bd_q hB q (by omega)
  refine Wn.run (tab := tb_st_iceIfSworn) rfl 5 (c' := (7, [(0, .ref b), (1, .int (nI q)), (2, .int (nI c))], [.int (nI c), .int (M.1 (b + 2) ((nI q)).toNatClampNeg)], M)) (o := [shp b = (0, 5), aok shp (b + 2) 0 (nI q)]) rfl ⟨hS.1.1, (ak2 hS.1.2.2.1 rfl (by omega))⟩ ?_
  have f9 := Bd_q hB q (by omega)
  rw [show (M.1 (b + 2) ((nI q)).toNatClampNeg) = (nI (σ (160 + q))) from (rdq (v := fun z9 => σ (160 + z9)) hS.2.2.2.2.1 rfl (by omega) (by omega))]
  refine Wn.callS (n := 2) (ix := 80) (fun r0 M0 => r0 = some (.int (nI (far (σ (160 + q)) c))) ∧ M = M0) [.int (nI (σ (160 + q))), .int (nI c)] [] rfl rfl rfl (Nat.le_of_ble_eq_true rfl) (Nat.le_of_ble_eq_true rfl) (w_lk_far _ (σ (160 + q)) c (by omega) (by omega) M _ ⟨rfl, rfl⟩) ?_
  rintro _ _ ⟨rfl, rfl⟩
  show Wn _ 210 _ (10, [(0, .ref b), (1, .int (nI q)), (2, .int (nI c))], [.int (nI (far (σ (160 + q)) c))], M)
  refine Wn.run (tab := tb_st_iceIfSworn) rfl 4 (c' := (if (M.1 (lkp b) 4) < (nI (far (σ (160 + q)) c)) then 41 else 20, [(0, .ref b), (1, .int (nI q)), (2, .int (nI c))], [], M)) (o := [shp b = (0, 5), shp (lkp b) = (0, 2)]) rfl ⟨hS.1.1, hS.2.1.1⟩ ?_
  refine Wn.br (fun h1 => ?_) (fun h1 => ?_)
  · show Wn _ 210 _ (41, [(0, .ref b), (1, .int (nI q)), (2, .int (nI c))], [], M)
    have c9_4 := Bd_4 hB
    have f9 := Bd_q hB q (by omega)
    have r9 := far_lt (σ (160 + q)) c (by omega) (by omega)
    have h1 := (n_lt (hS.2.1.2.2.2.1 4 (by decide)) rfl (by omega) (by omega)).mp h1
    refine Wn.run (tab := tb_st_iceIfSworn) rfl 4 (c' := (47, [(0, .ref b), (1, .int (nI q)), (2, .int (nI c))], [.int (M.1 (b + 1) ((nI c)).toNatClampNeg)], M)) (o := [shp b = (0, 5), aok shp (b + 1) 0 (nI c)]) rfl ⟨hS.1.1, (ak2 hS.1.2.1 rfl (by omega))⟩ ?_
    exact Wn.iret rfl (hQ _)
  · show Wn _ 210 _ (20, [(0, .ref b), (1, .int (nI q)), (2, .int (nI c))], [], M)
    have c9_4 := Bd_4 hB
    have f9 := Bd_q hB q (by omega)
    have r9 := far_lt (σ (160 + q)) c (by omega) (by omega)
    have h1 := mt (n_lt (hS.2.1.2.2.2.1 4 (by decide)) rfl (by omega) (by omega)).mpr h1
    refine Wn.run (tab := tb_st_iceIfSworn) rfl 11 (c' := (47, [(0, .ref b), (1, .int (nI q)), (2, .int (nI c))], [.int (if (nI 0) < ((M.1 (b + 1) ((nI c)).toNatClampNeg) - (M.1 (lkp b) 3)) then ((M.1 (b + 1) ((nI c)).toNatClampNeg) - (M.1 (lkp b) 3)) else (nI 0))], M)) (o := [shp b = (0, 5), aok shp (b + 1) 0 (nI c), shp b = (0, 5), shp (lkp b) = (0, 2), ct [] ≤ 8]) rfl ⟨hS.1.1, (ak2 hS.1.2.1 rfl (by omega)), hS.1.1, hS.2.1.1, (Nat.le_of_ble_eq_true rfl)⟩ ?_
    have c9_3 := Bd_3 hB
    rw [show (M.1 (lkp b) 3) = (nI (σ 3)) from (hS.2.1.2.2.2.1 3 (by decide))]
    exact Wn.iret rfl (hQ _)
set_option maxRecDepth 20000 in
theorem c_st_breakRound (d : Nat) (M : Mm) (b : Nat) (σ : Nat → Nat) (hS : StC M b σ) (hB : Bd σ) (w x : Int32) (hw : M.1 b 11 = w) (hx : M.1 b 12 = x) (hI : Inl σ) (q : Nat) (hq : q < σ 2) (hf : ¬ fal σ q = true) : Wn (d + 3) 221 (PS b M (curse σ q) (w ||| nI (2 ^ q)) x none) (0, lv_args 0 [.ref b, .int (nI q)], [], M) := by
  have hF := fr_rf [b, (b + 1), (b + 2), (b + 3), (b + 4)] M
  have c9_2 := Bd_2 hB
  have f9 := Bd_q hB q (by omega)
  have p9 := pow_lt6 (q := q) (by omega)
  refine Wn.run (tab := tb_st_breakRound) rfl 2 (c' := (2, [(0, .ref b), (1, .int (nI q))], [.int (nI q), .ref b], M)) (o := []) rfl trivial ?_
  refine Wn.callV (p := b) (n := 2) (ix := 130) (ci := (5)) (fun r0 M0 => r0 = some (.int (nI (dng σ q))) ∧ M = M0) [.int (nI q)] [] rfl rfl rfl hS.1.1 (Nat.le_of_ble_eq_true rfl) (Nat.le_of_ble_eq_true rfl) (w_st_dangerOf _ M b σ hS hB hI q (by omega) _ ⟨rfl, rfl⟩) ?_
  rintro _ _ ⟨rfl, rfl⟩
  show Wn _ 221 _ (5, [(0, .ref b), (1, .int (nI q))], [.int (nI (dng σ q))], M)
  refine Wn.run (tab := tb_st_breakRound) rfl 35 (c' := (65, [(5, .int ((nI 8) * (if (nI 0) < (((M.1 (b + 2) ((nI q)).toNatClampNeg) / (nI 8)) - (M.1 (lkp b) 4)) then (((M.1 (b + 2) ((nI q)).toNatClampNeg) / (nI 8)) - (M.1 (lkp b) 4)) else (nI 0)))), (4, .int (if (((M.1 (b + 2) ((nI q)).toNatClampNeg) / (nI 8)) + (M.1 (lkp b) 4)) < ((M.1 (lkp b) 1) - (nI 1)) then (((M.1 (b + 2) ((nI q)).toNatClampNeg) / (nI 8)) + (M.1 (lkp b) 4)) else ((M.1 (lkp b) 1) - (nI 1)))), (3, .int (if (nI 0) < (((M.1 (b + 2) ((nI q)).toNatClampNeg) / (nI 8)) - (M.1 (lkp b) 4)) then (((M.1 (b + 2) ((nI q)).toNatClampNeg) / (nI 8)) - (M.1 (lkp b) 4)) else (nI 0))), (2, .int (nI (dng σ q))), (0, .ref b), (1, .int (nI q))], [], M)) (o := [shp b = (0, 5), aok shp (b + 2) 0 (nI q), ¬ (nI 8) = 0, shp b = (0, 5), shp (lkp b) = (0, 2), ct [] ≤ 8, shp b = (0, 5), shp (lkp b) = (0, 2), shp b = (0, 5), aok shp (b + 2) 0 (nI q), ¬ (nI 8) = 0, shp b = (0, 5), shp (lkp b) = (0, 2), ct [] ≤ 8]) rfl ⟨hS.1.1, (ak2 hS.1.2.2.1 rfl (by omega)), (show ¬ (nI 8) = 0 by decide), hS.1.1, hS.2.1.1, (Nat.le_of_ble_eq_true rfl), hS.1.1, hS.2.1.1, hS.1.1, (ak2 hS.1.2.2.1 rfl (by omega)), (show ¬ (nI 8) = 0 by decide), hS.1.1, hS.2.1.1, (Nat.le_of_ble_eq_true rfl)⟩ ?_
  have c9_1 := Bd_1 hB
  rw [show (M.1 (lkp b) 1) = (nI (σ 1)) from (hS.2.1.2.2.2.1 1 (by decide))]
  have c9_4 := Bd_4 hB
  rw [show (M.1 (lkp b) 4) = (nI (σ 4)) from (hS.2.1.2.2.2.1 4 (by decide))]
  have f9 := Bd_q hB q (by omega)
  rw [show (M.1 (b + 2) ((nI q)).toNatClampNeg) = (nI (σ (160 + q))) from (rdq (v := fun z9 => σ (160 + z9)) hS.2.2.2.2.1 rfl (by omega) (by omega))]
  have c9_1 := Bd_1 hB
  have c9_4 := Bd_4 hB
  have f9 := Bd_q hB q (by omega)
  rw [show (if (((nI (σ (160 + q))) / (nI 8)) + (nI (σ 4))) < ((nI (σ 1)) - (nI 1)) then (((nI (σ (160 + q))) / (nI 8)) + (nI (σ 4))) else ((nI (σ 1)) - (nI 1))) = (nI (if ((σ 1) - 1) < (((σ (160 + q)) / 8) + (σ 4)) then ((σ 1) - 1) else (((σ (160 + q)) / 8) + (σ 4)))) from (n_minI (n_add (n_div rfl rfl (by omega) (by omega) (by omega)) rfl) (n_sub rfl rfl (by omega)) (by omega) (by omega))]
  have c9_4 := Bd_4 hB
  have f9 := Bd_q hB q (by omega)
  rw [show ((nI 8) * (if (nI 0) < (((nI (σ (160 + q))) / (nI 8)) - (nI (σ 4))) then (((nI (σ (160 + q))) / (nI 8)) - (nI (σ 4))) else (nI 0))) = (nI (8 * (((σ (160 + q)) / 8) - (σ 4)))) from (n_mul rfl (n_max0 (n_div rfl rfl (by omega) (by omega) (by omega)) rfl (by omega) (by omega)))]
  have c9_4 := Bd_4 hB
  have f9 := Bd_q hB q (by omega)
  rw [show (if (nI 0) < (((nI (σ (160 + q))) / (nI 8)) - (nI (σ 4))) then (((nI (σ (160 + q))) / (nI 8)) - (nI (σ 4))) else (nI 0)) = (nI (((σ (160 + q)) / 8) - (σ 4))) from (n_max0 (n_div rfl rfl (by omega) (by omega) (by omega)) rfl (by omega) (by omega))]
  generalize ht9 : (if ((σ 1) - 1) < (((σ (160 + q)) / 8) + (σ 4)) then ((σ 1) - 1) else (((σ (160 + q)) / 8) + (σ 4))) = t9
  have k0 := Bd_0 hB
  have k1 := Bd_1 hB
  have k4 := Bd_4 hB
  have t7 : t9 < 8 ∧ t9 ≤ σ 1 - 1 ∧ (t9 = σ 1 - 1 ∨ t9 = σ (160 + q) / 8 + σ 4) := by rw [← ht9]; split <;> omega
  have hin8 := hI q hq
  unfold inL at hin8
  have loop : ∀ (m z : Nat) (N : Mm), (8 * t9 + σ 0) - z = m → z ≤ (8 * t9 + σ 0) → 8 * (((σ (160 + q)) / 8) - (σ 4)) ≤ z → StC N b (crs σ q z) → N.1 b 11 = w → N.1 b 12 = x → Fr [b, (b + 1), (b + 2), (b + 3), (b + 4)] M N → Wn (d + 3) 221 (PS b M (curse σ q) (w ||| nI (2 ^ q)) x none) (65, [(5, .int (nI z)), (4, .int (nI t9)), (3, .int (nI (((σ (160 + q)) / 8) - (σ 4)))), (2, .int (nI (dng σ q))), (0, .ref b), (1, .int (nI q))], [], N) := by
    intro m
    induction m using Nat.strongRecOn with
    | _ m ih =>
      intro z N hm hz loop_0 loop_1 loop_2 loop_3 loop_4
      have e0 : crs σ q z 0 = σ 0 := crs_lo (by omega)
      have e2 : crs σ q z 2 = σ 2 := crs_lo (by omega)
      refine Wn.run (tab := tb_st_breakRound) rfl 9 (c' := (if (((nI 8) * (nI t9)) + (N.1 (lkp b) 0)) ≤ (nI z) then 103 else 83, [(5, .int (nI z)), (4, .int (nI t9)), (3, .int (nI (((σ (160 + q)) / 8) - (σ 4)))), (2, .int (nI (dng σ q))), (0, .ref b), (1, .int (nI q))], [], N)) (o := [shp b = (0, 5), shp (lkp b) = (0, 2)]) rfl ⟨loop_1.1.1, loop_1.2.1.1⟩ ?_
      refine Wn.br (fun h1 => ?_) (fun h1 => ?_)
      · show Wn _ 221 _ (103, [(5, .int (nI z)), (4, .int (nI t9)), (3, .int (nI (((σ (160 + q)) / 8) - (σ 4)))), (2, .int (nI (dng σ q))), (0, .ref b), (1, .int (nI q))], [], N)
        have h1 := (n_le (n_add (n_mul rfl rfl) (loop_1.2.1.2.2.2.1 0 (by decide))) rfl (by omega) (by omega)).mp h1
        have e8 : z = 8 * t9 + σ 0 := by omega
        have hs1 := crs_till loop_1 hB (t := t9) (by rw [← ht9]) e8 (by omega)
        have dl9 : dng σ q < 64 := Nat.lt_of_lt_of_le (dngN_lt σ q (σ 2)) (Nat.pow_le_pow_right (by decide) (Bd_2 hB))
        have k91 := Bd_91 hB
        have e91 : crs σ q 64 91 = σ 91 := crs_lo (by omega)
        have e95 : crs σ q 64 95 = σ 95 := crs_lo (by omega)
        refine Wn.run (tab := tb_st_breakRound) rfl 6 (c' := (113, [(5, .int (nI z)), (4, .int (nI t9)), (3, .int (nI (((σ (160 + q)) / 8) - (σ 4)))), (2, .int (nI (dng σ q))), (0, .ref b), (1, .int (nI q))], [], (mI N b (upd (N.1 b) 5 ((N.1 b 5) ||| (nI (dng σ q))))))) (o := [shp b = (0, 5), shp b = (0, 5)]) rfl ⟨hs1.1.1, hs1.1.1⟩ ?_
        rw [show (N.1 b 5) = (nI ((crs σ q 64) 91)) from hs1.2.2.1.1]
        rw [show ((nI ((crs σ q 64) 91)) ||| (nI (dng σ q))) = (nI (((crs σ q 64) 91) ||| (dng σ q))) from (n_or rfl rfl (by omega) (by omega))]
        generalize hM3 : (mI N b (upd (N.1 b) 5 (nI (((crs σ q 64) 91) ||| (dng σ q))))) = M2
        have hs4 : StC M2 b (su (crs σ q 64) 91 (((crs σ q 64) 91) ||| (dng σ q))) := st_f5 hM3 hs1 rfl
        have hc5 := cl_nx hM3 (by decide) loop_2
        have hc6 := cl_nx hM3 (by decide) loop_3
        have hF7 := fr_sI loop_4 hM3 (by simp)
        show Wn _ 221 _ (113, [(5, .int (nI z)), (4, .int (nI t9)), (3, .int (nI (((σ (160 + q)) / 8) - (σ 4)))), (2, .int (nI (dng σ q))), (0, .ref b), (1, .int (nI q))], [], M2)
        refine Wn.run (tab := tb_st_breakRound) rfl 5 (c' := (120, [(5, .int (nI z)), (4, .int (nI t9)), (3, .int (nI (((σ (160 + q)) / 8) - (σ 4)))), (2, .int (nI (dng σ q))), (0, .ref b), (1, .int (nI q))], [], (mI M2 (b + 3) (upd (M2.1 (b + 3)) ((nI q)).toNatClampNeg (nI 0))))) (o := [shp b = (0, 5), aok shp (b + 3) 0 (nI q)]) rfl ⟨hs4.1.1, (ak2 hs4.1.2.2.2.1 rfl (by omega))⟩ ?_
        generalize hM9 : (mI M2 (b + 3) (upd (M2.1 (b + 3)) ((nI q)).toNatClampNeg (nI 0))) = M8
        have hs10 : StC M8 b (su (su (crs σ q 64) 91 (((crs σ q 64) 91) ||| (dng σ q))) (166 + q) 0) := st_tem hM9 hs4 (cl1 rfl (by omega)) (by omega) rfl
        have hc11 := cl_ne hM9 (by omega) hc5
        have hc12 := cl_ne hM9 (by omega) hc6
        have hF13 := fr_sI hF7 hM9 (by simp)
        show Wn _ 221 _ (120, [(5, .int (nI z)), (4, .int (nI t9)), (3, .int (nI (((σ (160 + q)) / 8) - (σ 4)))), (2, .int (nI (dng σ q))), (0, .ref b), (1, .int (nI q))], [], M8)
        refine Wn.run (tab := tb_st_breakRound) rfl 6 (c' := (130, [(5, .int (nI z)), (4, .int (nI t9)), (3, .int (nI (((σ (160 + q)) / 8) - (σ 4)))), (2, .int (nI (dng σ q))), (0, .ref b), (1, .int (nI q))], [], (mI M8 b (upd (M8.1 b) 10 ((M8.1 b 10) + (nI 1)))))) (o := [shp b = (0, 5), shp b = (0, 5)]) rfl ⟨hs10.1.1, hs10.1.1⟩ ?_
        rw [show (M8.1 b 10) = (nI ((crs σ q 64) 95)) from (r_ne (r_ne hs10.2.2.1.2.2.2.2.2.1 (by omega)) (by omega))]
        rw [show ((nI ((crs σ q 64) 95)) + (nI 1)) = (nI (((crs σ q 64) 95) + 1)) from (n_add rfl rfl)]
        generalize hM15 : (mI M8 b (upd (M8.1 b) 10 (nI (((crs σ q 64) 95) + 1)))) = M14
        have hs16 : StC M14 b (su (su (su (crs σ q 64) 91 (((crs σ q 64) 91) ||| (dng σ q))) (166 + q) 0) 95 (((crs σ q 64) 95) + 1)) := st_f10 hM15 hs10 rfl
        have hc17 := cl_nx hM15 (by decide) hc11
        have hc18 := cl_nx hM15 (by decide) hc12
        have hF19 := fr_sI hF13 hM15 (by simp)
        show Wn _ 221 _ (130, [(5, .int (nI z)), (4, .int (nI t9)), (3, .int (nI (((σ (160 + q)) / 8) - (σ 4)))), (2, .int (nI (dng σ q))), (0, .ref b), (1, .int (nI q))], [], M14)
        refine Wn.run (tab := tb_st_breakRound) rfl 8 (c' := (142, [(5, .int (nI z)), (4, .int (nI t9)), (3, .int (nI (((σ (160 + q)) / 8) - (σ 4)))), (2, .int (nI (dng σ q))), (0, .ref b), (1, .int (nI q))], [], (mI M14 b (upd (M14.1 b) 11 ((M14.1 b 11) ||| ((nI 1) <<< ((nI q) &&& 31))))))) (o := [shp b = (0, 5), shp b = (0, 5)]) rfl ⟨hs16.1.1, hs16.1.1⟩ ?_
        rw [show (M14.1 b 11) = w from hc17]
        have p9 := pow_lt6 (q := q) (by omega)
        rw [show ((nI 1) <<< ((nI q) &&& 31)) = (nI (2 ^ q)) from (n_shl rfl (by omega))]
        generalize hM21 : (mI M14 b (upd (M14.1 b) 11 (w ||| (nI (2 ^ q))))) = M20
        have hs22 := st_fx hM21 hs16 (by decide)
        have hc23 := cl_eq hM21
        have hc24 := cl_nx hM21 (by decide) hc18
        have hF25 := fr_sI hF19 hM21 (by simp)
        show Wn _ 221 _ (142, [(5, .int (nI z)), (4, .int (nI t9)), (3, .int (nI (((σ (160 + q)) / 8) - (σ 4)))), (2, .int (nI (dng σ q))), (0, .ref b), (1, .int (nI q))], [], M20)
        rw [curse_eq hB (by omega) hf]
        exact Wn.vret rfl ⟨rfl, hs22, hc23, hc24, hF25⟩
      · show Wn _ 221 _ (83, [(5, .int (nI z)), (4, .int (nI t9)), (3, .int (nI (((σ (160 + q)) / 8) - (σ 4)))), (2, .int (nI (dng σ q))), (0, .ref b), (1, .int (nI q))], [], N)
        have h1 := mt (n_le (n_add (n_mul rfl rfl) (loop_1.2.1.2.2.2.1 0 (by decide))) rfl (by omega) (by omega)).mpr h1
        by_cases hin9 : inL σ z
        · have e8 := rfl (a := 0)
          refine Wn.run (tab := tb_st_breakRound) rfl 6 (c' := (93, [(5, .int (nI z)), (4, .int (nI t9)), (3, .int (nI (((σ (160 + q)) / 8) - (σ 4)))), (2, .int (nI (dng σ q))), (0, .ref b), (1, .int (nI q))], [.int (nI z), .int (nI q), .ref b, .int (nI z), .ref (b + 1)], N)) (o := [shp b = (0, 5)]) rfl loop_1.1.1 ?_
          refine Wn.callV (p := b) (n := 3) (ix := 95) (ci := (5)) (fun r0 M0 => r0 = some (.int (nI (ifs (crs σ q z) q z))) ∧ N = M0) [.int (nI q), .int (nI z)] [.int (nI z), .ref (b + 1)] rfl rfl rfl loop_1.1.1 (Nat.le_of_ble_eq_true rfl) (Nat.le_of_ble_eq_true rfl) (w_st_iceIfSworn _ N b (crs σ q z) loop_1 (Bd_crs hB q z (by omega)) q z (by omega) (by omega) ((inL_cg (crs_lo (by omega)) (crs_lo (by omega))).mpr hin9) _ ⟨rfl, rfl⟩) ?_
          rintro _ _ ⟨rfl, rfl⟩
          show Wn _ 221 _ (96, [(5, .int (nI z)), (4, .int (nI t9)), (3, .int (nI (((σ (160 + q)) / 8) - (σ 4)))), (2, .int (nI (dng σ q))), (0, .ref b), (1, .int (nI q))], [.int (nI (ifs (crs σ q z) q z)), .int (nI z), .ref (b + 1)], N)
          have r9 := ifs_le (Bd_crs hB q z (by omega)) q z (by omega)
          rw [show (nI (ifs (crs σ q z) q z)) = (nI (ifs σ q z)) from by rw [crs_ifs (by omega) (Nat.le_refl _) (by omega)]]
          have r8 := ifs_le hB q z (by omega)
          refine Wn.run (tab := tb_st_breakRound) rfl 1 (c' := (97, [(5, .int (nI z)), (4, .int (nI t9)), (3, .int (nI (((σ (160 + q)) / 8) - (σ 4)))), (2, .int (nI (dng σ q))), (0, .ref b), (1, .int (nI q))], [], (mI N (b + 1) (upd (N.1 (b + 1)) ((nI z)).toNatClampNeg (nI (ifs σ q z)))))) (o := [aok shp (b + 1) 0 (nI z)]) rfl (ak2 loop_1.1.2.1 rfl (by omega)) ?_
          generalize hM27 : (mI N (b + 1) (upd (N.1 (b + 1)) ((nI z)).toNatClampNeg (nI (ifs σ q z)))) = M26
          have r9 := ifs_le hB q z (by omega)
          have hs28 : StC M26 b (su (crs σ q z) (96 + z) (ifs σ q z)) := st_ice hM27 loop_1 (cl1 rfl (by omega)) (by omega) rfl
          have hc29 := cl_ne hM27 (by omega) loop_2
          have hc30 := cl_ne hM27 (by omega) loop_3
          have hF31 := fr_sI loop_4 hM27 (by simp)
          show Wn _ 221 _ (97, [(5, .int (nI z)), (4, .int (nI t9)), (3, .int (nI (((σ (160 + q)) / 8) - (σ 4)))), (2, .int (nI (dng σ q))), (0, .ref b), (1, .int (nI q))], [], M26)
          refine Wn.run (tab := tb_st_breakRound) rfl 2 (c' := (65, [(5, .int ((nI z) + (nI 1))), (4, .int (nI t9)), (3, .int (nI (((σ (160 + q)) / 8) - (σ 4)))), (2, .int (nI (dng σ q))), (0, .ref b), (1, .int (nI q))], [], M26)) (o := []) rfl trivial ?_
          rw [show ((nI z) + (nI 1)) = (nI (z + 1)) from (n_add rfl rfl)]
          exact ih ((8 * t9 + σ 0) - (z + 1)) (by omega) (z + 1) M26 rfl (by omega) (by omega) (crs_s ▸ hs28) hc29 hc30 hF31
        · have e8 := rfl (a := 0)
          refine Wn.run (tab := tb_st_breakRound) rfl 6 (c' := (93, [(5, .int (nI z)), (4, .int (nI t9)), (3, .int (nI (((σ (160 + q)) / 8) - (σ 4)))), (2, .int (nI (dng σ q))), (0, .ref b), (1, .int (nI q))], [.int (nI z), .int (nI q), .ref b, .int (nI z), .ref (b + 1)], N)) (o := [shp b = (0, 5)]) rfl loop_1.1.1 ?_
          refine Wn.callV (p := b) (n := 3) (ix := 95) (ci := (5)) (fun r0 M0 => (∃ v9, r0 = some (.int v9)) ∧ N = M0) [.int (nI q), .int (nI z)] [.int (nI z), .ref (b + 1)] rfl rfl rfl loop_1.1.1 (Nat.le_of_ble_eq_true rfl) (Nat.le_of_ble_eq_true rfl) (w_st_iceIfSwornX _ N b (crs σ q z) loop_1 (Bd_crs hB q z (by omega)) q z (by omega) (by omega) _ (fun v9 => ⟨⟨v9, rfl⟩, rfl⟩)) ?_
          rintro _ _ ⟨⟨v9, rfl⟩, rfl⟩
          show Wn _ 221 _ (96, [(5, .int (nI z)), (4, .int (nI t9)), (3, .int (nI (((σ (160 + q)) / 8) - (σ 4)))), (2, .int (nI (dng σ q))), (0, .ref b), (1, .int (nI q))], [.int v9, .int (nI z), .ref (b + 1)], N)
          refine Wn.run (tab := tb_st_breakRound) rfl 1 (c' := (97, [(5, .int (nI z)), (4, .int (nI t9)), (3, .int (nI (((σ (160 + q)) / 8) - (σ 4)))), (2, .int (nI (dng σ q))), (0, .ref b), (1, .int (nI q))], [], (mI N (b + 1) (upd (N.1 (b + 1)) ((nI z)).toNatClampNeg v9)))) (o := [aok shp (b + 1) 0 (nI z)]) rfl (ak2 loop_1.1.2.1 rfl (by omega)) ?_
          generalize hM33 : (mI N (b + 1) (upd (N.1 (b + 1)) ((nI z)).toNatClampNeg v9)) = M32
          have hs34 := st_iceX hM33 loop_1 (cl1 rfl (by omega)) (fun h9 => hin9 ((inL_cg (crs_lo (by omega)) (crs_lo (by omega))).mp h9))
          have hc35 := cl_ne hM33 (by omega) loop_2
          have hc36 := cl_ne hM33 (by omega) loop_3
          have hF37 := fr_sI loop_4 hM33 (by simp)
          show Wn _ 221 _ (97, [(5, .int (nI z)), (4, .int (nI t9)), (3, .int (nI (((σ (160 + q)) / 8) - (σ 4)))), (2, .int (nI (dng σ q))), (0, .ref b), (1, .int (nI q))], [], M32)
          refine Wn.run (tab := tb_st_breakRound) rfl 2 (c' := (65, [(5, .int ((nI z) + (nI 1))), (4, .int (nI t9)), (3, .int (nI (((σ (160 + q)) / 8) - (σ 4)))), (2, .int (nI (dng σ q))), (0, .ref b), (1, .int (nI q))], [], M32)) (o := []) rfl trivial ?_
          rw [show ((nI z) + (nI 1)) = (nI (z + 1)) from (n_add rfl rfl)]
          exact ih ((8 * t9 + σ 0) - (z + 1)) (by omega) (z + 1) M32 rfl (by omega) (by omega) (crs_sX hs34 (by omega) hin9) hc35 hc36 hF37
  exact loop ((8 * t9 + σ 0) - (8 * (((σ (160 + q)) / 8) - (σ 4)))) (8 * (((σ (160 + q)) / 8) - (σ 4))) M rfl (by omega) (Nat.le_refl _) (crs_from hS (Nat.le_refl _) (by omega)) hw hx hF
set_option maxRecDepth 20000 in
theorem c_st_trySwear (d : Nat) (M : Mm) (b : Nat) (σ : Nat → Nat) (hS : StC M b σ) (hB : Bd σ) (w x : Int32) (hw : M.1 b 11 = w) (hx : M.1 b 12 = x) (hI : Inl σ) (q : Nat) (hq : q < σ 2) : Wn (d + 4) 220 (PS b M (swf σ q) (if fal σ q = true then w else (w ||| nI (2 ^ q))) x (some (.int (nI (if fal σ q = true then 1 else 0))))) (0, lv_args 0 [.ref b, .int (nI q)], [], M) := by
  have hF := fr_rf [b, (b + 1), (b + 2), (b + 3), (b + 4)] M
  have c9_2 := Bd_2 hB
  refine Wn.run (tab := tb_st_trySwear) rfl 2 (c' := (2, [(0, .ref b), (1, .int (nI q))], [.int (nI q), .ref b], M)) (o := []) rfl trivial ?_
  refine Wn.callV (p := b) (n := 2) (ix := 124) (ci := (5)) (fun r0 M0 => r0 = some (.int (nI (if fal σ q = true then 1 else 0))) ∧ M = M0) [.int (nI q)] [] rfl rfl rfl hS.1.1 (Nat.le_of_ble_eq_true rfl) (Nat.le_of_ble_eq_true rfl) (w_st_whyNotSwear _ M b σ hS hB q (by omega) _ ⟨rfl, rfl⟩) ?_
  rintro _ _ ⟨rfl, rfl⟩
  show Wn _ 220 _ (5, [(0, .ref b), (1, .int (nI q))], [.int (nI (if fal σ q = true then 1 else 0))], M)
  refine Wn.run (tab := tb_st_trySwear) rfl 3 (c' := (if ¬ (nI (if fal σ q = true then 1 else 0)) = 0 then 15 else 10, [(2, .int (nI (if fal σ q = true then 1 else 0))), (0, .ref b), (1, .int (nI q))], [], M)) (o := []) rfl trivial ?_
  refine Wn.br (fun h1 => ?_) (fun h1 => ?_)
  · show Wn _ 220 _ (15, [(2, .int (nI (if fal σ q = true then 1 else 0))), (0, .ref b), (1, .int (nI q))], [], M)
    have hf9 : fal σ q = true := by
      apply Classical.byContradiction; intro h9
      rw [if_neg h9] at h1
      exact h1 rfl
    refine Wn.run (tab := tb_st_trySwear) rfl 1 (c' := (16, [(2, .int (nI (if fal σ q = true then 1 else 0))), (0, .ref b), (1, .int (nI q))], [.int (nI (if fal σ q = true then 1 else 0))], M)) (o := []) rfl trivial ?_
    rw [show swf σ q = σ from if_pos hf9, show (if fal σ q = true then w else (w ||| nI (2 ^ q))) = w from if_pos hf9]
    exact Wn.iret rfl ⟨rfl, hS, hw, hx, hF⟩
  · show Wn _ 220 _ (10, [(2, .int (nI (if fal σ q = true then 1 else 0))), (0, .ref b), (1, .int (nI q))], [], M)
    have hf9 : ¬ fal σ q = true := by
      intro h9
      rw [if_pos h9] at h1
      exact h1 (by decide)
    refine Wn.run (tab := tb_st_trySwear) rfl 2 (c' := (12, [(2, .int (nI (if fal σ q = true then 1 else 0))), (0, .ref b), (1, .int (nI q))], [.int (nI q), .ref b], M)) (o := []) rfl trivial ?_
    refine Wn.callV (p := b) (n := 2) (ix := 127) (ci := (5)) (PS b M (curse σ q) (w ||| nI (2 ^ q)) x none) [.int (nI q)] [] rfl rfl rfl hS.1.1 (Nat.le_of_ble_eq_true rfl) (Nat.le_of_ble_eq_true rfl) (c_st_breakRound _ M b σ hS hB w x hw hx hI q (by omega) hf9) ?_
    rintro _ M1 ⟨rfl, hs2, hw3, hx4, hF5⟩
    show Wn _ 220 _ (15, [(2, .int (nI (if fal σ q = true then 1 else 0))), (0, .ref b), (1, .int (nI q))], [], M1)
    have hF6 := fr_tr hF hF5 (by simp)
    have hB7 : Bd (curse σ q) := Bd_curse hB q (by omega)
    refine Wn.run (tab := tb_st_trySwear) rfl 1 (c' := (16, [(2, .int (nI (if fal σ q = true then 1 else 0))), (0, .ref b), (1, .int (nI q))], [.int (nI (if fal σ q = true then 1 else 0))], M1)) (o := []) rfl trivial ?_
    rw [show swf σ q = curse σ q from if_neg hf9, show (if fal σ q = true then w else (w ||| nI (2 ^ q))) = (w ||| nI (2 ^ q)) from if_neg hf9]
    exact Wn.iret rfl ⟨rfl, hs2, hw3, hx4, hF6⟩
theorem or_0r (w : Int32) : w ||| nI 0 = w := Int32.or_zero
theorem or_asc (w : Int32) {a q : Nat} (hq : q < 6) (ha : a < 2 ^ q) : (w ||| nI a) ||| nI (2 ^ q) = w ||| nI (a + 2 ^ q) := by rw [Int32.or_assoc, or_ok2 q hq a ha]
theorem swN_s1 {σ : Nat → Nat} {z : Nat} (h1 : ¬ fal (hrN σ z) z = true) (h2 : ¬ tmp9 (hrN σ z) z < (hrN σ z) 5) : swN σ (z + 1) = swN σ z + 2 ^ z := by
  show swN σ z + (if _ then 2 ^ z else 0) = _
  rw [if_pos ⟨h1, h2⟩]
theorem swN_s0 {σ : Nat → Nat} {z : Nat} (h : fal (hrN σ z) z = true ∨ tmp9 (hrN σ z) z < (hrN σ z) 5) : swN σ (z + 1) = swN σ z := by
  show swN σ z + (if _ then 2 ^ z else 0) = _
  rw [if_neg (fun h9 => h.elim h9.1 h9.2)]
  rfl
set_option maxRecDepth 20000 in
theorem c_st_passHour (d : Nat) (M : Mm) (b : Nat) (σ : Nat → Nat) (hS : StC M b σ) (hB : Bd σ) (w x : Int32) (hw : M.1 b 11 = w) (hx : M.1 b 12 = x) (hV : Inv σ) (h400 : σ 90 < 400) : Wn (d + 4) 222 (PS b M (hour σ) (w ||| nI (swN σ (σ 2))) x none) (0, lv_args 0 [.ref b], [], M) := by
  have hF := fr_rf [b, (b + 1), (b + 2), (b + 3), (b + 4)] M
  have c9_2 := Bd_2 hB
  refine Wn.run (tab := tb_st_passHour) rfl 2 (c' := (2, [(1, .int (nI 0)), (0, .ref b)], [], M)) (o := []) rfl trivial ?_
  have hV0 := hV
  have hB0 := hB
  have loop : ∀ (m z : Nat) (N : Mm), σ 2 - z = m → z ≤ σ 2 → StC N b (hrN σ z) → N.1 b 11 = (w ||| nI (swN σ z)) → N.1 b 12 = x → Fr [b, (b + 1), (b + 2), (b + 3), (b + 4)] M N → Wn (d + 4) 222 (PS b M (hour σ) (w ||| nI (swN σ (σ 2))) x none) (2, [(1, .int (nI z)), (0, .ref b)], [], N) := by
    intro m
    induction m using Nat.strongRecOn with
    | _ m ih =>
      intro z N hm hz loop_0 loop_1 loop_2 loop_3
      obtain ⟨τ, hτ⟩ : ∃ τ, hrN σ z = τ := ⟨_, rfl⟩
      have hV := Inv_hrN hV0 z (by omega)
      have hI9 := hV.2.1
      have hB := hV.1
      have e2 : hrN σ z 2 = σ 2 := hrN_lo (by omega) z (by omega)
      rw [hτ] at loop_0 hB hI9 e2
      have hlt := swN_lt σ z
      refine Wn.run (tab := tb_st_passHour) rfl 5 (c' := (if (N.1 (lkp b) 2) ≤ (nI z) then 71 else 13, [(1, .int (nI z)), (0, .ref b)], [], N)) (o := [shp b = (0, 5), shp (lkp b) = (0, 2)]) rfl ⟨loop_0.1.1, loop_0.2.1.1⟩ ?_
      refine Wn.br (fun h1 => ?_) (fun h1 => ?_)
      · show Wn _ 222 _ (71, [(1, .int (nI z)), (0, .ref b)], [], N)
        have c9_2 := Bd_2 hB
        have h1 := (n_le (loop_0.2.1.2.2.2.1 2 (by decide)) rfl (by omega) (by omega)).mp h1
        have k90 := Bd_90 hB
        have k7 := Bd_7 hB
        have m7 := Nat.mod_lt (τ 90 + 1) (show 0 < τ 7 by omega)
        have h9 : τ 90 < 400 := by rw [← hτ, hrN_90 z (by omega)]; exact h400
        refine Wn.run (tab := tb_st_passHour) rfl 6 (c' := (81, [(1, .int (nI z)), (0, .ref b)], [], (mI N b (upd (N.1 b) 7 ((N.1 b 7) + (nI 1)))))) (o := [shp b = (0, 5), shp b = (0, 5)]) rfl ⟨loop_0.1.1, loop_0.1.1⟩ ?_
        have c9_90 := Bd_90 hB
        rw [show (N.1 b 7) = (nI (τ 90)) from loop_0.2.2.1.2.2.1]
        have c9_90 := Bd_90 hB
        rw [show ((nI (τ 90)) + (nI 1)) = (nI ((τ 90) + 1)) from (n_add rfl rfl)]
        generalize hM2 : (mI N b (upd (N.1 b) 7 (nI ((τ 90) + 1)))) = M1
        have c9_90 := Bd_90 hB
        have hs3 : StC M1 b (su τ 90 ((τ 90) + 1)) := st_f7 hM2 loop_0 rfl
        have hc4 := cl_nx hM2 (by decide) loop_1
        have hc5 := cl_nx hM2 (by decide) loop_2
        have hF6 := fr_sI loop_3 hM2 (by simp)
        show Wn _ 222 _ (81, [(1, .int (nI z)), (0, .ref b)], [], M1)
        refine Wn.run (tab := tb_st_passHour) rfl 4 (c' := (if (M1.1 (lkp b) 7) ≤ 0 then 110 else 91, [(1, .int (nI z)), (0, .ref b)], [], M1)) (o := [shp b = (0, 5), shp (lkp b) = (0, 2)]) rfl ⟨hs3.1.1, hs3.2.1.1⟩ ?_
        refine Wn.br (fun h2 => ?_) (fun h2 => ?_)
        · show Wn _ 222 _ (110, [(1, .int (nI z)), (0, .ref b)], [], M1)
          have c9_7 := Bd_7 hB
          have h2 := (n_le (r_ne (hs3.2.1.2.2.2.1 7 (by decide)) (by omega)) nI_0.symm (by omega) (by omega)).mp h2
          refine Wn.run (tab := tb_st_passHour) rfl 3 (c' := (115, [(1, .int (nI z)), (0, .ref b)], [], (mI M1 b (upd (M1.1 b) 6 (nI 0))))) (o := [shp b = (0, 5)]) rfl hs3.1.1 ?_
          generalize hM8 : (mI M1 b (upd (M1.1 b) 6 (nI 0))) = M7
          have hs9 : StC M7 b (su (su τ 90 ((τ 90) + 1)) 92 0) := st_f6 hM8 hs3 rfl
          have hc10 := cl_nx hM8 (by decide) hc4
          have hc11 := cl_nx hM8 (by decide) hc5
          have hF12 := fr_sI hF6 hM8 (by simp)
          show Wn _ 222 _ (115, [(1, .int (nI z)), (0, .ref b)], [], M7)
          refine Wn.run (tab := tb_st_passHour) rfl 3 (c' := (120, [(1, .int (nI z)), (0, .ref b)], [.int (nI 0), .ref (b + 4)], M7)) (o := [shp b = (0, 5)]) rfl hs9.1.1 ?_
          refine Wn.callS (n := 2) (ix := 28) (PF (b + 4) 6 (nI 0) M7) [.ref (b + 4), .int (nI 0)] [] rfl rfl rfl (Nat.le_of_ble_eq_true rfl) (Nat.le_of_ble_eq_true rfl) (c_ja_fill _ M7 (b + 4) 6 (nI 0) hs9.1.2.2.2.2.1 (by decide)) ?_
          rintro _ M13 ⟨rfl, hl14, hF15⟩
          show Wn _ 222 _ (123, [(1, .int (nI z)), (0, .ref b)], [], M13)
          have hs16 := st_prz hs9 hl14 hF15
          have hc17 := cl_fr hF15 (by simp) hc10
          have hc18 := cl_fr hF15 (by simp) hc11
          have hF19 := fr_tr hF12 hF15 (by simp)
          have e8 : z = σ 2 := by omega
          have e9 : hour σ = (przN (su (su τ 90 ((τ 90) + 1)) 92 0) 6) := by
            show htl (hrN σ (σ 2)) = _
            rw [← e8, hτ, htl_eq, if_neg (by omega)]
          rw [e9, ← e8]
          exact Wn.vret rfl ⟨rfl, hs16, hc17, hc18, hF19⟩
        · show Wn _ 222 _ (91, [(1, .int (nI z)), (0, .ref b)], [], M1)
          have c9_7 := Bd_7 hB
          have h2 := mt (n_le (r_ne (hs3.2.1.2.2.2.1 7 (by decide)) (by omega)) nI_0.symm (by omega) (by omega)).mpr h2
          refine Wn.run (tab := tb_st_passHour) rfl 7 (c' := (if ¬ ((M1.1 b 7) - (M1.1 b 7) / (M1.1 (lkp b) 7) * (M1.1 (lkp b) 7)) = 0 then 110 else 106, [(1, .int (nI z)), (0, .ref b)], [], M1)) (o := [shp b = (0, 5), shp b = (0, 5), shp (lkp b) = (0, 2), ¬ (M1.1 (lkp b) 7) = 0]) rfl ⟨hs3.1.1, hs3.1.1, hs3.2.1.1, (n_ne0 (r_ne (hs3.2.1.2.2.2.1 7 (by decide)) (by omega)) (by omega) (by omega))⟩ ?_
          refine Wn.br (fun h3 => ?_) (fun h3 => ?_)
          · show Wn _ 222 _ (110, [(1, .int (nI z)), (0, .ref b)], [], M1)
            have c9_7 := Bd_7 hB
            have c9_90 := Bd_90 hB
            have h3 := mt (n_eq (n_rem (r_eq hs3.2.2.1.2.2.1 rfl) (r_ne (hs3.2.1.2.2.2.1 7 (by decide)) (by omega)) (by omega) (by omega) (by omega)) nI_0.symm (by omega) (by omega)).mpr h3
            refine Wn.run (tab := tb_st_passHour) rfl 3 (c' := (115, [(1, .int (nI z)), (0, .ref b)], [], (mI M1 b (upd (M1.1 b) 6 (nI 0))))) (o := [shp b = (0, 5)]) rfl hs3.1.1 ?_
            generalize hM21 : (mI M1 b (upd (M1.1 b) 6 (nI 0))) = M20
            have hs22 : StC M20 b (su (su τ 90 ((τ 90) + 1)) 92 0) := st_f6 hM21 hs3 rfl
            have hc23 := cl_nx hM21 (by decide) hc4
            have hc24 := cl_nx hM21 (by decide) hc5
            have hF25 := fr_sI hF6 hM21 (by simp)
            show Wn _ 222 _ (115, [(1, .int (nI z)), (0, .ref b)], [], M20)
            refine Wn.run (tab := tb_st_passHour) rfl 3 (c' := (120, [(1, .int (nI z)), (0, .ref b)], [.int (nI 0), .ref (b + 4)], M20)) (o := [shp b = (0, 5)]) rfl hs22.1.1 ?_
            refine Wn.callS (n := 2) (ix := 28) (PF (b + 4) 6 (nI 0) M20) [.ref (b + 4), .int (nI 0)] [] rfl rfl rfl (Nat.le_of_ble_eq_true rfl) (Nat.le_of_ble_eq_true rfl) (c_ja_fill _ M20 (b + 4) 6 (nI 0) hs22.1.2.2.2.2.1 (by decide)) ?_
            rintro _ M26 ⟨rfl, hl27, hF28⟩
            show Wn _ 222 _ (123, [(1, .int (nI z)), (0, .ref b)], [], M26)
            have hs29 := st_prz hs22 hl27 hF28
            have hc30 := cl_fr hF28 (by simp) hc23
            have hc31 := cl_fr hF28 (by simp) hc24
            have hF32 := fr_tr hF25 hF28 (by simp)
            have e8 : z = σ 2 := by omega
            have e9 : hour σ = (przN (su (su τ 90 ((τ 90) + 1)) 92 0) 6) := by
              show htl (hrN σ (σ 2)) = _
              rw [← e8, hτ, htl_eq, if_neg (by omega)]
            rw [e9, ← e8]
            exact Wn.vret rfl ⟨rfl, hs29, hc30, hc31, hF32⟩
          · show Wn _ 222 _ (106, [(1, .int (nI z)), (0, .ref b)], [], M1)
            have c9_7 := Bd_7 hB
            have c9_90 := Bd_90 hB
            have h3 := (n_eq (n_rem (r_eq hs3.2.2.1.2.2.1 rfl) (r_ne (hs3.2.1.2.2.2.1 7 (by decide)) (by omega)) (by omega) (by omega) (by omega)) nI_0.symm (by omega) (by omega)).mp (Classical.not_not.mp h3)
            refine Wn.run (tab := tb_st_passHour) rfl 1 (c' := (107, [(1, .int (nI z)), (0, .ref b)], [.ref b], M1)) (o := []) rfl trivial ?_
            have hB34 : Bd (su τ 90 ((τ 90) + 1)) := Bd_su hB (by omega) (by omega) (by omega) (by omega) (by omega) (by omega) (by omega)
            refine Wn.callV (p := b) (n := 1) (ix := 151) (ci := (5)) (PS b M1 (frzN (su τ 90 ((τ 90) + 1)) 64) (w ||| nI (swN σ z)) x none) [] [] rfl rfl rfl hs3.1.1 (Nat.le_of_ble_eq_true rfl) (Nat.le_of_ble_eq_true rfl) (c_st_freeze _ M1 b (su τ 90 ((τ 90) + 1)) hs3 hB34 (w ||| nI (swN σ z)) x hc4 hc5 ) ?_
            rintro _ M33 ⟨rfl, hs35, hw36, hx37, hF38⟩
            show Wn _ 222 _ (110, [(1, .int (nI z)), (0, .ref b)], [], M33)
            have hF39 := fr_tr hF6 hF38 (by simp)
            have hB40 : Bd (frzN (su τ 90 ((τ 90) + 1)) 64) := Bd_frz hB34 64 (Nat.le_refl _)
            refine Wn.run (tab := tb_st_passHour) rfl 3 (c' := (115, [(1, .int (nI z)), (0, .ref b)], [], (mI M33 b (upd (M33.1 b) 6 (nI 0))))) (o := [shp b = (0, 5)]) rfl hs35.1.1 ?_
            generalize hM42 : (mI M33 b (upd (M33.1 b) 6 (nI 0))) = M41
            have hs43 : StC M41 b (su (frzN (su τ 90 ((τ 90) + 1)) 64) 92 0) := st_f6 hM42 hs35 rfl
            have hc44 := cl_nx hM42 (by decide) hw36
            have hc45 := cl_nx hM42 (by decide) hx37
            have hF46 := fr_sI hF39 hM42 (by simp)
            show Wn _ 222 _ (115, [(1, .int (nI z)), (0, .ref b)], [], M41)
            refine Wn.run (tab := tb_st_passHour) rfl 3 (c' := (120, [(1, .int (nI z)), (0, .ref b)], [.int (nI 0), .ref (b + 4)], M41)) (o := [shp b = (0, 5)]) rfl hs43.1.1 ?_
            refine Wn.callS (n := 2) (ix := 28) (PF (b + 4) 6 (nI 0) M41) [.ref (b + 4), .int (nI 0)] [] rfl rfl rfl (Nat.le_of_ble_eq_true rfl) (Nat.le_of_ble_eq_true rfl) (c_ja_fill _ M41 (b + 4) 6 (nI 0) hs43.1.2.2.2.2.1 (by decide)) ?_
            rintro _ M47 ⟨rfl, hl48, hF49⟩
            show Wn _ 222 _ (123, [(1, .int (nI z)), (0, .ref b)], [], M47)
            have hs50 := st_prz hs43 hl48 hF49
            have hc51 := cl_fr hF49 (by simp) hc44
            have hc52 := cl_fr hF49 (by simp) hc45
            have hF53 := fr_tr hF46 hF49 (by simp)
            have e8 : z = σ 2 := by omega
            have e9 : hour σ = (przN (su (frzN (su τ 90 ((τ 90) + 1)) 64) 92 0) 6) := by
              show htl (hrN σ (σ 2)) = _
              rw [← e8, hτ, htl_eq, if_pos (by omega)]
            rw [e9, ← e8]
            exact Wn.vret rfl ⟨rfl, hs50, hc51, hc52, hF53⟩
      · show Wn _ 222 _ (13, [(1, .int (nI z)), (0, .ref b)], [], N)
        have c9_2 := Bd_2 hB
        have h1 := mt (n_le (loop_0.2.1.2.2.2.1 2 (by decide)) rfl (by omega) (by omega)).mpr h1
        refine Wn.run (tab := tb_st_passHour) rfl 2 (c' := (15, [(1, .int (nI z)), (0, .ref b)], [.int (nI z), .ref b], N)) (o := []) rfl trivial ?_
        refine Wn.callV (p := b) (n := 2) (ix := 70) (ci := (5)) (fun r0 M0 => r0 = some (.int (b2 (fal τ z = true))) ∧ N = M0) [.int (nI z)] [] rfl rfl rfl loop_0.1.1 (Nat.le_of_ble_eq_true rfl) (Nat.le_of_ble_eq_true rfl) (w_st_isFallen _ N b τ loop_0 hB z (by omega) _ ⟨rfl, rfl⟩) ?_
        rintro _ _ ⟨rfl, rfl⟩
        show Wn _ 222 _ (18, [(1, .int (nI z)), (0, .ref b)], [.int (b2 (fal τ z = true))], N)
        refine Wn.run (tab := tb_st_passHour) rfl 1 (c' := (if ¬ (b2 (fal τ z = true)) = 0 then 65 else 21, [(1, .int (nI z)), (0, .ref b)], [], N)) (o := []) rfl trivial ?_
        refine Wn.br (fun h4 => ?_) (fun h4 => ?_)
        · show Wn _ 222 _ (65, [(1, .int (nI z)), (0, .ref b)], [], N)
          have h4 := b2_pos h4
          refine Wn.run (tab := tb_st_passHour) rfl 2 (c' := (2, [(1, .int ((nI z) + (nI 1))), (0, .ref b)], [], N)) (o := []) rfl trivial ?_
          rw [show ((nI z) + (nI 1)) = (nI (z + 1)) from (n_add rfl rfl)]
          have es : hrN σ (z + 1) = τ := by show hst (hrN σ z) z = _; rw [hτ]; exact if_pos h4
          have ew : swN σ (z + 1) = swN σ z := swN_s0 (Or.inl (by rw [hτ]; exact h4))
          exact ih (σ 2 - (z + 1)) (by omega) (z + 1) N rfl (by omega) (by rw [es]; exact loop_0) (by rw [ew]; exact loop_1) loop_2 loop_3
        · show Wn _ 222 _ (21, [(1, .int (nI z)), (0, .ref b)], [], N)
          have h4 := b2_nneg h4
          refine Wn.run (tab := tb_st_passHour) rfl 10 (c' := (36, [(1, .int (nI z)), (0, .ref b)], [.int (nI z), .ref b, .int (N.1 (b + 3) ((nI z)).toNatClampNeg), .int (nI 9), .int (nI z), .ref (b + 3)], N)) (o := [shp b = (0, 5), shp b = (0, 5), aok shp (b + 3) 0 (nI z)]) rfl ⟨loop_0.1.1, loop_0.1.1, (ak2 loop_0.1.2.2.2.1 rfl (by omega))⟩ ?_
          have f9 := Bd_q hB z (by omega)
          rw [show (N.1 (b + 3) ((nI z)).toNatClampNeg) = (nI (τ (166 + z))) from (rdq (v := fun z9 => τ (166 + z9)) loop_0.2.2.2.2.2.1 rfl (by omega) (by omega))]
          refine Wn.callV (p := b) (n := 2) (ix := 142) (ci := (5)) (fun r0 M0 => r0 = some (.int (nI (nrN τ z (τ 2)))) ∧ N = M0) [.int (nI z)] [.int (nI (τ (166 + z))), .int (nI 9), .int (nI z), .ref (b + 3)] rfl rfl rfl loop_0.1.1 (Nat.le_of_ble_eq_true rfl) (Nat.le_of_ble_eq_true rfl) (w_st_othersNear _ N b τ loop_0 hB z (by omega) _ ⟨rfl, rfl⟩) ?_
          rintro _ _ ⟨rfl, rfl⟩
          show Wn _ 222 _ (39, [(1, .int (nI z)), (0, .ref b)], [.int (nI (nrN τ z (τ 2))), .int (nI (τ (166 + z))), .int (nI 9), .int (nI z), .ref (b + 3)], N)
          have nr9 := nrN_le τ z (τ 2)
          refine Wn.run (tab := tb_st_passHour) rfl 3 (c' := (44, [(1, .int (nI z)), (0, .ref b)], [], (mI N (b + 3) (upd (N.1 (b + 3)) ((nI z)).toNatClampNeg (if ((nI (τ (166 + z))) + (nI (nrN τ z (τ 2)))) < (nI 9) then ((nI (τ (166 + z))) + (nI (nrN τ z (τ 2)))) else (nI 9)))))) (o := [ct [.int (nI z), .ref (b + 3)] ≤ 8, aok shp (b + 3) 0 (nI z)]) rfl ⟨(Nat.le_of_ble_eq_true rfl), (ak2 loop_0.1.2.2.2.1 rfl (by omega))⟩ ?_
          have c9_2 := Bd_2 hB
          have f9 := Bd_q hB z (by omega)
          have i9 : (if 9 < ((τ (166 + z)) + (nrN τ z (τ 2))) then 9 else ((τ (166 + z)) + (nrN τ z (τ 2)))) ≤ 9 := by split <;> omega
          rw [show (if ((nI (τ (166 + z))) + (nI (nrN τ z (τ 2)))) < (nI 9) then ((nI (τ (166 + z))) + (nI (nrN τ z (τ 2)))) else (nI 9)) = (nI (if 9 < ((τ (166 + z)) + (nrN τ z (τ 2))) then 9 else ((τ (166 + z)) + (nrN τ z (τ 2))))) from (n_minI (n_add rfl rfl) rfl (by omega) (by omega))]
          generalize hM55 : (mI N (b + 3) (upd (N.1 (b + 3)) ((nI z)).toNatClampNeg (nI (if 9 < ((τ (166 + z)) + (nrN τ z (τ 2))) then 9 else ((τ (166 + z)) + (nrN τ z (τ 2))))))) = M54
          have c9_2 := Bd_2 hB
          have f9 := Bd_q hB z (by omega)
          have i9 : (if 9 < ((τ (166 + z)) + (nrN τ z (τ 2))) then 9 else ((τ (166 + z)) + (nrN τ z (τ 2)))) ≤ 9 := by split <;> omega
          have hs56 : StC M54 b (su τ (166 + z) (if 9 < ((τ (166 + z)) + (nrN τ z (τ 2))) then 9 else ((τ (166 + z)) + (nrN τ z (τ 2))))) := st_tem hM55 loop_0 (cl1 rfl (by omega)) (by omega) rfl
          have hc57 := cl_ne hM55 (by omega) loop_1
          have hc58 := cl_ne hM55 (by omega) loop_2
          have hF59 := fr_sI loop_3 hM55 (by simp)
          show Wn _ 222 _ (44, [(1, .int (nI z)), (0, .ref b)], [], M54)
          refine Wn.run (tab := tb_st_passHour) rfl 8 (c' := (if (M54.1 (b + 3) ((nI z)).toNatClampNeg) < (M54.1 (lkp b) 5) then 65 else 60, [(1, .int (nI z)), (0, .ref b)], [], M54)) (o := [shp b = (0, 5), aok shp (b + 3) 0 (nI z), shp b = (0, 5), shp (lkp b) = (0, 2)]) rfl ⟨hs56.1.1, (ak2 hs56.1.2.2.2.1 rfl (by omega)), hs56.1.1, hs56.2.1.1⟩ ?_
          refine Wn.br (fun h5 => ?_) (fun h5 => ?_)
          · show Wn _ 222 _ (65, [(1, .int (nI z)), (0, .ref b)], [], M54)
            have c9_2 := Bd_2 hB
            have c9_5 := Bd_5 hB
            have f9 := Bd_q hB z (by omega)
            have i9 : (if 9 < ((τ (166 + z)) + (nrN τ z (τ 2))) then 9 else ((τ (166 + z)) + (nrN τ z (τ 2)))) ≤ 9 := by split <;> omega
            have h5 := (n_lt (r_eq (rdq (v := fun z9 => (su τ (166 + z) (if 9 < ((τ (166 + z)) + (nrN τ z (τ 2))) then 9 else ((τ (166 + z)) + (nrN τ z (τ 2))))) (166 + z9)) hs56.2.2.2.2.2.1 rfl (lt_su (by omega) (by omega)) (by omega)) rfl) (r_ne (hs56.2.1.2.2.2.1 5 (by decide)) (by omega)) (by omega) (by omega)).mp h5
            refine Wn.run (tab := tb_st_passHour) rfl 2 (c' := (2, [(1, .int ((nI z) + (nI 1))), (0, .ref b)], [], M54)) (o := []) rfl trivial ?_
            rw [show ((nI z) + (nI 1)) = (nI (z + 1)) from (n_add rfl rfl)]
            have t9 : tmp9 τ z < τ 5 := h5
            have es : hrN σ (z + 1) = su τ (166 + z) (tmp9 τ z) := by show hst (hrN σ z) z = _; rw [hτ]; unfold hst; rw [if_neg h4, if_pos t9]
            have ew : swN σ (z + 1) = swN σ z := swN_s0 (Or.inr (by rw [hτ]; exact t9))
            exact ih (σ 2 - (z + 1)) (by omega) (z + 1) M54 rfl (by omega) (by rw [es]; exact hs56) (by rw [ew]; exact hc57) hc58 hF59
          · show Wn _ 222 _ (60, [(1, .int (nI z)), (0, .ref b)], [], M54)
            have c9_2 := Bd_2 hB
            have c9_5 := Bd_5 hB
            have f9 := Bd_q hB z (by omega)
            have i9 : (if 9 < ((τ (166 + z)) + (nrN τ z (τ 2))) then 9 else ((τ (166 + z)) + (nrN τ z (τ 2)))) ≤ 9 := by split <;> omega
            have h5 := mt (n_lt (r_eq (rdq (v := fun z9 => (su τ (166 + z) (if 9 < ((τ (166 + z)) + (nrN τ z (τ 2))) then 9 else ((τ (166 + z)) + (nrN τ z (τ 2))))) (166 + z9)) hs56.2.2.2.2.2.1 rfl (lt_su (by omega) (by omega)) (by omega)) rfl) (r_ne (hs56.2.1.2.2.2.1 5 (by decide)) (by omega)) (by omega) (by omega)).mpr h5
            refine Wn.run (tab := tb_st_passHour) rfl 2 (c' := (62, [(1, .int (nI z)), (0, .ref b)], [.int (nI z), .ref b], M54)) (o := []) rfl trivial ?_
            have hB61 : Bd (su τ (166 + z) (if 9 < ((τ (166 + z)) + (nrN τ z (τ 2))) then 9 else ((τ (166 + z)) + (nrN τ z (τ 2))))) := Bd_su hB (by omega) (by omega) (by omega) (by omega) (by omega) (by omega) (by omega)
            refine Wn.callV (p := b) (n := 2) (ix := 127) (ci := (5)) (PS b M54 (curse (su τ (166 + z) (if 9 < ((τ (166 + z)) + (nrN τ z (τ 2))) then 9 else ((τ (166 + z)) + (nrN τ z (τ 2))))) z) ((w ||| nI (swN σ z)) ||| nI (2 ^ z)) x none) [.int (nI z)] [] rfl rfl rfl hs56.1.1 (Nat.le_of_ble_eq_true rfl) (Nat.le_of_ble_eq_true rfl) (c_st_breakRound _ M54 b (su τ (166 + z) (if 9 < ((τ (166 + z)) + (nrN τ z (τ 2))) then 9 else ((τ (166 + z)) + (nrN τ z (τ 2))))) hs56 hB61 (w ||| nI (swN σ z)) x hc57 hc58 (Inl_cg hI9 (su_ne (by omega)) (su_ne (by omega)) (su_ne (by omega)) (fun k hk => su_ne (by omega))) z (lt_su (by omega) (by omega)) (fun h9 => h4 (by unfold fal at h9 ⊢; rw [su_ne (by omega)] at h9; exact h9))) ?_
            rintro _ M60 ⟨rfl, hs62, hw63, hx64, hF65⟩
            show Wn _ 222 _ (65, [(1, .int (nI z)), (0, .ref b)], [], M60)
            have hF66 := fr_tr hF59 hF65 (by simp)
            have hB67 : Bd (curse (su τ (166 + z) (if 9 < ((τ (166 + z)) + (nrN τ z (τ 2))) then 9 else ((τ (166 + z)) + (nrN τ z (τ 2))))) z) := Bd_curse hB61 z (by omega)
            refine Wn.run (tab := tb_st_passHour) rfl 2 (c' := (2, [(1, .int ((nI z) + (nI 1))), (0, .ref b)], [], M60)) (o := []) rfl trivial ?_
            rw [show ((nI z) + (nI 1)) = (nI (z + 1)) from (n_add rfl rfl)]
            have t9 : ¬ tmp9 τ z < τ 5 := h5
            have es : hrN σ (z + 1) = curse (su τ (166 + z) (tmp9 τ z)) z := by show hst (hrN σ z) z = _; rw [hτ]; unfold hst; rw [if_neg h4, if_neg t9]
            have ew : swN σ (z + 1) = swN σ z + 2 ^ z := swN_s1 (by rw [hτ]; exact h4) (by rw [hτ]; exact t9)
            exact ih (σ 2 - (z + 1)) (by omega) (z + 1) M60 rfl (by omega) (by rw [es]; exact hs62) (by rw [ew, ← or_asc w (by omega) hlt]; exact hw63) hx64 hF66
  exact loop (σ 2 - 0) 0 M rfl (by omega) hS (by rw [show swN σ 0 = 0 from rfl, or_0r]; exact hw) hx hF
