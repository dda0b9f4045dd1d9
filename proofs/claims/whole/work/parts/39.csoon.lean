/-! What would be: who has fallen stays so; the class's foresight. -/
theorem fal_or {σ τ : Nat → Nat} {q : Nat} (x : Nat) (h : τ 91 = σ 91 ||| x) (hf : fal σ q = true) : fal τ q = true := by
  unfold fal at hf ⊢
  rw [h, Nat.testBit_or, hf]
  rfl
theorem fal_eq {σ τ : Nat → Nat} {q : Nat} (h : τ 91 = σ 91) (hf : fal σ q = true) : fal τ q = true := by
  unfold fal at hf ⊢
  rw [h, hf]
theorem fal_snk {σ : Nat → Nat} {q : Nat} (hf : fal σ q = true) : fal (sink σ) q = true := fal_or (snkN σ (σ 2)) (by unfold sink; rw [su_eq rfl]) hf
theorem fal_curse {σ : Nat → Nat} {p q : Nat} (hp : p < 6) (hf : fal σ q = true) : fal (curse σ p) q = true := by
  unfold curse
  refine fal_snk (fal_eq ?_ hf)
  rw [su_ne (by omega), su_ne (by omega), crs_lo (by omega)]
theorem fal_flat {σ : Nat → Nat} {r q : Nat} (hr : r < 6) (ha : σ (160 + r) < 64) (hf : fal σ q = true) : fal (flat σ r) q = true := by
  have h1 : flt0 σ r 91 = σ 91 := by unfold flt0; rw [su_ne (by omega), su_ne (by omega), su_ne (by omega)]
  unfold flat
  split
  · refine fal_snk (fal_eq ?_ hf)
    rw [su_ne (by omega), h1]
  · exact fal_eq h1 hf
theorem fal_hst {σ : Nat → Nat} {p q : Nat} (hp : p < 6) (hf : fal σ q = true) : fal (hst σ p) q = true := by
  unfold hst
  split
  · exact hf
  · split
    · exact fal_eq (su_ne (by omega)) hf
    · exact fal_curse hp (fal_eq (su_ne (by omega)) hf)
theorem fal_hrN {σ : Nat → Nat} {q : Nat} (hf : fal σ q = true) : ∀ n, n ≤ 6 → fal (hrN σ n) q = true
  | 0, _ => hf
  | n + 1, hn => fal_hst (by omega) (fal_hrN hf n (by omega))
theorem fal_hour {σ : Nat → Nat} {q : Nat} (h26 : σ 2 ≤ 6) (hf : fal σ q = true) : fal (hour σ) q = true := by
  unfold hour
  exact fal_eq (htl_lo (by omega) (by omega) (by omega) (by omega)) (fal_hrN hf _ h26)
theorem fal_daS {σ : Nat → Nat} (hB : Bd σ) {x : Int32} {p q : Nat} (hp : p < σ 2) (hf : fal σ q = true) : fal (daS σ x p) q = true := by
  have h26 := Bd_2 hB
  have f9 := Bd_q hB p (by omega)
  have d9 := drN_lt (drS x) (n := σ 2) (by omega)
  have g9 := Bd_q hB (drN (drS x) (σ 2)) (by omega)
  unfold daS
  split
  · exact fal_eq (gof_lo (by omega) (by omega)) hf
  · split
    · unfold bowf; split
      · exact fal_eq (bend_lo (by omega) f9.1 (by omega)) hf
      · exact hf
    · split
      · unfold prf; split
        · exact fal_flat (by omega) g9.1 hf
        · exact hf
      · split
        · unfold swf; split
          · exact hf
          · exact fal_curse (by omega) hf
        · exact hf
theorem fal_dhN {σ : Nat → Nat} (h : Inv σ) {x : Int32} {q : Nat} (hp : ∀ r, r < 6 → σ (172 + r) + 6 < 1073741824) (hf : fal σ q = true) : ∀ n, n ≤ σ 2 → fal (dhN σ x n).1 q = true
  | 0, _ => hf
  | n + 1, hn => by
    obtain ⟨j1, j2, j3, j4⟩ := dhN_ok h (x := x) hp n (by omega)
    show fal (daS (dhN σ x n).1 (dhN σ x n).2 n) q = true
    exact fal_daS j1.1 (by rw [j2]; omega) (fal_dhN h hp hf n (by omega))
theorem fal_dK {σ : Nat → Nat} (h : Inv σ) {x : Int32} {q : Nat} (hp : ∀ r, r < 6 → σ (172 + r) + 6 < 1073741824) {k : Nat} (hf : fal (dK σ x k).1 q = true) : ∀ m, k + m + σ 90 ≤ 400 → fal (dK σ x (k + m)).1 q = true
  | 0, _ => hf
  | m + 1, hm => by
    obtain ⟨i1, i2, i3, i4⟩ := dK_ok h (x := x) hp (k + m) (by omega)
    have ih := fal_dK h hp hf m (by omega)
    rw [← Nat.add_assoc, dK_s]
    obtain ⟨j1, j2, j3, j4⟩ := dhN_ok i1 (x := (dK σ x (k + m)).2) i4 _ (Nat.le_refl _)
    exact fal_hour (by rw [j2]; exact Bd_2 i1.1) (fal_dhN i1 i4 ih _ (Nat.le_refl _))
/-- how often q has not fallen, by n seeds -/
def odN (σ : Nat → Nat) (q m : Nat) (x : Int32) : Nat → Nat
  | 0 => 0
  | n + 1 => odN σ q m x n + (if fal (dK σ (x + nI n) m).1 q = true then 0 else 1)
theorem odN_le (σ : Nat → Nat) (q m : Nat) (x : Int32) : ∀ n, odN σ q m x n ≤ n
  | 0 => Nat.le_refl 0
  | n + 1 => by
    have ih := odN_le σ q m x n
    unfold odN
    split <;> omega
def PV (M0 : Mm) (L : List Nat) (r : Option Value) : Po := fun r0 M' => r0 = r ∧ Fr L M0 M'
def SL : List Nat := [30, 31, 32, 33, 34]
theorem lay30 : Lay 30 := by unfold Lay; decide +kernel
theorem bit_orc {a b q : Nat} (ha : a < 64) (hb : b < 64) (hq : q < 6) (h0 : ¬ a.testBit q = true) : ((((nI a) ||| nI b) >>> (nI q &&& 31)) &&& nI 1) = 0 ↔ ¬ b.testBit q = true := by
  rw [lor_ok a ha b hb, bit_okc _ (lor_lt a ha b hb) q hq, Nat.testBit_or]
  simp [h0]
theorem or_bit {a b q : Nat} (ha : ¬ a.testBit q = true) (hb : ¬ b.testBit q = true) : ¬ (a ||| b).testBit q = true := by
  rw [Nat.testBit_or]
  simp [ha, hb]
theorem sw64 {σ : Nat → Nat} (h : σ 2 ≤ 6) : swN σ (σ 2) < 64 := Nat.lt_of_lt_of_le (swN_lt σ _) (Nat.pow_le_pow_right (by decide) h)
set_option maxRecDepth 20000 in
theorem c_i_swears (d : Nat) (M : Mm) (σ : Nat → Nat) (hS : StC M 6 σ) (hV : Inv σ) (q : Nat) (hq : q < σ 2) : Wn (d + 5) 22 (PV M SL (some (.int (oI (til (swP σ q) (mn 99 (400 - σ 90)) 1))))) (0, lv_args 0 [.ref 0, .int (nI q)], [], M) := by
  have hF := fr_rf SL M
  have hB := hV.1
  have hI := hV.2.1
  have c9_2 := Bd_2 hB
  have k90 := Bd_90 hB
  have l6 : lkp 6 = 3 := rfl
  have f9 := Bd_q hB q (by omega)
  have m9 := mn_le 99 (400 - σ 90)
  have m8 := mn_or 99 (400 - σ 90)
  refine Wn.run (tab := tb_i_swears) rfl 4 (c' := (8, [(0, .ref 0), (1, .int (nI q))], [.int (nI q), .ref 3], M)) (o := [shp 0 = (0, 9), shp 2 = (0, 8)]) rfl ⟨rfl, rfl⟩ ?_
  refine Wn.callV (p := 3) (n := 2) (ix := 133) (ci := (2)) (fun r0 M0 => r0 = some (.int (nI 1)) ∧ M = M0) [.int (nI q)] [] rfl rfl rfl rfl (Nat.le_of_ble_eq_true rfl) (Nat.le_of_ble_eq_true rfl) (w_lk_isPersonT _ M 3 σ hS.2.1 hB q (by omega) _ ⟨rfl, rfl⟩) ?_
  rintro _ _ ⟨rfl, rfl⟩
  show Wn _ 22 _ (11, [(0, .ref 0), (1, .int (nI q))], [.int (nI 1)], M)
  refine Wn.run (tab := tb_i_swears) rfl 1 (c' := (if ¬ (nI 1) = 0 then 16 else 14, [(0, .ref 0), (1, .int (nI q))], [], M)) (o := []) rfl trivial ?_
  rw [if_pos (show ¬ (nI 1) = 0 by decide)]
  show Wn _ 22 _ (16, [(0, .ref 0), (1, .int (nI q))], [], M)
  refine Wn.run (tab := tb_i_swears) rfl 5 (c' := (27, [(0, .ref 0), (1, .int (nI q))], [.ref 6, .ref 30], M)) (o := [shp 0 = (0, 9), shp 0 = (0, 9), shp 2 = (0, 8)]) rfl ⟨rfl, rfl, rfl⟩ ?_
  refine Wn.callV (p := 30) (n := 2) (ix := 307) (ci := (5)) (PS 30 M σ (M.1 30 11) (M.1 30 12) none) [.ref 6] [] rfl rfl rfl rfl (Nat.le_of_ble_eq_true rfl) (Nat.le_of_ble_eq_true rfl) (c_st_copyFrom _ M 30 6 σ lay30 hS.2.1 hS (by omega) (by decide) _ _ rfl rfl) ?_
  rintro _ M1 ⟨rfl, hs2, hw3, hx4, hF5⟩
  show Wn _ 22 _ (30, [(0, .ref 0), (1, .int (nI q))], [], M1)
  have hs6 := fr_st hF5 hS (by decide)
  have hF7 := fr_tr hF hF5 (by decide)
  refine Wn.run (tab := tb_i_swears) rfl 4 (c' := (38, [(0, .ref 0), (1, .int (nI q))], [], (mI M1 30 (upd (M1.1 30) 11 (nI 0))))) (o := [shp 0 = (0, 9), shp 30 = (0, 5)]) rfl ⟨rfl, rfl⟩ ?_
  generalize hM9 : (mI M1 30 (upd (M1.1 30) 11 (nI 0))) = M8
  have hs10 := st_fx hM9 hs2 (by decide)
  have hc11 := cl_eq hM9
  have hc12 := cl_nx hM9 (by decide) hx4
  have hs13 := st_ne hM9 hs6 (by decide)
  have hF14 := fr_sI hF7 hM9 (by decide)
  show Wn _ 22 _ (38, [(0, .ref 0), (1, .int (nI q))], [], M8)
  refine Wn.run (tab := tb_i_swears) rfl 3 (c' := (44, [(0, .ref 0), (1, .int (nI q))], [.ref 30, .int (nI 99)], M8)) (o := [shp 0 = (0, 9)]) rfl rfl ?_
  refine Wn.callV (p := 30) (n := 1) (ix := 268) (ci := (5)) (fun r0 M0 => r0 = some (.int (nI (400 - σ 90))) ∧ M8 = M0) [] [.int (nI 99)] rfl rfl rfl rfl (Nat.le_of_ble_eq_true rfl) (Nat.le_of_ble_eq_true rfl) (w_st_hoursLeft _ M8 30 σ hs10 hB  _ ⟨rfl, rfl⟩) ?_
  rintro _ _ ⟨rfl, rfl⟩
  show Wn _ 22 _ (47, [(0, .ref 0), (1, .int (nI q))], [.int (nI (400 - σ 90)), .int (nI 99)], M8)
  refine Wn.run (tab := tb_i_swears) rfl 4 (c' := (53, [(3, .int (nI 1)), (2, .int (if (nI (400 - σ 90)) < (nI 99) then (nI (400 - σ 90)) else (nI 99))), (0, .ref 0), (1, .int (nI q))], [], M8)) (o := [ct [] ≤ 8]) rfl (Nat.le_of_ble_eq_true rfl) ?_
  have c9_90 := Bd_90 hB
  rw [show (if (nI (400 - σ 90)) < (nI 99) then (nI (400 - σ 90)) else (nI 99)) = (nI (mn 99 (400 - σ 90))) from (n_minM rfl rfl (by omega) (by omega))]
  have hV0 := hV
  have loop : ∀ (m z : Nat) (N : Mm), (mn 99 (400 - σ 90) + 1) - z = m → z ≤ (mn 99 (400 - σ 90) + 1) → (StC N 30 (hK σ (z - 1))) → (∃ a, a < 64 ∧ N.1 30 11 = nI a ∧ ¬ a.testBit q = true) → (Fr SL M N) → (1 ≤ z) → (til (swP σ q) (mn 99 (400 - σ 90) + 1 - z) z = til (swP σ q) (mn 99 (400 - σ 90)) 1) → Wn (d + 5) 22 (PV M SL (some (.int (oI (til (swP σ q) (mn 99 (400 - σ 90)) 1))))) (53, [(3, .int (nI z)), (2, .int (nI (mn 99 (400 - σ 90)))), (0, .ref 0), (1, .int (nI q))], [], N) := by
    intro m
    induction m using Nat.strongRecOn with
    | _ m ih =>
      intro z N hm hz loop_0 loop_1 loop_2 loop_x0 loop_x1
      have ht9 := hK_90 c9_2 (z - 1)
      have hl2 := hK_lo c9_2 (k := 2) (by omega) (z - 1)
      have hV9 := Inv_hK hV0 (z - 1) (by omega)
      obtain ⟨τ, hτ⟩ : ∃ τ, hK σ (z - 1) = τ := ⟨_, rfl⟩
      rw [hτ] at loop_0 ht9 hV9 hl2
      have hV := hV9
      have hB := hV9.1
      have hI := hV9.2.1
      have k90 := Bd_90 hB
      have ez : z = (z - 1) + 1 := by omega
      obtain ⟨a0, ha1, ha2, ha3⟩ := loop_1
      obtain ⟨x9, hx9⟩ : ∃ x, N.1 30 12 = x := ⟨_, rfl⟩
      refine Wn.run (tab := tb_i_swears) rfl 3 (c' := (if (nI (mn 99 (400 - σ 90))) < (nI z) then 87 else 58, [(3, .int (nI z)), (2, .int (nI (mn 99 (400 - σ 90)))), (0, .ref 0), (1, .int (nI q))], [], N)) (o := []) rfl trivial ?_
      refine Wn.br (fun h1 => ?_) (fun h1 => ?_)
      · show Wn _ 22 _ (87, [(3, .int (nI z)), (2, .int (nI (mn 99 (400 - σ 90)))), (0, .ref 0), (1, .int (nI q))], [], N)
        have h1 := (n_lt rfl rfl (by omega) (by omega)).mp h1
        refine Wn.run (tab := tb_i_swears) rfl 1 (c' := (88, [(3, .int (nI z)), (2, .int (nI (mn 99 (400 - σ 90)))), (0, .ref 0), (1, .int (nI q))], [.int (-1 : Int32)], N)) (o := []) rfl trivial ?_
        have e9 : til (swP σ q) (mn 99 (400 - σ 90)) 1 = none := til_0 loop_x1 (by omega)
        exact Wn.iret rfl ⟨by rw [e9]; rfl, loop_2⟩
      · show Wn _ 22 _ (58, [(3, .int (nI z)), (2, .int (nI (mn 99 (400 - σ 90)))), (0, .ref 0), (1, .int (nI q))], [], N)
        have h1 := mt (n_lt rfl rfl (by omega) (by omega)).mpr h1
        refine Wn.run (tab := tb_i_swears) rfl 2 (c' := (62, [(3, .int (nI z)), (2, .int (nI (mn 99 (400 - σ 90)))), (0, .ref 0), (1, .int (nI q))], [.ref 30], N)) (o := [shp 0 = (0, 9)]) rfl rfl ?_
        refine Wn.callV (p := 30) (n := 1) (ix := 276) (ci := (5)) (PS 30 N (hour τ) ((nI a0) ||| nI (swN τ (τ 2))) x9 none) [] [] rfl rfl rfl rfl (Nat.le_of_ble_eq_true rfl) (Nat.le_of_ble_eq_true rfl) (c_st_passHour _ N 30 τ loop_0 hB (nI a0) x9 ha2 hx9 hV (by omega)) ?_
        rintro _ M15 ⟨rfl, hs16, hw17, hx18, hF19⟩
        show Wn _ 22 _ (65, [(3, .int (nI z)), (2, .int (nI (mn 99 (400 - σ 90)))), (0, .ref 0), (1, .int (nI q))], [], M15)
        have hF20 := fr_tr loop_2 hF19 (by decide)
        refine Wn.run (tab := tb_i_swears) rfl 8 (c' := (if (((M15.1 30 11) >>> ((nI q) &&& 31)) &&& (nI 1)) = 0 then 81 else 79, [(3, .int (nI z)), (2, .int (nI (mn 99 (400 - σ 90)))), (0, .ref 0), (1, .int (nI q))], [], M15)) (o := [shp 0 = (0, 9), shp 30 = (0, 5)]) rfl ⟨rfl, rfl⟩ ?_
        refine Wn.br (fun h2 => ?_) (fun h2 => ?_)
        · show Wn _ 22 _ (81, [(3, .int (nI z)), (2, .int (nI (mn 99 (400 - σ 90)))), (0, .ref 0), (1, .int (nI q))], [], M15)
          have h2 : ¬ (swN τ (τ 2)).testBit q = true := (bit_orc ha1 (sw64 (by omega)) (by omega) ha3).mp (by rw [hw17] at h2; exact h2)
          refine Wn.run (tab := tb_i_swears) rfl 2 (c' := (53, [(3, .int ((nI z) + (nI 1))), (2, .int (nI (mn 99 (400 - σ 90)))), (0, .ref 0), (1, .int (nI q))], [], M15)) (o := []) rfl trivial ?_
          rw [show ((nI z) + (nI 1)) = (nI (z + 1)) from (n_add rfl rfl)]
          have hP9 : ¬ (swP σ q) z = true := by
            unfold swP; rw [hτ]; exact h2
          exact ih ((mn 99 (400 - σ 90) + 1) - (z + 1)) (by omega) (z + 1) M15 rfl (by omega) (show StC M15 30 (hK σ (z + 1 - 1)) by rw [show z + 1 - 1 = (z - 1) + 1 by omega]; show StC _ 30 (hour (hK σ (z - 1))); rw [hτ]; exact hs16) ⟨a0 ||| swN τ (τ 2), lor_lt _ ha1 _ (sw64 (by omega)), by rw [hw17, lor_ok _ ha1 _ (sw64 (by omega))], or_bit ha3 h2⟩ hF20 (by omega) (til_n loop_x1 (by omega) hP9)
        · show Wn _ 22 _ (79, [(3, .int (nI z)), (2, .int (nI (mn 99 (400 - σ 90)))), (0, .ref 0), (1, .int (nI q))], [], M15)
          have h2 : (swN τ (τ 2)).testBit q = true := Classical.not_not.mp (mt (bit_orc ha1 (sw64 (by omega)) (by omega) ha3).mpr (by rw [hw17] at h2; exact h2))
          refine Wn.run (tab := tb_i_swears) rfl 1 (c' := (80, [(3, .int (nI z)), (2, .int (nI (mn 99 (400 - σ 90)))), (0, .ref 0), (1, .int (nI q))], [.int (nI z)], M15)) (o := []) rfl trivial ?_
          have hP9 : (swP σ q) z = true := by
            unfold swP; rw [hτ]; exact h2
          have e9 : til (swP σ q) (mn 99 (400 - σ 90)) 1 = some z := til_y loop_x1 (by omega) hP9
          exact Wn.iret rfl ⟨by rw [e9]; rfl, hF20⟩
  exact loop ((mn 99 (400 - σ 90) + 1) - 1) 1 M8 rfl (by omega) hs10 ⟨0, by decide, hc11, by simp⟩ hF14 (Nat.le_refl _) rfl
set_option maxRecDepth 20000 in
theorem c_i_swearsP (d : Nat) (M : Mm) (σ : Nat → Nat) (hS : StC M 6 σ) (hV : Inv σ) (q : Int32) (hnp : ¬ pI σ q) : Wn (d + 1) 22 (PV M SL (some (.int (-1)))) (0, lv_args 0 [.ref 0, .int q], [], M) := by
  have hF := fr_rf SL M
  have hB := hV.1
  have hI := hV.2.1
  have c9_2 := Bd_2 hB
  have k90 := Bd_90 hB
  have l6 : lkp 6 = 3 := rfl
  refine Wn.run (tab := tb_i_swears) rfl 4 (c' := (8, [(0, .ref 0), (1, .int q)], [.int q, .ref 3], M)) (o := [shp 0 = (0, 9), shp 2 = (0, 8)]) rfl ⟨rfl, rfl⟩ ?_
  refine Wn.callV (p := 3) (n := 2) (ix := 133) (ci := (2)) (fun r0 M0 => r0 = some (.int (nI 0)) ∧ M = M0) [.int q] [] rfl rfl rfl rfl (Nat.le_of_ble_eq_true rfl) (Nat.le_of_ble_eq_true rfl) (w_lk_isPersonF _ M 3 σ hS.2.1 hB q hnp _ ⟨rfl, rfl⟩) ?_
  rintro _ _ ⟨rfl, rfl⟩
  show Wn _ 22 _ (11, [(0, .ref 0), (1, .int q)], [.int (nI 0)], M)
  refine Wn.run (tab := tb_i_swears) rfl 1 (c' := (if ¬ (nI 0) = 0 then 16 else 14, [(0, .ref 0), (1, .int q)], [], M)) (o := []) rfl trivial ?_
  rw [if_neg (show ¬ (¬ (nI 0) = 0) by decide)]
  show Wn _ 22 _ (14, [(0, .ref 0), (1, .int q)], [], M)
  refine Wn.run (tab := tb_i_swears) rfl 1 (c' := (15, [(0, .ref 0), (1, .int q)], [.int (-1 : Int32)], M)) (o := []) rfl trivial ?_
  exact Wn.iret rfl ⟨rfl, hF⟩
set_option maxRecDepth 20000 in
theorem c_i_falls (d : Nat) (M : Mm) (σ : Nat → Nat) (hS : StC M 6 σ) (hV : Inv σ) (q : Nat) (hq : q < σ 2) : Wn (d + 5) 23 (PV M SL (some (.int (if fal σ q = true then nI 0 else (oI (til (faP σ q) (mn 99 (400 - σ 90)) 1)))))) (0, lv_args 0 [.ref 0, .int (nI q)], [], M) := by
  have hF := fr_rf SL M
  have hB := hV.1
  have hI := hV.2.1
  have c9_2 := Bd_2 hB
  have k90 := Bd_90 hB
  have l6 : lkp 6 = 3 := rfl
  have f9 := Bd_q hB q (by omega)
  have m9 := mn_le 99 (400 - σ 90)
  have m8 := mn_or 99 (400 - σ 90)
  refine Wn.run (tab := tb_i_falls) rfl 4 (c' := (8, [(0, .ref 0), (1, .int (nI q))], [.int (nI q), .ref 3], M)) (o := [shp 0 = (0, 9), shp 2 = (0, 8)]) rfl ⟨rfl, rfl⟩ ?_
  refine Wn.callV (p := 3) (n := 2) (ix := 133) (ci := (2)) (fun r0 M0 => r0 = some (.int (nI 1)) ∧ M = M0) [.int (nI q)] [] rfl rfl rfl rfl (Nat.le_of_ble_eq_true rfl) (Nat.le_of_ble_eq_true rfl) (w_lk_isPersonT _ M 3 σ hS.2.1 hB q (by omega) _ ⟨rfl, rfl⟩) ?_
  rintro _ _ ⟨rfl, rfl⟩
  show Wn _ 23 _ (11, [(0, .ref 0), (1, .int (nI q))], [.int (nI 1)], M)
  refine Wn.run (tab := tb_i_falls) rfl 1 (c' := (if ¬ (nI 1) = 0 then 16 else 14, [(0, .ref 0), (1, .int (nI q))], [], M)) (o := []) rfl trivial ?_
  rw [if_pos (show ¬ (nI 1) = 0 by decide)]
  show Wn _ 23 _ (16, [(0, .ref 0), (1, .int (nI q))], [], M)
  refine Wn.run (tab := tb_i_falls) rfl 4 (c' := (24, [(0, .ref 0), (1, .int (nI q))], [.int (nI q), .ref 6], M)) (o := [shp 0 = (0, 9), shp 2 = (0, 8)]) rfl ⟨rfl, rfl⟩ ?_
  refine Wn.callV (p := 6) (n := 2) (ix := 158) (ci := (5)) (fun r0 M0 => r0 = some (.int (b2 (fal σ q = true))) ∧ M = M0) [.int (nI q)] [] rfl rfl rfl rfl (Nat.le_of_ble_eq_true rfl) (Nat.le_of_ble_eq_true rfl) (w_st_isFallen _ M 6 σ hS hB q (by omega) _ ⟨rfl, rfl⟩) ?_
  rintro _ _ ⟨rfl, rfl⟩
  show Wn _ 23 _ (27, [(0, .ref 0), (1, .int (nI q))], [.int (b2 (fal σ q = true))], M)
  refine Wn.run (tab := tb_i_falls) rfl 1 (c' := (if (b2 (fal σ q = true)) = 0 then 32 else 30, [(0, .ref 0), (1, .int (nI q))], [], M)) (o := []) rfl trivial ?_
  refine Wn.br (fun h1 => ?_) (fun h1 => ?_)
  · show Wn _ 23 _ (32, [(0, .ref 0), (1, .int (nI q))], [], M)
    have h1 := b2_neg h1
    refine Wn.run (tab := tb_i_falls) rfl 5 (c' := (43, [(0, .ref 0), (1, .int (nI q))], [.ref 6, .ref 30], M)) (o := [shp 0 = (0, 9), shp 0 = (0, 9), shp 2 = (0, 8)]) rfl ⟨rfl, rfl, rfl⟩ ?_
    refine Wn.callV (p := 30) (n := 2) (ix := 307) (ci := (5)) (PS 30 M σ (M.1 30 11) (M.1 30 12) none) [.ref 6] [] rfl rfl rfl rfl (Nat.le_of_ble_eq_true rfl) (Nat.le_of_ble_eq_true rfl) (c_st_copyFrom _ M 30 6 σ lay30 hS.2.1 hS (by omega) (by decide) _ _ rfl rfl) ?_
    rintro _ M1 ⟨rfl, hs2, hw3, hx4, hF5⟩
    show Wn _ 23 _ (46, [(0, .ref 0), (1, .int (nI q))], [], M1)
    have hs6 := fr_st hF5 hS (by decide)
    have hF7 := fr_tr hF hF5 (by decide)
    refine Wn.run (tab := tb_i_falls) rfl 3 (c' := (52, [(0, .ref 0), (1, .int (nI q))], [.ref 30, .int (nI 99)], M1)) (o := [shp 0 = (0, 9)]) rfl rfl ?_
    refine Wn.callV (p := 30) (n := 1) (ix := 268) (ci := (5)) (fun r0 M0 => r0 = some (.int (nI (400 - σ 90))) ∧ M1 = M0) [] [.int (nI 99)] rfl rfl rfl rfl (Nat.le_of_ble_eq_true rfl) (Nat.le_of_ble_eq_true rfl) (w_st_hoursLeft _ M1 30 σ hs2 hB  _ ⟨rfl, rfl⟩) ?_
    rintro _ _ ⟨rfl, rfl⟩
    show Wn _ 23 _ (55, [(0, .ref 0), (1, .int (nI q))], [.int (nI (400 - σ 90)), .int (nI 99)], M1)
    refine Wn.run (tab := tb_i_falls) rfl 4 (c' := (61, [(3, .int (nI 1)), (2, .int (if (nI (400 - σ 90)) < (nI 99) then (nI (400 - σ 90)) else (nI 99))), (0, .ref 0), (1, .int (nI q))], [], M1)) (o := [ct [] ≤ 8]) rfl (Nat.le_of_ble_eq_true rfl) ?_
    have c9_90 := Bd_90 hB
    rw [show (if (nI (400 - σ 90)) < (nI 99) then (nI (400 - σ 90)) else (nI 99)) = (nI (mn 99 (400 - σ 90))) from (n_minM rfl rfl (by omega) (by omega))]
    have hV0 := hV
    have hnf := h1
    have loop : ∀ (m z : Nat) (N : Mm), (mn 99 (400 - σ 90) + 1) - z = m → z ≤ (mn 99 (400 - σ 90) + 1) → (StC N 30 (hK σ (z - 1))) → (Fr SL M N) → (1 ≤ z) → (til (faP σ q) (mn 99 (400 - σ 90) + 1 - z) z = til (faP σ q) (mn 99 (400 - σ 90)) 1) → Wn (d + 5) 23 (PV M SL (some (.int (if fal σ q = true then nI 0 else (oI (til (faP σ q) (mn 99 (400 - σ 90)) 1)))))) (61, [(3, .int (nI z)), (2, .int (nI (mn 99 (400 - σ 90)))), (0, .ref 0), (1, .int (nI q))], [], N) := by
      intro m
      induction m using Nat.strongRecOn with
      | _ m ih =>
        intro z N hm hz loop_0 loop_1 loop_x0 loop_x1
        have ht9 := hK_90 c9_2 (z - 1)
        have hl2 := hK_lo c9_2 (k := 2) (by omega) (z - 1)
        have hV9 := Inv_hK hV0 (z - 1) (by omega)
        obtain ⟨τ, hτ⟩ : ∃ τ, hK σ (z - 1) = τ := ⟨_, rfl⟩
        rw [hτ] at loop_0 ht9 hV9 hl2
        have hV := hV9
        have hB := hV9.1
        have hI := hV9.2.1
        have k90 := Bd_90 hB
        have ez : z = (z - 1) + 1 := by omega
        obtain ⟨w9, ha2⟩ : ∃ w, N.1 30 11 = w := ⟨_, rfl⟩
        obtain ⟨x9, hx9⟩ : ∃ x, N.1 30 12 = x := ⟨_, rfl⟩
        refine Wn.run (tab := tb_i_falls) rfl 3 (c' := (if (nI (mn 99 (400 - σ 90))) < (nI z) then 92 else 66, [(3, .int (nI z)), (2, .int (nI (mn 99 (400 - σ 90)))), (0, .ref 0), (1, .int (nI q))], [], N)) (o := []) rfl trivial ?_
        refine Wn.br (fun h2 => ?_) (fun h2 => ?_)
        · show Wn _ 23 _ (92, [(3, .int (nI z)), (2, .int (nI (mn 99 (400 - σ 90)))), (0, .ref 0), (1, .int (nI q))], [], N)
          have h2 := (n_lt rfl rfl (by omega) (by omega)).mp h2
          refine Wn.run (tab := tb_i_falls) rfl 1 (c' := (93, [(3, .int (nI z)), (2, .int (nI (mn 99 (400 - σ 90)))), (0, .ref 0), (1, .int (nI q))], [.int (-1 : Int32)], N)) (o := []) rfl trivial ?_
          have e9 : til (faP σ q) (mn 99 (400 - σ 90)) 1 = none := til_0 loop_x1 (by omega)
          exact Wn.iret rfl ⟨by rw [if_neg hnf, e9]; rfl, loop_1⟩
        · show Wn _ 23 _ (66, [(3, .int (nI z)), (2, .int (nI (mn 99 (400 - σ 90)))), (0, .ref 0), (1, .int (nI q))], [], N)
          have h2 := mt (n_lt rfl rfl (by omega) (by omega)).mpr h2
          refine Wn.run (tab := tb_i_falls) rfl 2 (c' := (70, [(3, .int (nI z)), (2, .int (nI (mn 99 (400 - σ 90)))), (0, .ref 0), (1, .int (nI q))], [.ref 30], N)) (o := [shp 0 = (0, 9)]) rfl rfl ?_
          refine Wn.callV (p := 30) (n := 1) (ix := 276) (ci := (5)) (PS 30 N (hour τ) (w9 ||| nI (swN τ (τ 2))) x9 none) [] [] rfl rfl rfl rfl (Nat.le_of_ble_eq_true rfl) (Nat.le_of_ble_eq_true rfl) (c_st_passHour _ N 30 τ loop_0 hB w9 x9 ha2 hx9 hV (by omega)) ?_
          rintro _ M8 ⟨rfl, hs9, hw10, hx11, hF12⟩
          show Wn _ 23 _ (73, [(3, .int (nI z)), (2, .int (nI (mn 99 (400 - σ 90)))), (0, .ref 0), (1, .int (nI q))], [], M8)
          have hF13 := fr_tr loop_1 hF12 (by decide)
          refine Wn.run (tab := tb_i_falls) rfl 3 (c' := (78, [(3, .int (nI z)), (2, .int (nI (mn 99 (400 - σ 90)))), (0, .ref 0), (1, .int (nI q))], [.int (nI q), .ref 30], M8)) (o := [shp 0 = (0, 9)]) rfl rfl ?_
          refine Wn.callV (p := 30) (n := 2) (ix := 158) (ci := (5)) (fun r0 M0 => r0 = some (.int (b2 (fal (hour τ) q = true))) ∧ M8 = M0) [.int (nI q)] [] rfl rfl rfl rfl (Nat.le_of_ble_eq_true rfl) (Nat.le_of_ble_eq_true rfl) (w_st_isFallen _ M8 30 (hour τ) hs9 (Inv_hour hV9 (by omega)).1 q (by omega) _ ⟨rfl, rfl⟩) ?_
          rintro _ _ ⟨rfl, rfl⟩
          show Wn _ 23 _ (81, [(3, .int (nI z)), (2, .int (nI (mn 99 (400 - σ 90)))), (0, .ref 0), (1, .int (nI q))], [.int (b2 (fal (hour τ) q = true))], M8)
          refine Wn.run (tab := tb_i_falls) rfl 1 (c' := (if (b2 (fal (hour τ) q = true)) = 0 then 86 else 84, [(3, .int (nI z)), (2, .int (nI (mn 99 (400 - σ 90)))), (0, .ref 0), (1, .int (nI q))], [], M8)) (o := []) rfl trivial ?_
          refine Wn.br (fun h3 => ?_) (fun h3 => ?_)
          · show Wn _ 23 _ (86, [(3, .int (nI z)), (2, .int (nI (mn 99 (400 - σ 90)))), (0, .ref 0), (1, .int (nI q))], [], M8)
            have h3 := b2_neg h3
            refine Wn.run (tab := tb_i_falls) rfl 2 (c' := (61, [(3, .int ((nI z) + (nI 1))), (2, .int (nI (mn 99 (400 - σ 90)))), (0, .ref 0), (1, .int (nI q))], [], M8)) (o := []) rfl trivial ?_
            rw [show ((nI z) + (nI 1)) = (nI (z + 1)) from (n_add rfl rfl)]
            have hP9 : ¬ (faP σ q) z = true := by
              unfold faP; rw [ez]; show ¬ fal (hour (hK σ (z - 1))) q = true; rw [hτ]; exact h3
            exact ih ((mn 99 (400 - σ 90) + 1) - (z + 1)) (by omega) (z + 1) M8 rfl (by omega) (show StC M8 30 (hK σ (z + 1 - 1)) by rw [show z + 1 - 1 = (z - 1) + 1 by omega]; show StC _ 30 (hour (hK σ (z - 1))); rw [hτ]; exact hs9) hF13 (by omega) (til_n loop_x1 (by omega) hP9)
          · show Wn _ 23 _ (84, [(3, .int (nI z)), (2, .int (nI (mn 99 (400 - σ 90)))), (0, .ref 0), (1, .int (nI q))], [], M8)
            have h3 := b2_pos h3
            refine Wn.run (tab := tb_i_falls) rfl 1 (c' := (85, [(3, .int (nI z)), (2, .int (nI (mn 99 (400 - σ 90)))), (0, .ref 0), (1, .int (nI q))], [.int (nI z)], M8)) (o := []) rfl trivial ?_
            have hP9 : (faP σ q) z = true := by
              unfold faP; rw [ez]; show fal (hour (hK σ (z - 1))) q = true; rw [hτ]; exact h3
            have e9 : til (faP σ q) (mn 99 (400 - σ 90)) 1 = some z := til_y loop_x1 (by omega) hP9
            exact Wn.iret rfl ⟨by rw [if_neg hnf, e9]; rfl, hF13⟩
    exact loop ((mn 99 (400 - σ 90) + 1) - 1) 1 M1 rfl (by omega) hs2 hF7 (Nat.le_refl _) rfl
  · show Wn _ 23 _ (30, [(0, .ref 0), (1, .int (nI q))], [], M)
    have h1 := b2_pos h1
    refine Wn.run (tab := tb_i_falls) rfl 1 (c' := (31, [(0, .ref 0), (1, .int (nI q))], [.int (nI 0)], M)) (o := []) rfl trivial ?_
    exact Wn.iret rfl ⟨by rw [if_pos h1], hF⟩
set_option maxRecDepth 20000 in
theorem c_i_fallsP (d : Nat) (M : Mm) (σ : Nat → Nat) (hS : StC M 6 σ) (hV : Inv σ) (q : Int32) (hnp : ¬ pI σ q) : Wn (d + 1) 23 (PV M SL (some (.int (-1)))) (0, lv_args 0 [.ref 0, .int q], [], M) := by
  have hF := fr_rf SL M
  have hB := hV.1
  have hI := hV.2.1
  have c9_2 := Bd_2 hB
  have k90 := Bd_90 hB
  have l6 : lkp 6 = 3 := rfl
  refine Wn.run (tab := tb_i_falls) rfl 4 (c' := (8, [(0, .ref 0), (1, .int q)], [.int q, .ref 3], M)) (o := [shp 0 = (0, 9), shp 2 = (0, 8)]) rfl ⟨rfl, rfl⟩ ?_
  refine Wn.callV (p := 3) (n := 2) (ix := 133) (ci := (2)) (fun r0 M0 => r0 = some (.int (nI 0)) ∧ M = M0) [.int q] [] rfl rfl rfl rfl (Nat.le_of_ble_eq_true rfl) (Nat.le_of_ble_eq_true rfl) (w_lk_isPersonF _ M 3 σ hS.2.1 hB q hnp _ ⟨rfl, rfl⟩) ?_
  rintro _ _ ⟨rfl, rfl⟩
  show Wn _ 23 _ (11, [(0, .ref 0), (1, .int q)], [.int (nI 0)], M)
  refine Wn.run (tab := tb_i_falls) rfl 1 (c' := (if ¬ (nI 0) = 0 then 16 else 14, [(0, .ref 0), (1, .int q)], [], M)) (o := []) rfl trivial ?_
  rw [if_neg (show ¬ (¬ (nI 0) = 0) by decide)]
  show Wn _ 23 _ (14, [(0, .ref 0), (1, .int q)], [], M)
  refine Wn.run (tab := tb_i_falls) rfl 1 (c' := (15, [(0, .ref 0), (1, .int q)], [.int (-1 : Int32)], M)) (o := []) rfl trivial ?_
  exact Wn.iret rfl ⟨rfl, hF⟩
set_option maxRecDepth 20000 in
theorem c_i_odds (d : Nat) (M : Mm) (σ : Nat → Nat) (hS : StC M 6 σ) (hV : Inv σ) (q n : Nat) (y : Int32) (hq : q < σ 2) (h1n : 1 ≤ n) (h2n : n ≤ 30) (hp : ∀ r, r < 6 → σ (172 + r) + 6 < 1073741824) : Wn (d + 7) 24 (PV M SL (some (.int (nI (odN σ q (mn 20 (400 - σ 90)) y n))))) (0, lv_args 0 [.ref 0, .int (nI q), .int (nI n), .int y], [], M) := by
  have hF := fr_rf SL M
  have hB := hV.1
  have hI := hV.2.1
  have c9_2 := Bd_2 hB
  have k90 := Bd_90 hB
  have l6 : lkp 6 = 3 := rfl
  have f9 := Bd_q hB q (by omega)
  have m9 := mn_le 20 (400 - σ 90)
  have m8 := mn_or 20 (400 - σ 90)
  refine Wn.run (tab := tb_i_odds) rfl 4 (c' := (8, [(0, .ref 0), (1, .int (nI q)), (2, .int (nI n)), (3, .int y)], [.int (nI q), .ref 3], M)) (o := [shp 0 = (0, 9), shp 2 = (0, 8)]) rfl ⟨rfl, rfl⟩ ?_
  refine Wn.callV (p := 3) (n := 2) (ix := 133) (ci := (2)) (fun r0 M0 => r0 = some (.int (nI 1)) ∧ M = M0) [.int (nI q)] [] rfl rfl rfl rfl (Nat.le_of_ble_eq_true rfl) (Nat.le_of_ble_eq_true rfl) (w_lk_isPersonT _ M 3 σ hS.2.1 hB q (by omega) _ ⟨rfl, rfl⟩) ?_
  rintro _ _ ⟨rfl, rfl⟩
  show Wn _ 24 _ (11, [(0, .ref 0), (1, .int (nI q)), (2, .int (nI n)), (3, .int y)], [.int (nI 1)], M)
  refine Wn.run (tab := tb_i_odds) rfl 1 (c' := (if (nI 1) = 0 then 25 else 14, [(0, .ref 0), (1, .int (nI q)), (2, .int (nI n)), (3, .int y)], [], M)) (o := []) rfl trivial ?_
  rw [if_neg (show ¬ ((nI 1) = 0) by decide)]
  show Wn _ 24 _ (14, [(0, .ref 0), (1, .int (nI q)), (2, .int (nI n)), (3, .int y)], [], M)
  refine Wn.run (tab := tb_i_odds) rfl 3 (c' := (if (nI n) < (nI 1) then 25 else 19, [(0, .ref 0), (1, .int (nI q)), (2, .int (nI n)), (3, .int y)], [], M)) (o := []) rfl trivial ?_
  rw [if_neg (mt (n_lt rfl rfl (by omega) (by omega)).mp (by omega))]
  show Wn _ 24 _ (19, [(0, .ref 0), (1, .int (nI q)), (2, .int (nI n)), (3, .int y)], [], M)
  refine Wn.run (tab := tb_i_odds) rfl 3 (c' := (if (nI n) ≤ (nI 30) then 27 else 25, [(0, .ref 0), (1, .int (nI q)), (2, .int (nI n)), (3, .int y)], [], M)) (o := []) rfl trivial ?_
  rw [if_pos ((n_le rfl rfl (by omega) (by omega)).mpr (by omega))]
  show Wn _ 24 _ (27, [(0, .ref 0), (1, .int (nI q)), (2, .int (nI n)), (3, .int y)], [], M)
  refine Wn.run (tab := tb_i_odds) rfl 6 (c' := (39, [(4, .int (nI 0)), (0, .ref 0), (1, .int (nI q)), (2, .int (nI n)), (3, .int y)], [.ref 6, .int (nI 20)], M)) (o := [shp 0 = (0, 9), shp 2 = (0, 8)]) rfl ⟨rfl, rfl⟩ ?_
  refine Wn.callV (p := 6) (n := 1) (ix := 268) (ci := (5)) (fun r0 M0 => r0 = some (.int (nI (400 - σ 90))) ∧ M = M0) [] [.int (nI 20)] rfl rfl rfl rfl (Nat.le_of_ble_eq_true rfl) (Nat.le_of_ble_eq_true rfl) (w_st_hoursLeft _ M 6 σ hS hB  _ ⟨rfl, rfl⟩) ?_
  rintro _ _ ⟨rfl, rfl⟩
  show Wn _ 24 _ (42, [(4, .int (nI 0)), (0, .ref 0), (1, .int (nI q)), (2, .int (nI n)), (3, .int y)], [.int (nI (400 - σ 90)), .int (nI 20)], M)
  refine Wn.run (tab := tb_i_odds) rfl 4 (c' := (50, [(6, .int (nI 0)), (5, .int (if (nI (400 - σ 90)) < (nI 20) then (nI (400 - σ 90)) else (nI 20))), (4, .int (nI 0)), (0, .ref 0), (1, .int (nI q)), (2, .int (nI n)), (3, .int y)], [], M)) (o := [ct [] ≤ 8]) rfl (Nat.le_of_ble_eq_true rfl) ?_
  have c9_90 := Bd_90 hB
  rw [show (if (nI (400 - σ 90)) < (nI 20) then (nI (400 - σ 90)) else (nI 20)) = (nI (mn 20 (400 - σ 90))) from (n_minM rfl rfl (by omega) (by omega))]
  have loop : ∀ (m k : Nat) (N : Mm), n - k = m → k ≤ n → (StC N 6 σ) → (Fr SL M N) → Wn (d + 7) 24 (PV M SL (some (.int (nI (odN σ q (mn 20 (400 - σ 90)) y n))))) (50, [(6, .int (nI k)), (5, .int (nI (mn 20 (400 - σ 90)))), (4, .int (nI (odN σ q (mn 20 (400 - σ 90)) y k))), (0, .ref 0), (1, .int (nI q)), (2, .int (nI n)), (3, .int y)], [], N) := by
    intro m
    induction m using Nat.strongRecOn with
    | _ m ih =>
      intro k N hm hk loop_0 loop_1
      have ol9 := odN_le σ q (mn 20 (400 - σ 90)) y k
      refine Wn.run (tab := tb_i_odds) rfl 3 (c' := (if (nI n) ≤ (nI k) then 135 else 56, [(6, .int (nI k)), (5, .int (nI (mn 20 (400 - σ 90)))), (4, .int (nI (odN σ q (mn 20 (400 - σ 90)) y k))), (0, .ref 0), (1, .int (nI q)), (2, .int (nI n)), (3, .int y)], [], N)) (o := []) rfl trivial ?_
      refine Wn.br (fun h1 => ?_) (fun h1 => ?_)
      · show Wn _ 24 _ (135, [(6, .int (nI k)), (5, .int (nI (mn 20 (400 - σ 90)))), (4, .int (nI (odN σ q (mn 20 (400 - σ 90)) y k))), (0, .ref 0), (1, .int (nI q)), (2, .int (nI n)), (3, .int y)], [], N)
        have h1 := (n_le rfl rfl (by omega) (by omega)).mp h1
        refine Wn.run (tab := tb_i_odds) rfl 1 (c' := (137, [(6, .int (nI k)), (5, .int (nI (mn 20 (400 - σ 90)))), (4, .int (nI (odN σ q (mn 20 (400 - σ 90)) y k))), (0, .ref 0), (1, .int (nI q)), (2, .int (nI n)), (3, .int y)], [.int (nI (odN σ q (mn 20 (400 - σ 90)) y k))], N)) (o := []) rfl trivial ?_
        have e9 : k = n := by omega
        rw [e9] 
        exact Wn.iret rfl ⟨rfl, loop_1⟩
      · show Wn _ 24 _ (56, [(6, .int (nI k)), (5, .int (nI (mn 20 (400 - σ 90)))), (4, .int (nI (odN σ q (mn 20 (400 - σ 90)) y k))), (0, .ref 0), (1, .int (nI q)), (2, .int (nI n)), (3, .int y)], [], N)
        have h1 := mt (n_le rfl rfl (by omega) (by omega)).mpr h1
        refine Wn.run (tab := tb_i_odds) rfl 5 (c' := (67, [(6, .int (nI k)), (5, .int (nI (mn 20 (400 - σ 90)))), (4, .int (nI (odN σ q (mn 20 (400 - σ 90)) y k))), (0, .ref 0), (1, .int (nI q)), (2, .int (nI n)), (3, .int y)], [.ref 6, .ref 30], N)) (o := [shp 0 = (0, 9), shp 0 = (0, 9), shp 2 = (0, 8)]) rfl ⟨rfl, rfl, rfl⟩ ?_
        refine Wn.callV (p := 30) (n := 2) (ix := 307) (ci := (5)) (PS 30 N σ (N.1 30 11) (N.1 30 12) none) [.ref 6] [] rfl rfl rfl rfl (Nat.le_of_ble_eq_true rfl) (Nat.le_of_ble_eq_true rfl) (c_st_copyFrom _ N 30 6 σ lay30 loop_0.2.1 loop_0 (by omega) (by decide) _ _ rfl rfl) ?_
        rintro _ M1 ⟨rfl, hs2, hw3, hx4, hF5⟩
        show Wn _ 24 _ (70, [(6, .int (nI k)), (5, .int (nI (mn 20 (400 - σ 90)))), (4, .int (nI (odN σ q (mn 20 (400 - σ 90)) y k))), (0, .ref 0), (1, .int (nI q)), (2, .int (nI n)), (3, .int y)], [], M1)
        have hs6 := fr_st hF5 loop_0 (by decide)
        have hF7 := fr_tr loop_1 hF5 (by decide)
        refine Wn.run (tab := tb_i_odds) rfl 6 (c' := (81, [(6, .int (nI k)), (5, .int (nI (mn 20 (400 - σ 90)))), (4, .int (nI (odN σ q (mn 20 (400 - σ 90)) y k))), (0, .ref 0), (1, .int (nI q)), (2, .int (nI n)), (3, .int y)], [], (mI M1 30 (upd (M1.1 30) 12 (y + (nI k)))))) (o := [shp 0 = (0, 9), shp 30 = (0, 5)]) rfl ⟨rfl, rfl⟩ ?_
        generalize hM9 : (mI M1 30 (upd (M1.1 30) 12 (y + (nI k)))) = M8
        have hs10 := st_fx hM9 hs2 (by decide)
        have hc11 := cl_nx hM9 (by decide) hw3
        have hc12 := cl_eq hM9
        have hs13 := st_ne hM9 hs6 (by decide)
        have hF14 := fr_sI hF7 hM9 (by decide)
        show Wn _ 24 _ (81, [(6, .int (nI k)), (5, .int (nI (mn 20 (400 - σ 90)))), (4, .int (nI (odN σ q (mn 20 (400 - σ 90)) y k))), (0, .ref 0), (1, .int (nI q)), (2, .int (nI n)), (3, .int y)], [], M8)
        refine Wn.run (tab := tb_i_odds) rfl 2 (c' := (84, [(7, .int (nI 0)), (6, .int (nI k)), (5, .int (nI (mn 20 (400 - σ 90)))), (4, .int (nI (odN σ q (mn 20 (400 - σ 90)) y k))), (0, .ref 0), (1, .int (nI q)), (2, .int (nI n)), (3, .int y)], [], M8)) (o := []) rfl trivial ?_
        have inn : ∀ (m h : Nat) (N : Mm), mn 20 (400 - σ 90) - h = m → h ≤ mn 20 (400 - σ 90) → (StC N 30 (dK σ (y + (nI k)) h).1) → (N.1 30 12 = (dK σ (y + (nI k)) h).2) → (StC N 6 σ) → (Fr SL M N) → Wn (d + 7) 24 (PV M SL (some (.int (nI (odN σ q (mn 20 (400 - σ 90)) y n))))) (84, [(7, .int (nI h)), (6, .int (nI k)), (5, .int (nI (mn 20 (400 - σ 90)))), (4, .int (nI (odN σ q (mn 20 (400 - σ 90)) y k))), (0, .ref 0), (1, .int (nI q)), (2, .int (nI n)), (3, .int y)], [], N) := by
          intro m
          induction m using Nat.strongRecOn with
          | _ m_inn ih_inn =>
            intro h N hm_inn hh inn_0 inn_1 inn_2 inn_3
            obtain ⟨i1, i2, i3, i4⟩ := dK_ok hV (x := (y + (nI k))) hp h (by omega)
            obtain ⟨τ, hτ⟩ : ∃ τ, (dK σ (y + (nI k)) h).1 = τ := ⟨_, rfl⟩
            obtain ⟨y2, hy⟩ : ∃ v9, (dK σ (y + (nI k)) h).2 = v9 := ⟨_, rfl⟩
            rw [hτ] at inn_0 i1 i2 i3 i4
            rw [hy] at inn_1
            have hV0 := hV
            have hV := i1
            have hB := hV.1
            have k90 := Bd_90 hB
            obtain ⟨w9, hw9⟩ : ∃ w, N.1 30 11 = w := ⟨_, rfl⟩
            refine Wn.run (tab := tb_i_odds) rfl 3 (c' := (if (nI (mn 20 (400 - σ 90))) ≤ (nI h) then 115 else 91, [(7, .int (nI h)), (6, .int (nI k)), (5, .int (nI (mn 20 (400 - σ 90)))), (4, .int (nI (odN σ q (mn 20 (400 - σ 90)) y k))), (0, .ref 0), (1, .int (nI q)), (2, .int (nI n)), (3, .int y)], [], N)) (o := []) rfl trivial ?_
            refine Wn.br (fun h2 => ?_) (fun h2 => ?_)
            · show Wn _ 24 _ (115, [(7, .int (nI h)), (6, .int (nI k)), (5, .int (nI (mn 20 (400 - σ 90)))), (4, .int (nI (odN σ q (mn 20 (400 - σ 90)) y k))), (0, .ref 0), (1, .int (nI q)), (2, .int (nI n)), (3, .int y)], [], N)
              have c9_90 := Bd_90 hB
              have h2 := (n_le rfl rfl (by omega) (by omega)).mp h2
              refine Wn.run (tab := tb_i_odds) rfl 3 (c' := (120, [(7, .int (nI h)), (6, .int (nI k)), (5, .int (nI (mn 20 (400 - σ 90)))), (4, .int (nI (odN σ q (mn 20 (400 - σ 90)) y k))), (0, .ref 0), (1, .int (nI q)), (2, .int (nI n)), (3, .int y)], [.int (nI q), .ref 30], N)) (o := [shp 0 = (0, 9)]) rfl rfl ?_
              refine Wn.callV (p := 30) (n := 2) (ix := 158) (ci := (5)) (fun r0 M0 => r0 = some (.int (b2 (fal τ q = true))) ∧ N = M0) [.int (nI q)] [] rfl rfl rfl rfl (Nat.le_of_ble_eq_true rfl) (Nat.le_of_ble_eq_true rfl) (w_st_isFallen _ N 30 τ inn_0 hB q (by omega) _ ⟨rfl, rfl⟩) ?_
              rintro _ _ ⟨rfl, rfl⟩
              show Wn _ 24 _ (123, [(7, .int (nI h)), (6, .int (nI k)), (5, .int (nI (mn 20 (400 - σ 90)))), (4, .int (nI (odN σ q (mn 20 (400 - σ 90)) y k))), (0, .ref 0), (1, .int (nI q)), (2, .int (nI n)), (3, .int y)], [.int (b2 (fal τ q = true))], N)
              refine Wn.run (tab := tb_i_odds) rfl 1 (c' := (if ¬ (b2 (fal τ q = true)) = 0 then 129 else 126, [(7, .int (nI h)), (6, .int (nI k)), (5, .int (nI (mn 20 (400 - σ 90)))), (4, .int (nI (odN σ q (mn 20 (400 - σ 90)) y k))), (0, .ref 0), (1, .int (nI q)), (2, .int (nI n)), (3, .int y)], [], N)) (o := []) rfl trivial ?_
              refine Wn.br (fun h3 => ?_) (fun h3 => ?_)
              · show Wn _ 24 _ (129, [(7, .int (nI h)), (6, .int (nI k)), (5, .int (nI (mn 20 (400 - σ 90)))), (4, .int (nI (odN σ q (mn 20 (400 - σ 90)) y k))), (0, .ref 0), (1, .int (nI q)), (2, .int (nI n)), (3, .int y)], [], N)
                have h3 := b2_pos h3
                refine Wn.run (tab := tb_i_odds) rfl 2 (c' := (50, [(6, .int ((nI k) + (nI 1))), (7, .int (nI h)), (5, .int (nI (mn 20 (400 - σ 90)))), (4, .int (nI (odN σ q (mn 20 (400 - σ 90)) y k))), (0, .ref 0), (1, .int (nI q)), (2, .int (nI n)), (3, .int y)], [], N)) (o := []) rfl trivial ?_
                rw [show ((nI k) + (nI 1)) = (nI (k + 1)) from (n_add rfl rfl)]
                have e7 : fal (dK σ (y + (nI k)) (mn 20 (400 - σ 90))).1 q = true ↔ fal τ q = true := by
                  rw [← hτ]
                  by_cases e6 : h = mn 20 (400 - σ 90)
                  · rw [e6]
                  · constructor
                    · intro _; rw [hτ]; exact absurd (show h = mn 20 (400 - σ 90) by omega) e6
                    · intro hf9; have q9 := fal_dK hV0 (x := (y + (nI k))) hp hf9 (mn 20 (400 - σ 90) - h) (by omega); rw [show h + (mn 20 (400 - σ 90) - h) = mn 20 (400 - σ 90) by omega] at q9; exact q9
                rw [show (nI (odN σ q (mn 20 (400 - σ 90)) y k)) = (nI (odN σ q (mn 20 (400 - σ 90)) y (k + 1))) from by show _ = nI (odN σ q (mn 20 (400 - σ 90)) y k + (if _ then 0 else 1)); rw [if_pos (by rw [e7]; exact h3)]; rfl]
                refine Wn.lvp [0, 2, 3, 4, 5, 6, 7] (lv' := [(6, .int (nI (k + 1))), (5, .int (nI (mn 20 (400 - σ 90)))), (4, .int (nI (odN σ q (mn 20 (400 - σ 90)) y (k + 1)))), (0, .ref 0), (1, .int (nI q)), (2, .int (nI n)), (3, .int y)]) rfl ?_
                exact ih (n - (k + 1)) (by omega) (k + 1) N rfl (by omega) inn_2 inn_3
              · show Wn _ 24 _ (126, [(7, .int (nI h)), (6, .int (nI k)), (5, .int (nI (mn 20 (400 - σ 90)))), (4, .int (nI (odN σ q (mn 20 (400 - σ 90)) y k))), (0, .ref 0), (1, .int (nI q)), (2, .int (nI n)), (3, .int y)], [], N)
                have h3 := b2_nneg h3
                refine Wn.run (tab := tb_i_odds) rfl 3 (c' := (50, [(6, .int ((nI k) + (nI 1))), (4, .int ((nI (odN σ q (mn 20 (400 - σ 90)) y k)) + (nI 1))), (7, .int (nI h)), (5, .int (nI (mn 20 (400 - σ 90)))), (0, .ref 0), (1, .int (nI q)), (2, .int (nI n)), (3, .int y)], [], N)) (o := []) rfl trivial ?_
                have c9_90 := Bd_90 hB
                rw [show ((nI (odN σ q (mn 20 (400 - σ 90)) y k)) + (nI 1)) = (nI ((odN σ q (mn 20 (400 - σ 90)) y k) + 1)) from (n_add rfl rfl)]
                rw [show ((nI k) + (nI 1)) = (nI (k + 1)) from (n_add rfl rfl)]
                have e7 : fal (dK σ (y + (nI k)) (mn 20 (400 - σ 90))).1 q = true ↔ fal τ q = true := by
                  rw [← hτ]
                  by_cases e6 : h = mn 20 (400 - σ 90)
                  · rw [e6]
                  · constructor
                    · intro _; rw [hτ]; exact absurd (show h = mn 20 (400 - σ 90) by omega) e6
                    · intro hf9; have q9 := fal_dK hV0 (x := (y + (nI k))) hp hf9 (mn 20 (400 - σ 90) - h) (by omega); rw [show h + (mn 20 (400 - σ 90) - h) = mn 20 (400 - σ 90) by omega] at q9; exact q9
                rw [show (nI ((odN σ q (mn 20 (400 - σ 90)) y k) + 1)) = (nI (odN σ q (mn 20 (400 - σ 90)) y (k + 1))) from by show _ = nI (odN σ q (mn 20 (400 - σ 90)) y k + (if _ then 0 else 1)); rw [if_neg (by rw [e7]; exact h3)]]
                refine Wn.lvp [0, 3, 1, 4, 5, 6, 7] (lv' := [(6, .int (nI (k + 1))), (5, .int (nI (mn 20 (400 - σ 90)))), (4, .int (nI (odN σ q (mn 20 (400 - σ 90)) y (k + 1)))), (0, .ref 0), (1, .int (nI q)), (2, .int (nI n)), (3, .int y)]) rfl ?_
                exact ih (n - (k + 1)) (by omega) (k + 1) N rfl (by omega) inn_2 inn_3
            · show Wn _ 24 _ (91, [(7, .int (nI h)), (6, .int (nI k)), (5, .int (nI (mn 20 (400 - σ 90)))), (4, .int (nI (odN σ q (mn 20 (400 - σ 90)) y k))), (0, .ref 0), (1, .int (nI q)), (2, .int (nI n)), (3, .int y)], [], N)
              have c9_90 := Bd_90 hB
              have h2 := mt (n_le rfl rfl (by omega) (by omega)).mpr h2
              refine Wn.run (tab := tb_i_odds) rfl 3 (c' := (96, [(7, .int (nI h)), (6, .int (nI k)), (5, .int (nI (mn 20 (400 - σ 90)))), (4, .int (nI (odN σ q (mn 20 (400 - σ 90)) y k))), (0, .ref 0), (1, .int (nI q)), (2, .int (nI n)), (3, .int y)], [.int (nI q), .ref 30], N)) (o := [shp 0 = (0, 9)]) rfl rfl ?_
              refine Wn.callV (p := 30) (n := 2) (ix := 158) (ci := (5)) (fun r0 M0 => r0 = some (.int (b2 (fal τ q = true))) ∧ N = M0) [.int (nI q)] [] rfl rfl rfl rfl (Nat.le_of_ble_eq_true rfl) (Nat.le_of_ble_eq_true rfl) (w_st_isFallen _ N 30 τ inn_0 hB q (by omega) _ ⟨rfl, rfl⟩) ?_
              rintro _ _ ⟨rfl, rfl⟩
              show Wn _ 24 _ (99, [(7, .int (nI h)), (6, .int (nI k)), (5, .int (nI (mn 20 (400 - σ 90)))), (4, .int (nI (odN σ q (mn 20 (400 - σ 90)) y k))), (0, .ref 0), (1, .int (nI q)), (2, .int (nI n)), (3, .int y)], [.int (b2 (fal τ q = true))], N)
              refine Wn.run (tab := tb_i_odds) rfl 1 (c' := (if ¬ (b2 (fal τ q = true)) = 0 then 115 else 102, [(7, .int (nI h)), (6, .int (nI k)), (5, .int (nI (mn 20 (400 - σ 90)))), (4, .int (nI (odN σ q (mn 20 (400 - σ 90)) y k))), (0, .ref 0), (1, .int (nI q)), (2, .int (nI n)), (3, .int y)], [], N)) (o := []) rfl trivial ?_
              refine Wn.br (fun h4 => ?_) (fun h4 => ?_)
              · show Wn _ 24 _ (115, [(7, .int (nI h)), (6, .int (nI k)), (5, .int (nI (mn 20 (400 - σ 90)))), (4, .int (nI (odN σ q (mn 20 (400 - σ 90)) y k))), (0, .ref 0), (1, .int (nI q)), (2, .int (nI n)), (3, .int y)], [], N)
                have h4 := b2_pos h4
                refine Wn.run (tab := tb_i_odds) rfl 3 (c' := (120, [(7, .int (nI h)), (6, .int (nI k)), (5, .int (nI (mn 20 (400 - σ 90)))), (4, .int (nI (odN σ q (mn 20 (400 - σ 90)) y k))), (0, .ref 0), (1, .int (nI q)), (2, .int (nI n)), (3, .int y)], [.int (nI q), .ref 30], N)) (o := [shp 0 = (0, 9)]) rfl rfl ?_
                refine Wn.callV (p := 30) (n := 2) (ix := 158) (ci := (5)) (fun r0 M0 => r0 = some (.int (b2 (fal τ q = true))) ∧ N = M0) [.int (nI q)] [] rfl rfl rfl rfl (Nat.le_of_ble_eq_true rfl) (Nat.le_of_ble_eq_true rfl) (w_st_isFallen _ N 30 τ inn_0 hB q (by omega) _ ⟨rfl, rfl⟩) ?_
                rintro _ _ ⟨rfl, rfl⟩
                show Wn _ 24 _ (123, [(7, .int (nI h)), (6, .int (nI k)), (5, .int (nI (mn 20 (400 - σ 90)))), (4, .int (nI (odN σ q (mn 20 (400 - σ 90)) y k))), (0, .ref 0), (1, .int (nI q)), (2, .int (nI n)), (3, .int y)], [.int (b2 (fal τ q = true))], N)
                refine Wn.run (tab := tb_i_odds) rfl 1 (c' := (if ¬ (b2 (fal τ q = true)) = 0 then 129 else 126, [(7, .int (nI h)), (6, .int (nI k)), (5, .int (nI (mn 20 (400 - σ 90)))), (4, .int (nI (odN σ q (mn 20 (400 - σ 90)) y k))), (0, .ref 0), (1, .int (nI q)), (2, .int (nI n)), (3, .int y)], [], N)) (o := []) rfl trivial ?_
                refine Wn.br (fun h5 => ?_) (fun h5 => ?_)
                · show Wn _ 24 _ (129, [(7, .int (nI h)), (6, .int (nI k)), (5, .int (nI (mn 20 (400 - σ 90)))), (4, .int (nI (odN σ q (mn 20 (400 - σ 90)) y k))), (0, .ref 0), (1, .int (nI q)), (2, .int (nI n)), (3, .int y)], [], N)
                  have h5 := b2_pos h5
                  refine Wn.run (tab := tb_i_odds) rfl 2 (c' := (50, [(6, .int ((nI k) + (nI 1))), (7, .int (nI h)), (5, .int (nI (mn 20 (400 - σ 90)))), (4, .int (nI (odN σ q (mn 20 (400 - σ 90)) y k))), (0, .ref 0), (1, .int (nI q)), (2, .int (nI n)), (3, .int y)], [], N)) (o := []) rfl trivial ?_
                  rw [show ((nI k) + (nI 1)) = (nI (k + 1)) from (n_add rfl rfl)]
                  have e7 : fal (dK σ (y + (nI k)) (mn 20 (400 - σ 90))).1 q = true ↔ fal τ q = true := by
                    rw [← hτ]
                    by_cases e6 : h = mn 20 (400 - σ 90)
                    · rw [e6]
                    · constructor
                      · intro _; rw [hτ]; exact h4
                      · intro hf9; have q9 := fal_dK hV0 (x := (y + (nI k))) hp hf9 (mn 20 (400 - σ 90) - h) (by omega); rw [show h + (mn 20 (400 - σ 90) - h) = mn 20 (400 - σ 90) by omega] at q9; exact q9
                  rw [show (nI (odN σ q (mn 20 (400 - σ 90)) y k)) = (nI (odN σ q (mn 20 (400 - σ 90)) y (k + 1))) from by show _ = nI (odN σ q (mn 20 (400 - σ 90)) y k + (if _ then 0 else 1)); rw [if_pos (by rw [e7]; exact h5)]; rfl]
                  refine Wn.lvp [0, 2, 3, 4, 5, 6, 7] (lv' := [(6, .int (nI (k + 1))), (5, .int (nI (mn 20 (400 - σ 90)))), (4, .int (nI (odN σ q (mn 20 (400 - σ 90)) y (k + 1)))), (0, .ref 0), (1, .int (nI q)), (2, .int (nI n)), (3, .int y)]) rfl ?_
                  exact ih (n - (k + 1)) (by omega) (k + 1) N rfl (by omega) inn_2 inn_3
                · show Wn _ 24 _ (126, [(7, .int (nI h)), (6, .int (nI k)), (5, .int (nI (mn 20 (400 - σ 90)))), (4, .int (nI (odN σ q (mn 20 (400 - σ 90)) y k))), (0, .ref 0), (1, .int (nI q)), (2, .int (nI n)), (3, .int y)], [], N)
                  have h5 := b2_nneg h5
                  refine Wn.run (tab := tb_i_odds) rfl 3 (c' := (50, [(6, .int ((nI k) + (nI 1))), (4, .int ((nI (odN σ q (mn 20 (400 - σ 90)) y k)) + (nI 1))), (7, .int (nI h)), (5, .int (nI (mn 20 (400 - σ 90)))), (0, .ref 0), (1, .int (nI q)), (2, .int (nI n)), (3, .int y)], [], N)) (o := []) rfl trivial ?_
                  have c9_90 := Bd_90 hB
                  rw [show ((nI (odN σ q (mn 20 (400 - σ 90)) y k)) + (nI 1)) = (nI ((odN σ q (mn 20 (400 - σ 90)) y k) + 1)) from (n_add rfl rfl)]
                  rw [show ((nI k) + (nI 1)) = (nI (k + 1)) from (n_add rfl rfl)]
                  have e7 : fal (dK σ (y + (nI k)) (mn 20 (400 - σ 90))).1 q = true ↔ fal τ q = true := by
                    rw [← hτ]
                    by_cases e6 : h = mn 20 (400 - σ 90)
                    · rw [e6]
                    · constructor
                      · intro _; rw [hτ]; exact h4
                      · intro hf9; have q9 := fal_dK hV0 (x := (y + (nI k))) hp hf9 (mn 20 (400 - σ 90) - h) (by omega); rw [show h + (mn 20 (400 - σ 90) - h) = mn 20 (400 - σ 90) by omega] at q9; exact q9
                  rw [show (nI ((odN σ q (mn 20 (400 - σ 90)) y k) + 1)) = (nI (odN σ q (mn 20 (400 - σ 90)) y (k + 1))) from by show _ = nI (odN σ q (mn 20 (400 - σ 90)) y k + (if _ then 0 else 1)); rw [if_neg (by rw [e7]; exact h5)]]
                  refine Wn.lvp [0, 3, 1, 4, 5, 6, 7] (lv' := [(6, .int (nI (k + 1))), (5, .int (nI (mn 20 (400 - σ 90)))), (4, .int (nI (odN σ q (mn 20 (400 - σ 90)) y (k + 1)))), (0, .ref 0), (1, .int (nI q)), (2, .int (nI n)), (3, .int y)]) rfl ?_
                  exact ih (n - (k + 1)) (by omega) (k + 1) N rfl (by omega) inn_2 inn_3
              · show Wn _ 24 _ (102, [(7, .int (nI h)), (6, .int (nI k)), (5, .int (nI (mn 20 (400 - σ 90)))), (4, .int (nI (odN σ q (mn 20 (400 - σ 90)) y k))), (0, .ref 0), (1, .int (nI q)), (2, .int (nI n)), (3, .int y)], [], N)
                have h4 := b2_nneg h4
                refine Wn.run (tab := tb_i_odds) rfl 2 (c' := (106, [(7, .int (nI h)), (6, .int (nI k)), (5, .int (nI (mn 20 (400 - σ 90)))), (4, .int (nI (odN σ q (mn 20 (400 - σ 90)) y k))), (0, .ref 0), (1, .int (nI q)), (2, .int (nI n)), (3, .int y)], [.ref 30], N)) (o := [shp 0 = (0, 9)]) rfl rfl ?_
                refine Wn.callV (p := 30) (n := 1) (ix := 282) (ci := (5)) (PX 30 N (hour (dhN τ y2 (τ 2)).1) ((dhN τ y2 (τ 2)).2) none) [] [] rfl rfl rfl rfl (Nat.le_of_ble_eq_true rfl) (Nat.le_of_ble_eq_true rfl) (c_st_drawHour _ N 30 τ inn_0 hV y2 inn_1 i4 (by omega)) ?_
                rintro _ M15 ⟨rfl, hs16, hx17, hF18⟩
                show Wn _ 24 _ (109, [(7, .int (nI h)), (6, .int (nI k)), (5, .int (nI (mn 20 (400 - σ 90)))), (4, .int (nI (odN σ q (mn 20 (400 - σ 90)) y k))), (0, .ref 0), (1, .int (nI q)), (2, .int (nI n)), (3, .int y)], [], M15)
                obtain ⟨w20, hw19⟩ : ∃ w, M15.1 30 11 = w := ⟨_, rfl⟩
                have hs21 := fr_st hF18 inn_2 (by decide)
                have hF22 := fr_tr inn_3 hF18 (by decide)
                refine Wn.run (tab := tb_i_odds) rfl 2 (c' := (84, [(7, .int ((nI h) + (nI 1))), (6, .int (nI k)), (5, .int (nI (mn 20 (400 - σ 90)))), (4, .int (nI (odN σ q (mn 20 (400 - σ 90)) y k))), (0, .ref 0), (1, .int (nI q)), (2, .int (nI n)), (3, .int y)], [], M15)) (o := []) rfl trivial ?_
                rw [show ((nI h) + (nI 1)) = (nI (h + 1)) from (n_add rfl rfl)]
                exact ih_inn (mn 20 (400 - σ 90) - (h + 1)) (by omega) (h + 1) M15 rfl (by omega) (show StC M15 30 (dK σ (y + (nI k)) (h + 1)).1 by rw [dK_s, hτ, hy]; exact hs16) (show M15.1 30 12 = (dK σ (y + (nI k)) (h + 1)).2 by rw [dK_s, hτ, hy]; exact hx17) hs21 hF22
        exact inn (mn 20 (400 - σ 90) - 0) 0 M8 rfl (by omega) hs10 hc12 hs13 hF14
  exact loop (n - 0) 0 M rfl (by omega) hS hF
