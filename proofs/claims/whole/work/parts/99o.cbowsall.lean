/-! Bows, by the class: all of it. -/
def PCb (M0 : Mm) (p : Nat) (P : Option Nat → Prop) : Po := fun r0 M' => (∃ o, P o ∧ r0 = some (.int (oI o))) ∧ Fr [p] M0 M'
set_option maxRecDepth 20000 in
theorem c_wy_leastBows (d : Nat) (M : Mm) (σ : Nat → Nat) (hS : StC M 6 σ) (hB : Bd σ) (q gl : Nat) (hq : q < σ 2) (hgl : gl < 64) (hfl : ¬ fal σ q = true) : Wn (d + 4) 240 (PCb M 84 (LCo (EB σ (okW σ q (σ (160 + q)))) (σ (160 + q)) 0 (xB σ q) gl)) (0, lv_args 0 [.ref 83, .ref 6, .int (nI q), .int (nI gl)], [], M) := by
  have b6 := Bd_2 hB
  have fq := Bd_q hB q (by omega)
  have hst : σ (160 + q) < 64 := by omega
  refine Wn.run (tab := tb_wy_leastBows) rfl 3 (c' := (7, [(0, .ref 83), (1, .ref 6), (2, .int (nI q)), (3, .int (nI gl))], [.int (nI 1000), .ref 84], M)) (o := [shp 83 = (0, 7)]) rfl rfl ?_
  refine Wn.callS (n := 2) (ix := 49) (PF 84 64 (nI 1000) M) [.ref 84, .int (nI 1000)] [] rfl rfl rfl (Nat.le_of_ble_eq_true rfl) (Nat.le_of_ble_eq_true rfl) (c_ja_fill _ M 84 64 (nI 1000) rfl (by decide)) ?_
  rintro _ M1 ⟨rfl, r1, f1⟩
  have S1 : StC M1 6 σ := fr_st f1 hS (by decide)
  have rst : M1.1 8 ((nI q)).toNatClampNeg = nI (σ (160 + q)) := by rw [nI_clamp (by omega)]; exact S1.2.2.2.2.1 q hq
  show Wn _ 240 _ (10, [(0, .ref 83), (1, .ref 6), (2, .int (nI q)), (3, .int (nI gl))], [], M1)
  refine Wn.run (tab := tb_wy_leastBows) rfl 8 (c' := (22, [(0, .ref 83), (1, .ref 6), (2, .int (nI q)), (3, .int (nI gl))], [], (mI M1 84 (upd (M1.1 84) ((M1.1 8 ((nI q)).toNatClampNeg)).toNatClampNeg (nI 0))))) (o := [shp 83 = (0, 7), shp 6 = (0, 5), aok shp 8 0 (nI q), aok shp 84 0 (M1.1 8 ((nI q)).toNatClampNeg)]) rfl ⟨rfl, rfl, (ak1 (n := 6) rfl rfl rfl (by omega)), (ak1 (n := 64) rfl rfl rst (by omega))⟩ ?_
  rw [rst, show ((nI (σ (160 + q)))).toNatClampNeg = σ (160 + q) from nI_clamp (by omega)]
  generalize hM2 : (mI M1 84 (upd (M1.1 84) (σ (160 + q)) (nI 0))) = M2
  have f2 := fr_1I hM2
  have F2 : Fr [84] M M2 := fr_tr f1 f2 (by decide)
  have r2 : ∀ e, e < 64 → M2.1 84 e = nI (f0B (σ (160 + q)) 1000 e) := by
    intro e he
    rw [mI_eq hM2]
    unfold f0B
    by_cases k : e = σ (160 + q)
    · rw [if_pos k, k, pk_us]
    · rw [if_neg k, pk_un k]; exact r1 e he
  refine Wn.run (tab := tb_wy_leastBows) rfl 4 (c' := (28, [(5, .int (nI 0)), (4, .int (nI 1)), (0, .ref 83), (1, .ref 6), (2, .int (nI q)), (3, .int (nI gl))], [], M2)) (o := []) rfl trivial ?_
  have fin : ∀ (N : Mm) (f : Nat → Nat) (u v : Int32), Fr [84] M N → (∀ e, e < 64 → N.1 84 e = nI (f e)) → (∀ e, f e ≤ 1000) → Snd (EB σ (okW σ q (σ (160 + q)))) (σ (160 + q)) 0 (xB σ q) f 1000 → RR (EB σ (okW σ q (σ (160 + q)))) (σ (160 + q)) 0 (xB σ q) f 64 → Wn (d + 4) 240 (PCb M 84 (LCo (EB σ (okW σ q (σ (160 + q)))) (σ (160 + q)) 0 (xB σ q) gl)) (92, [(5, .int u), (4, .int v), (0, .ref 83), (1, .ref 6), (2, .int (nI q)), (3, .int (nI gl))], [], N) := by
    intro N f u v FN hr fi hs hR
    have o := LCo_of (xB_mono σ q) hst (EB_lt hB) hs (fun n w hn hw => hR n w (by omega) hw) (fun n w hn hw => by have := xB_bd n hw; omega) gl hgl
    have rg : N.1 84 ((nI gl)).toNatClampNeg = nI (f gl) := by rw [nI_clamp (by omega)]; exact hr _ (by omega)
    have fg := fi gl
    refine Wn.run (tab := tb_wy_leastBows) rfl 6 (c' := (if ¬ (N.1 84 ((nI gl)).toNatClampNeg) = (nI 1000) then 108 else 104, [(5, .int u), (4, .int v), (0, .ref 83), (1, .ref 6), (2, .int (nI q)), (3, .int (nI gl))], [], N)) (o := [shp 83 = (0, 7), aok shp 84 0 (nI gl)]) rfl ⟨rfl, (ak1 (n := 64) rfl rfl rfl (by omega))⟩ ?_
    rw [rg]
    unfold ouN at o
    by_cases c : f gl < 1000
    · rw [if_pos (mt (n_eq rfl rfl (by omega) (by omega)).mp (by omega))]
      rw [if_pos c] at o
      refine Wn.run (tab := tb_wy_leastBows) rfl 4 (c' := (114, [(5, .int u), (4, .int v), (0, .ref 83), (1, .ref 6), (2, .int (nI q)), (3, .int (nI gl))], [.int (N.1 84 ((nI gl)).toNatClampNeg)], N)) (o := [shp 83 = (0, 7), aok shp 84 0 (nI gl)]) rfl ⟨rfl, (ak1 (n := 64) rfl rfl rfl (by omega))⟩ ?_
      rw [rg]
      exact Wn.iret rfl ⟨⟨_, o, rfl⟩, FN⟩
    · rw [if_neg (fun e => e ((n_eq rfl rfl (by omega) (by omega)).mpr (by omega)))]
      rw [if_neg c] at o
      refine Wn.run (tab := tb_wy_leastBows) rfl 2 (c' := (114, [(5, .int u), (4, .int v), (0, .ref 83), (1, .ref 6), (2, .int (nI q)), (3, .int (nI gl))], [.int (-1 : Int32)], N)) (o := []) rfl trivial ?_
      exact Wn.iret rfl ⟨⟨_, o, rfl⟩, FN⟩
  have main : ∀ (m r : Nat) (f0 : Nat → Nat) (N : Mm), 64 - r = m → r ≤ 64 → Snd (EB σ (okW σ q (σ (160 + q)))) (σ (160 + q)) 0 (xB σ q) f0 1000 → (∀ e, f0 e ≤ 1000) → f0 (σ (160 + q)) = 0 → RR (EB σ (okW σ q (σ (160 + q)))) (σ (160 + q)) 0 (xB σ q) f0 r → Fr [84] M N → (∀ e, e < 64 → N.1 84 e = nI (f0 e)) → Wn (d + 4) 240 (PCb M 84 (LCo (EB σ (okW σ q (σ (160 + q)))) (σ (160 + q)) 0 (xB σ q) gl)) (28, [(5, .int (nI r)), (4, .int (nI 1)), (0, .ref 83), (1, .ref 6), (2, .int (nI q)), (3, .int (nI gl))], [], N) := by
    intro m
    induction m using Nat.strongRecOn with
    | _ m ih =>
      intro r f0 N hm hr64 hs fi f00 hR FN hr
      refine Wn.run (tab := tb_wy_leastBows) rfl 3 (c' := (if (nI 64) ≤ (nI r) then 92 else 35, [(5, .int (nI r)), (4, .int (nI 1)), (0, .ref 83), (1, .ref 6), (2, .int (nI q)), (3, .int (nI gl))], [], N)) (o := []) rfl trivial ?_
      by_cases ce : 64 ≤ r
      · rw [if_pos ((n_le rfl rfl (by omega) (by omega)).mpr ce)]
        have er : r = 64 := by omega
        subst er
        exact fin N f0 _ _ FN hr fi hs hR
      rw [if_neg (mt (n_le rfl rfl (by omega) (by omega)).mp ce)]
      refine Wn.run (tab := tb_wy_leastBows) rfl 2 (c' := (if (nI 1) = 0 then 92 else 40, [(5, .int (nI r)), (4, .int (nI 1)), (0, .ref 83), (1, .ref 6), (2, .int (nI q)), (3, .int (nI gl))], [], N)) (o := []) rfl trivial ?_
      rw [if_neg (show ¬ nI 1 = 0 by decide)]
      refine Wn.run (tab := tb_wy_leastBows) rfl 4 (c' := (46, [(6, .int (nI 0)), (4, .int (nI 0)), (5, .int (nI r)), (0, .ref 83), (1, .ref 6), (2, .int (nI q)), (3, .int (nI gl))], [], N)) (o := []) rfl trivial ?_
      refine Wn.lvp [0, 2, 1, 3, 4, 5, 6] (lv' := [(6, .int (nI 0)), (5, .int (nI r)), (4, .int (nI 0)), (0, .ref 83), (1, .ref 6), (2, .int (nI q)), (3, .int (nI gl))]) rfl ?_
      have cells : ∀ (m2 c : Nat) (b : Bool) (f : Nat → Nat) (N1 : Mm), 64 - c = m2 → c ≤ 64 → RI σ (okW σ q (σ (160 + q))) (σ (160 + q)) 0 (xB σ q) 1000 f0 f c 0 b → Fr [84] M N1 → (∀ e, e < 64 → N1.1 84 e = nI (f e)) → Wn (d + 4) 240 (PCb M 84 (LCo (EB σ (okW σ q (σ (160 + q)))) (σ (160 + q)) 0 (xB σ q) gl)) (46, [(6, .int (nI c)), (5, .int (nI r)), (4, .int (b2 (b = true))), (0, .ref 83), (1, .ref 6), (2, .int (nI q)), (3, .int (nI gl))], [], N1) := by
        intro m2
        induction m2 using Nat.strongRecOn with
        | _ m2 ih2 =>
          intro c b f N1 hm2 hc hI F1 hr1
          refine Wn.run (tab := tb_wy_leastBows) rfl 3 (c' := (if (nI 64) ≤ (nI c) then 86 else 53, [(6, .int (nI c)), (5, .int (nI r)), (4, .int (b2 (b = true))), (0, .ref 83), (1, .ref 6), (2, .int (nI q)), (3, .int (nI gl))], [], N1)) (o := []) rfl trivial ?_
          by_cases ce : 64 ≤ c
          · rw [if_pos ((n_le rfl rfl (by omega) (by omega)).mpr ce)]
            have ec : c = 64 := by omega
            subst ec
            have fi1 : ∀ e, f e ≤ 1000 := fun e => Nat.le_trans (hI.2.1 e) (fi e)
            refine Wn.run (tab := tb_wy_leastBows) rfl 2 (c' := (28, [(5, .int ((nI r) + (nI 1))), (6, .int (nI 64)), (4, .int (b2 (b = true))), (0, .ref 83), (1, .ref 6), (2, .int (nI q)), (3, .int (nI gl))], [], N1)) (o := []) rfl trivial ?_
            rw [nI_add]
            refine Wn.lvp [0, 2, 3, 4, 5, 6] (lv' := [(5, .int (nI (r + 1))), (4, .int (b2 (b = true))), (0, .ref 83), (1, .ref 6), (2, .int (nI q)), (3, .int (nI gl))]) rfl ?_
            cases b with
            | true => exact ih (64 - (r + 1)) (by omega) (r + 1) f N1 rfl (by omega) hI.1 fi1 (by have := hI.2.1 (σ (160 + q)); omega) (RR_up (xB_mono σ q) fi hI hR) F1 hr1
            | false =>
              have R64 := RR_no (xB_mono σ q) fi (by omega) hI 64
              show Wn _ 240 _ (28, [(5, .int (nI (r + 1))), (4, .int (nI 0)), (0, .ref 83), (1, .ref 6), (2, .int (nI q)), (3, .int (nI gl))], [], N1)
              refine Wn.run (tab := tb_wy_leastBows) rfl 3 (c' := (if (nI 64) ≤ (nI (r + 1)) then 92 else 35, [(5, .int (nI (r + 1))), (4, .int (nI 0)), (0, .ref 83), (1, .ref 6), (2, .int (nI q)), (3, .int (nI gl))], [], N1)) (o := []) rfl trivial ?_
              by_cases ce2 : 64 ≤ r + 1
              · rw [if_pos ((n_le rfl rfl (by omega) (by omega)).mpr ce2)]
                exact fin N1 f _ _ F1 hr1 fi1 hI.1 R64
              rw [if_neg (mt (n_le rfl rfl (by omega) (by omega)).mp ce2)]
              refine Wn.run (tab := tb_wy_leastBows) rfl 2 (c' := (if (nI 0) = 0 then 92 else 40, [(5, .int (nI (r + 1))), (4, .int (nI 0)), (0, .ref 83), (1, .ref 6), (2, .int (nI q)), (3, .int (nI gl))], [], N1)) (o := []) rfl trivial ?_
              rw [if_pos (show nI 0 = 0 by decide)]
              exact fin N1 f _ _ F1 hr1 fi1 hI.1 R64
          rw [if_neg (mt (n_le rfl rfl (by omega) (by omega)).mp ce)]
          have fc : f c ≤ 1000 := Nat.le_trans (hI.2.1 c) (fi c)
          have rc : N1.1 84 ((nI c)).toNatClampNeg = nI (f c) := by rw [nI_clamp (by omega)]; exact hr1 c (by omega)
          refine Wn.run (tab := tb_wy_leastBows) rfl 6 (c' := (if (N1.1 84 ((nI c)).toNatClampNeg) = (nI 1000) then 80 else 66, [(6, .int (nI c)), (5, .int (nI r)), (4, .int (b2 (b = true))), (0, .ref 83), (1, .ref 6), (2, .int (nI q)), (3, .int (nI gl))], [], N1)) (o := [shp 83 = (0, 7), aok shp 84 0 (nI c)]) rfl ⟨rfl, (ak1 (n := 64) rfl rfl rfl (by omega))⟩ ?_
          have z80 : ∀ (b2_ : Bool) (f2 : Nat → Nat) (N2 : Mm), RI σ (okW σ q (σ (160 + q))) (σ (160 + q)) 0 (xB σ q) 1000 f0 f2 (c + 1) 0 b2_ → Fr [84] M N2 → (∀ e, e < 64 → N2.1 84 e = nI (f2 e)) → Wn (d + 4) 240 (PCb M 84 (LCo (EB σ (okW σ q (σ (160 + q)))) (σ (160 + q)) 0 (xB σ q) gl)) (80, [(6, .int (nI c)), (5, .int (nI r)), (4, .int (b2 (b2_ = true))), (0, .ref 83), (1, .ref 6), (2, .int (nI q)), (3, .int (nI gl))], [], N2) := by
            intro b2_ f2 N2 h1 h2 h3
            refine Wn.run (tab := tb_wy_leastBows) rfl 2 (c' := (46, [(6, .int ((nI c) + (nI 1))), (5, .int (nI r)), (4, .int (b2 (b2_ = true))), (0, .ref 83), (1, .ref 6), (2, .int (nI q)), (3, .int (nI gl))], [], N2)) (o := []) rfl trivial ?_
            rw [nI_add]
            exact ih2 (64 - (c + 1)) (by omega) (c + 1) b2_ f2 N2 rfl (by omega) h1 h2 h3
          rw [rc]
          by_cases cf : f c < 1000
          rotate_left
          · rw [if_pos ((n_eq rfl rfl (by omega) (by omega)).mpr (by omega))]
            exact z80 b f N1 (RI_cell hI (Or.inr cf)) F1 hr1
          rw [if_neg (mt (n_eq rfl rfl (by omega) (by omega)).mp (by omega))]
          refine Wn.run (tab := tb_wy_leastBows) rfl 4 (c' := (71, [(6, .int (nI c)), (5, .int (nI r)), (4, .int (b2 (b = true))), (0, .ref 83), (1, .ref 6), (2, .int (nI q)), (3, .int (nI gl))], [.int (nI c), .int (nI q), .ref 6, .ref 83], N1)) (o := []) rfl trivial ?_
          refine Wn.callV (p := 83) (n := 4) (ix := 64) (ci := (7)) (PSb N1 84 (fun b9 f9 => RI σ (okW σ q (σ (160 + q))) (σ (160 + q)) 0 (xB σ q) 1000 f0 f9 c 4 (b || b9))) [.ref 6, .int (nI q), .int (nI c)] [] rfl rfl rfl rfl (Nat.le_of_ble_eq_true rfl) (Nat.le_of_ble_eq_true rfl) (c_wy_spreadBows _ N1 σ (fr_st F1 hS (by decide)) hB q c hq (by omega) hfl f0 f fi f00 b hI hr1 cf) ?_
          rintro _ N2 ⟨b9, f9, rfl, I9, r9, F9⟩
          show Wn _ 240 _ (74, [(6, .int (nI c)), (5, .int (nI r)), (4, .int (b2 (b = true))), (0, .ref 83), (1, .ref 6), (2, .int (nI q)), (3, .int (nI gl))], [.int (b2 (b9 = true))], N2)
          refine Wn.run (tab := tb_wy_leastBows) rfl 1 (c' := (if (b2 (b9 = true)) = 0 then 80 else 77, [(6, .int (nI c)), (5, .int (nI r)), (4, .int (b2 (b = true))), (0, .ref 83), (1, .ref 6), (2, .int (nI q)), (3, .int (nI gl))], [], N2)) (o := []) rfl trivial ?_
          have F29 : Fr [84] M N2 := fr_tr F1 F9 (by decide)
          cases b9 with
          | false =>
            rw [Bool.or_false] at I9
            rw [if_pos (b2_e0.mpr (by decide))]
            exact z80 b f9 N2 (RI_cell I9 (Or.inl rfl)) F29 r9
          | true =>
            rw [Bool.or_true] at I9
            rw [if_neg (b2_n0.mpr rfl)]
            refine Wn.run (tab := tb_wy_leastBows) rfl 2 (c' := (80, [(4, .int (nI 1)), (6, .int (nI c)), (5, .int (nI r)), (0, .ref 83), (1, .ref 6), (2, .int (nI q)), (3, .int (nI gl))], [], N2)) (o := []) rfl trivial ?_
            refine Wn.lvp [1, 2, 0, 3, 4, 5, 6] (lv' := [(6, .int (nI c)), (5, .int (nI r)), (4, .int (b2 (true = true))), (0, .ref 83), (1, .ref 6), (2, .int (nI q)), (3, .int (nI gl))]) rfl ?_
            exact z80 true f9 N2 (RI_cell I9 (Or.inl rfl)) F29 r9
      exact cells 64 0 false f0 N rfl (by omega) (RI_0 hs) FN hr
  exact main 64 0 _ M2 rfl (by omega) (f0B_snd hst) (fun e => f0B_le _ _ e) (if_pos rfl) (RR_0 (by unfold f0B; rw [if_pos rfl]; exact Nat.le_refl _)) F2 r2
theorem pI_n {σ : Nat → Nat} {p : Int32} (h : pI σ p) (h6 : σ 2 ≤ 6) : ∃ k, k < σ 2 ∧ p = nI k := by
  obtain ⟨k, hk, e, -⟩ := i32_nat (n := σ 2) h.1 h.2 (by omega)
  exact ⟨k, hk, e⟩
/-- one may set out -/
def cso (σ : Nat → Nat) (p x y : Int32) : Prop := pI σ p ∧ cI σ x y ∧ ¬ fal σ p.toNatClampNeg = true
set_option maxRecDepth 20000 in
theorem w_i_canSetOut (d : Nat) (M : Mm) (σ : Nat → Nat) (hS : StC M 6 σ) (hB : Bd σ) (p x y : Int32) (Q : Po) (hy : cso σ p x y → Q (some (.int (nI 1))) M) (hn : ¬ cso σ p x y → Q (some (.int (nI 0))) M) : Wn (d + 2) 18 Q (0, lv_args 0 [.ref 0, .int p, .int x, .int y], [], M) := by
  have b6 := Bd_2 hB
  have z47 : ¬ cso σ p x y → Wn (d + 2) 18 Q (47, [(0, .ref 0), (1, .int p), (2, .int x), (3, .int y)], [], M) := by
    intro h
    refine Wn.run (tab := tb_i_canSetOut) rfl 1 (c' := (48, [(0, .ref 0), (1, .int p), (2, .int x), (3, .int y)], [.int (nI 0)], M)) (o := []) rfl trivial ?_
    exact Wn.zret rfl (Or.inl rfl) (hn h)
  refine Wn.run (tab := tb_i_canSetOut) rfl 4 (c' := (8, [(0, .ref 0), (1, .int p), (2, .int x), (3, .int y)], [.int p, .ref 3], M)) (o := [shp 0 = (0, 9), shp 2 = (0, 8)]) rfl ⟨rfl, rfl⟩ ?_
  refine Wn.callV (p := 3) (n := 2) (ix := 133) (ci := (2)) (fun r0 M0 => r0 = some (.int (b2 (0 ≤ p.toInt ∧ p.toInt < (σ 2 : Int)))) ∧ M = M0) [.int p] [] rfl rfl rfl rfl (Nat.le_of_ble_eq_true rfl) (Nat.le_of_ble_eq_true rfl) (w_lk_isPerson _ M 3 σ hS.2.1 hB p _ ⟨rfl, rfl⟩) ?_
  rintro _ _ ⟨rfl, rfl⟩
  show Wn _ 18 _ (11, [(0, .ref 0), (1, .int p), (2, .int x), (3, .int y)], [.int (b2 (0 ≤ p.toInt ∧ p.toInt < (σ 2 : Int)))], M)
  refine Wn.run (tab := tb_i_canSetOut) rfl 1 (c' := (if (b2 (0 ≤ p.toInt ∧ p.toInt < (σ 2 : Int))) = 0 then 47 else 14, [(0, .ref 0), (1, .int p), (2, .int x), (3, .int y)], [], M)) (o := []) rfl trivial ?_
  by_cases hp : 0 ≤ p.toInt ∧ p.toInt < (σ 2 : Int)
  rotate_left
  · rw [if_pos (b2_e0.mpr hp)]
    exact z47 (fun h => hp h.1)
  rw [if_neg (b2_n0.mpr hp)]
  refine Wn.run (tab := tb_i_canSetOut) rfl 5 (c' := (23, [(0, .ref 0), (1, .int p), (2, .int x), (3, .int y)], [.int y, .int x, .ref 3], M)) (o := [shp 0 = (0, 9), shp 2 = (0, 8)]) rfl ⟨rfl, rfl⟩ ?_
  refine Wn.callV (p := 3) (n := 3) (ix := 173) (ci := (2)) (fun r0 M0 => r0 = some (.int (b2 (0 ≤ x.toInt ∧ x.toInt < (σ 0 : Int) ∧ 0 ≤ y.toInt ∧ y.toInt < (σ 1 : Int)))) ∧ M = M0) [.int x, .int y] [] rfl rfl rfl rfl (Nat.le_of_ble_eq_true rfl) (Nat.le_of_ble_eq_true rfl) (w_lk_isCell _ M 3 σ hS.2.1 hB x y _ ⟨rfl, rfl⟩) ?_
  rintro _ _ ⟨rfl, rfl⟩
  show Wn _ 18 _ (26, [(0, .ref 0), (1, .int p), (2, .int x), (3, .int y)], [.int (b2 (0 ≤ x.toInt ∧ x.toInt < (σ 0 : Int) ∧ 0 ≤ y.toInt ∧ y.toInt < (σ 1 : Int)))], M)
  refine Wn.run (tab := tb_i_canSetOut) rfl 1 (c' := (if (b2 (0 ≤ x.toInt ∧ x.toInt < (σ 0 : Int) ∧ 0 ≤ y.toInt ∧ y.toInt < (σ 1 : Int))) = 0 then 47 else 29, [(0, .ref 0), (1, .int p), (2, .int x), (3, .int y)], [], M)) (o := []) rfl trivial ?_
  by_cases hc : 0 ≤ x.toInt ∧ x.toInt < (σ 0 : Int) ∧ 0 ≤ y.toInt ∧ y.toInt < (σ 1 : Int)
  rotate_left
  · rw [if_pos (b2_e0.mpr hc)]
    exact z47 (fun h => hc h.2.1)
  rw [if_neg (b2_n0.mpr hc)]
  obtain ⟨k, hk, rfl⟩ : ∃ k, k < σ 2 ∧ p = nI k := pI_n hp (by omega)
  have ek : (nI k).toNatClampNeg = k := nI_clamp (by omega)
  unfold cso at hy hn z47
  rw [ek] at hy hn z47
  refine Wn.run (tab := tb_i_canSetOut) rfl 4 (c' := (37, [(0, .ref 0), (1, .int (nI k)), (2, .int x), (3, .int y)], [.int (nI k), .ref 6], M)) (o := [shp 0 = (0, 9), shp 2 = (0, 8)]) rfl ⟨rfl, rfl⟩ ?_
  refine Wn.callV (p := 6) (n := 2) (ix := 158) (ci := (5)) (fun r0 M0 => r0 = some (.int (b2 (fal σ k = true))) ∧ M = M0) [.int (nI k)] [] rfl rfl rfl rfl (Nat.le_of_ble_eq_true rfl) (Nat.le_of_ble_eq_true rfl) (w_st_isFallen _ M 6 σ hS hB k (by omega) _ ⟨rfl, rfl⟩) ?_
  rintro _ _ ⟨rfl, rfl⟩
  show Wn _ 18 _ (40, [(0, .ref 0), (1, .int (nI k)), (2, .int x), (3, .int y)], [.int (b2 (fal σ k = true))], M)
  refine Wn.run (tab := tb_i_canSetOut) rfl 1 (c' := (if ¬ (b2 (fal σ k = true)) = 0 then 47 else 43, [(0, .ref 0), (1, .int (nI k)), (2, .int x), (3, .int y)], [], M)) (o := []) rfl trivial ?_
  by_cases hf : fal σ k = true
  · rw [if_pos (b2_n0.mpr hf)]
    exact z47 (fun h => h.2.2 hf)
  rw [if_neg (fun e => e (b2_e0.mpr hf))]
  refine Wn.run (tab := tb_i_canSetOut) rfl 2 (c' := (48, [(0, .ref 0), (1, .int (nI k)), (2, .int x), (3, .int y)], [.int (nI 1)], M)) (o := []) rfl trivial ?_
  exact Wn.zret rfl (Or.inr rfl) (hy ⟨hp, hc, hf⟩)
theorem c_i_bowsX (d : Nat) (M : Mm) (σ : Nat → Nat) (hS : StC M 6 σ) (hB : Bd σ) (p x y : Int32) (hn : ¬ cso σ p x y) : Wn (d + 3) 20 (PN M (some (.int (-1)))) (0, lv_args 0 [.ref 0, .int p, .int x, .int y], [], M) := by
  refine Wn.run (tab := tb_i_bows) rfl 4 (c' := (4, [(0, .ref 0), (1, .int p), (2, .int x), (3, .int y)], [.int y, .int x, .int p, .ref 0], M)) (o := []) rfl trivial ?_
  refine Wn.callV (p := 0) (n := 4) (ix := 290) (ci := (9)) (fun r0 M0 => r0 = some (.int (nI 0)) ∧ M = M0) [.int p, .int x, .int y] [] rfl rfl rfl rfl (Nat.le_of_ble_eq_true rfl) (Nat.le_of_ble_eq_true rfl) (w_i_canSetOut _ M σ hS hB p x y _ (fun h => absurd h hn) (fun _ => ⟨rfl, rfl⟩)) ?_
  rintro _ _ ⟨rfl, rfl⟩
  show Wn _ 20 _ (7, [(0, .ref 0), (1, .int p), (2, .int x), (3, .int y)], [.int (nI 0)], M)
  refine Wn.run (tab := tb_i_bows) rfl 1 (c' := (if (nI 0) = 0 then 34 else 10, [(0, .ref 0), (1, .int p), (2, .int x), (3, .int y)], [], M)) (o := []) rfl trivial ?_
  rw [if_pos (show nI 0 = 0 by decide)]
  refine Wn.run (tab := tb_i_bows) rfl 1 (c' := (35, [(0, .ref 0), (1, .int p), (2, .int x), (3, .int y)], [.int (-1 : Int32)], M)) (o := []) rfl trivial ?_
  exact Wn.iret rfl ⟨rfl, rfl⟩
theorem c_i_firmX (d : Nat) (M : Mm) (σ : Nat → Nat) (hS : StC M 6 σ) (hB : Bd σ) (p x y : Int32) (hn : ¬ cso σ p x y) : Wn (d + 3) 21 (PN M (some (.int (-1)))) (0, lv_args 0 [.ref 0, .int p, .int x, .int y], [], M) := by
  refine Wn.run (tab := tb_i_firm) rfl 4 (c' := (4, [(0, .ref 0), (1, .int p), (2, .int x), (3, .int y)], [.int y, .int x, .int p, .ref 0], M)) (o := []) rfl trivial ?_
  refine Wn.callV (p := 0) (n := 4) (ix := 290) (ci := (9)) (fun r0 M0 => r0 = some (.int (nI 0)) ∧ M = M0) [.int p, .int x, .int y] [] rfl rfl rfl rfl (Nat.le_of_ble_eq_true rfl) (Nat.le_of_ble_eq_true rfl) (w_i_canSetOut _ M σ hS hB p x y _ (fun h => absurd h hn) (fun _ => ⟨rfl, rfl⟩)) ?_
  rintro _ _ ⟨rfl, rfl⟩
  show Wn _ 21 _ (7, [(0, .ref 0), (1, .int p), (2, .int x), (3, .int y)], [.int (nI 0)], M)
  refine Wn.run (tab := tb_i_firm) rfl 1 (c' := (if (nI 0) = 0 then 34 else 10, [(0, .ref 0), (1, .int p), (2, .int x), (3, .int y)], [], M)) (o := []) rfl trivial ?_
  rw [if_pos (show nI 0 = 0 by decide)]
  refine Wn.run (tab := tb_i_firm) rfl 1 (c' := (35, [(0, .ref 0), (1, .int p), (2, .int x), (3, .int y)], [.int (-1 : Int32)], M)) (o := []) rfl trivial ?_
  exact Wn.iret rfl ⟨rfl, rfl⟩
theorem c_i_wayX (d : Nat) (M : Mm) (σ : Nat → Nat) (hS : StC M 6 σ) (hB : Bd σ) (p x y : Int32) (hn : ¬ cso σ p x y) : Wn (d + 3) 17 (PN M (some (.int (-1)))) (0, lv_args 0 [.ref 0, .int p, .int x, .int y], [], M) := by
  refine Wn.run (tab := tb_i_way) rfl 4 (c' := (4, [(0, .ref 0), (1, .int p), (2, .int x), (3, .int y)], [.int y, .int x, .int p, .ref 0], M)) (o := []) rfl trivial ?_
  refine Wn.callV (p := 0) (n := 4) (ix := 290) (ci := (9)) (fun r0 M0 => r0 = some (.int (nI 0)) ∧ M = M0) [.int p, .int x, .int y] [] rfl rfl rfl rfl (Nat.le_of_ble_eq_true rfl) (Nat.le_of_ble_eq_true rfl) (w_i_canSetOut _ M σ hS hB p x y _ (fun h => absurd h hn) (fun _ => ⟨rfl, rfl⟩)) ?_
  rintro _ _ ⟨rfl, rfl⟩
  show Wn _ 17 _ (7, [(0, .ref 0), (1, .int p), (2, .int x), (3, .int y)], [.int (nI 0)], M)
  refine Wn.run (tab := tb_i_way) rfl 1 (c' := (if (nI 0) = 0 then 34 else 10, [(0, .ref 0), (1, .int p), (2, .int x), (3, .int y)], [], M)) (o := []) rfl trivial ?_
  rw [if_pos (show nI 0 = 0 by decide)]
  refine Wn.run (tab := tb_i_way) rfl 1 (c' := (35, [(0, .ref 0), (1, .int p), (2, .int x), (3, .int y)], [.int (-1 : Int32)], M)) (o := []) rfl trivial ?_
  exact Wn.iret rfl ⟨rfl, rfl⟩
theorem cso_n {σ : Nat → Nat} (hB : Bd σ) {q x y : Nat} (hq : q < σ 2) (hx : x < σ 0) (hy : y < σ 1) (hf : ¬ fal σ q = true) : cso σ (nI q) (nI x) (nI y) := by
  have b6 := Bd_2 hB
  have w9 := hB.2.1
  have h9 := hB.2.2.2.1
  refine ⟨?_, ?_, by rw [nI_clamp (by omega)]; exact hf⟩
  · unfold pI; rw [nI_toInt (by omega)]; omega
  · unfold cI; rw [nI_toInt (by omega), nI_toInt (by omega)]; omega
theorem c_i_bows (d : Nat) (M : Mm) (σ : Nat → Nat) (hS : StC M 6 σ) (hB : Bd σ) (q x y : Nat) (hq : q < σ 2) (hx : x < σ 0) (hy : y < σ 1) (hf : ¬ fal σ q = true) : Wn (d + 5) 20 (PCb M 84 (LCo (EB σ (okW σ q (σ (160 + q)))) (σ (160 + q)) 0 (xB σ q) (8 * y + x))) (0, lv_args 0 [.ref 0, .int (nI q), .int (nI x), .int (nI y)], [], M) := by
  have w9 := hB.2.1
  have h9 := hB.2.2.2.1
  refine Wn.run (tab := tb_i_bows) rfl 4 (c' := (4, [(0, .ref 0), (1, .int (nI q)), (2, .int (nI x)), (3, .int (nI y))], [.int (nI y), .int (nI x), .int (nI q), .ref 0], M)) (o := []) rfl trivial ?_
  refine Wn.callV (p := 0) (n := 4) (ix := 290) (ci := (9)) (fun r0 M0 => r0 = some (.int (nI 1)) ∧ M = M0) [.int (nI q), .int (nI x), .int (nI y)] [] rfl rfl rfl rfl (Nat.le_of_ble_eq_true rfl) (Nat.le_of_ble_eq_true rfl) (w_i_canSetOut _ M σ hS hB _ _ _ _ (fun _ => ⟨rfl, rfl⟩) (fun h => absurd (cso_n hB hq hx hy hf) h)) ?_
  rintro _ _ ⟨rfl, rfl⟩
  show Wn _ 20 _ (7, [(0, .ref 0), (1, .int (nI q)), (2, .int (nI x)), (3, .int (nI y))], [.int (nI 1)], M)
  refine Wn.run (tab := tb_i_bows) rfl 1 (c' := (if (nI 1) = 0 then 34 else 10, [(0, .ref 0), (1, .int (nI q)), (2, .int (nI x)), (3, .int (nI y))], [], M)) (o := []) rfl trivial ?_
  rw [if_neg (show ¬ nI 1 = 0 by decide)]
  refine Wn.run (tab := tb_i_bows) rfl 11 (c' := (28, [(0, .ref 0), (1, .int (nI q)), (2, .int (nI x)), (3, .int (nI y))], [.int (((nI 8) * (nI y)) + (nI x)), .int (nI q), .ref 6, .ref 83], M)) (o := [shp 0 = (0, 9), shp 0 = (0, 9), shp 2 = (0, 8)]) rfl ⟨rfl, rfl, rfl⟩ ?_
  rw [pk_mul, nI_add]
  refine Wn.callV (p := 83) (n := 4) (ix := 301) (ci := (7)) (PCb M 84 (LCo (EB σ (okW σ q (σ (160 + q)))) (σ (160 + q)) 0 (xB σ q) (8 * y + x))) [.ref 6, .int (nI q), .int (nI (8 * y + x))] [] rfl rfl rfl rfl (Nat.le_of_ble_eq_true rfl) (Nat.le_of_ble_eq_true rfl) (c_wy_leastBows _ M σ hS hB q _ hq (by omega) hf) ?_
  rintro _ M1 ⟨⟨o, ho, rfl⟩, F1⟩
  show Wn _ 20 _ (31, [(0, .ref 0), (1, .int (nI q)), (2, .int (nI x)), (3, .int (nI y))], [.int (oI o)], M1)
  refine Wn.run (tab := tb_i_bows) rfl 1 (c' := (35, [(0, .ref 0), (1, .int (nI q)), (2, .int (nI x)), (3, .int (nI y))], [.int (oI o)], M1)) (o := []) rfl trivial ?_
  exact Wn.iret rfl ⟨⟨o, ho, rfl⟩, F1⟩
