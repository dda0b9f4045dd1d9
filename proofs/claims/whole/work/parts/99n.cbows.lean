/-! Bows, by the class. -/
theorem mxz : ∀ a, a < 10 → ∀ b, b < 10 → (if (nI 0) < ((nI a) - (nI b)) then ((nI a) - (nI b)) else (nI 0)) = nI (a - b) := by decide +kernel
def PSb (M0 : Mm) (p : Nat) (P : Bool → (Nat → Nat) → Prop) : Po := fun r0 M' => ∃ b f, r0 = some (.int (b2 (b = true))) ∧ P b f ∧ (∀ e, e < 64 → M'.1 p e = nI (f e)) ∧ Fr [p] M0 M'
set_option maxRecDepth 20000 in
theorem c_wy_spreadBows (d : Nat) (M : Mm) (σ : Nat → Nat) (hS : StC M 6 σ) (hB : Bd σ) (q c : Nat) (hq : q < σ 2) (hc : c < 64) (hfl : ¬ fal σ q = true) (f0 f : Nat → Nat) (fi : ∀ e, f0 e ≤ 1000) (f00 : f0 (σ (160 + q)) = 0) (b0 : Bool) (hI : RI σ (okW σ q (σ (160 + q))) (σ (160 + q)) 0 (xB σ q) 1000 f0 f c 0 b0) (hr : ∀ e, e < 64 → M.1 84 e = nI (f e)) (hfc : f c < 1000) : Wn (d + 3) 241 (PSb M 84 (fun b f => RI σ (okW σ q (σ (160 + q))) (σ (160 + q)) 0 (xB σ q) 1000 f0 f c 4 (b0 || b))) (0, lv_args 0 [.ref 83, .ref 6, .int (nI q), .int (nI c)], [], M) := by
  have b6 := Bd_2 hB
  have fq := Bd_q hB q (by omega)
  have hst : σ (160 + q) < 64 := by omega
  refine Wn.run (tab := tb_wy_spreadBows) rfl 4 (c' := (6, [(5, .int (nI 0)), (4, .int (nI 0)), (0, .ref 83), (1, .ref 6), (2, .int (nI q)), (3, .int (nI c))], [], M)) (o := []) rfl trivial ?_
  have loop : ∀ (m s : Nat) (b : Bool) (f : Nat → Nat) (N : Mm), 4 - s = m → s ≤ 4 → RI σ (okW σ q (σ (160 + q))) (σ (160 + q)) 0 (xB σ q) 1000 f0 f c s (b0 || b) → (∀ e, e < 64 → N.1 84 e = nI (f e)) → f c < 1000 → Fr [84] M N → Wn (d + 3) 241 (PSb M 84 (fun b f => RI σ (okW σ q (σ (160 + q))) (σ (160 + q)) 0 (xB σ q) 1000 f0 f c 4 (b0 || b))) (6, [(5, .int (nI s)), (4, .int (b2 (b = true))), (0, .ref 83), (1, .ref 6), (2, .int (nI q)), (3, .int (nI c))], [], N) := by
    intro m
    induction m using Nat.strongRecOn with
    | _ m ih =>
      intro s b f N hm hs hI hr hfc FN
      have SN : StC N 6 σ := fr_st FN hS (by decide)
      have rc : N.1 84 ((nI c)).toNatClampNeg = nI (f c) := by rw [nI_clamp (by omega)]; exact hr c hc
      refine Wn.run (tab := tb_wy_spreadBows) rfl 3 (c' := (if (nI 4) ≤ (nI s) then 105 else 12, [(5, .int (nI s)), (4, .int (b2 (b = true))), (0, .ref 83), (1, .ref 6), (2, .int (nI q)), (3, .int (nI c))], [], N)) (o := []) rfl trivial ?_
      by_cases ce : 4 ≤ s
      · rw [if_pos ((n_le rfl rfl (by omega) (by omega)).mpr ce)]
        have es : s = 4 := by omega
        subst es
        refine Wn.run (tab := tb_wy_spreadBows) rfl 1 (c' := (107, [(5, .int (nI 4)), (4, .int (b2 (b = true))), (0, .ref 83), (1, .ref 6), (2, .int (nI q)), (3, .int (nI c))], [.int (b2 (b = true))], N)) (o := []) rfl trivial ?_
        exact Wn.zret rfl (by cases b <;> first | exact Or.inl rfl | exact Or.inr rfl) ⟨b, f, rfl, hI, hr, FN⟩
      rw [if_neg (mt (n_le rfl rfl (by omega) (by omega)).mp ce)]
      have z99 : (∀ k, bes σ c s = some k → okW σ q (σ (160 + q)) k → f0 c < 1000 → f k ≤ xB σ q (f0 c) k) → Wn (d + 3) 241 (PSb M 84 (fun b f => RI σ (okW σ q (σ (160 + q))) (σ (160 + q)) 0 (xB σ q) 1000 f0 f c 4 (b0 || b))) (99, [(5, .int (nI s)), (4, .int (b2 (b = true))), (0, .ref 83), (1, .ref 6), (2, .int (nI q)), (3, .int (nI c))], [], N) := by
        intro h
        refine Wn.run (tab := tb_wy_spreadBows) rfl 2 (c' := (6, [(5, .int ((nI s) + (nI 1))), (4, .int (b2 (b = true))), (0, .ref 83), (1, .ref 6), (2, .int (nI q)), (3, .int (nI c))], [], N)) (o := []) rfl trivial ?_
        rw [nI_add]
        exact ih (4 - (s + 1)) (by omega) (s + 1) b f N rfl (by omega) (RI_skip hI h) hr hfc FN
      refine Wn.run (tab := tb_wy_spreadBows) rfl 4 (c' := (19, [(5, .int (nI s)), (4, .int (b2 (b = true))), (0, .ref 83), (1, .ref 6), (2, .int (nI q)), (3, .int (nI c))], [.int (nI s), .int (nI c), .ref (lkp 6)], N)) (o := [shp 6 = (0, 5)]) rfl rfl ?_
      refine Wn.callV (p := 3) (n := 3) (ix := 55) (ci := (2)) (fun r0 M1 => r0 = some (.int (oI (bes σ c s))) ∧ N = M1) [.int (nI c), .int (nI s)] [] rfl rfl rfl rfl (Nat.le_of_ble_eq_true rfl) (Nat.le_of_ble_eq_true rfl) (w_lk_beside _ N 3 σ SN.2.1 hB c s hc (by omega) _ ⟨rfl, rfl⟩) ?_
      rintro _ _ ⟨rfl, rfl⟩
      show Wn _ 241 _ (22, [(5, .int (nI s)), (4, .int (b2 (b = true))), (0, .ref 83), (1, .ref 6), (2, .int (nI q)), (3, .int (nI c))], [.int (oI (bes σ c s))], N)
      refine Wn.run (tab := tb_wy_spreadBows) rfl 4 (c' := (if ¬ (oI (bes σ c s)) = (-1 : Int32) then 36 else 30, [(6, .int (oI (bes σ c s))), (5, .int (nI s)), (4, .int (b2 (b = true))), (0, .ref 83), (1, .ref 6), (2, .int (nI q)), (3, .int (nI c))], [], N)) (o := []) rfl trivial ?_
      cases hb : bes σ c s with
      | none =>
        rw [hb] at z99
        rw [if_neg (show ¬ ¬ oI none = (-1 : Int32) from fun e => e rfl)]
        refine Wn.run (tab := tb_wy_spreadBows) rfl 3 (c' := (45, [(7, .int (nI 1000)), (6, .int (oI none)), (5, .int (nI s)), (4, .int (b2 (b = true))), (0, .ref 83), (1, .ref 6), (2, .int (nI q)), (3, .int (nI c))], [], N)) (o := []) rfl trivial ?_
        refine Wn.run (tab := tb_wy_spreadBows) rfl 3 (c' := (if (nI 9) < (nI 1000) then 99 else 52, [(7, .int (nI 1000)), (6, .int (oI none)), (5, .int (nI s)), (4, .int (b2 (b = true))), (0, .ref 83), (1, .ref 6), (2, .int (nI q)), (3, .int (nI c))], [], N)) (o := []) rfl trivial ?_
        rw [if_pos (show nI 9 < nI 1000 by decide)]
        refine Wn.lvp [2, 3, 4, 5, 6, 7] (lv' := [(5, .int (nI s)), (4, .int (b2 (b = true))), (0, .ref 83), (1, .ref 6), (2, .int (nI q)), (3, .int (nI c))]) rfl ?_
        exact z99 (fun k e => by cases e)
      | some k =>
        rw [hb] at z99
        have k64 := bes_lt hB hc hb
        have ki := bes_in hB hc hb
        have kc := bes_ne hB hc hb
        have ik := Bd_c hB k k64
        have fk : f k ≤ 1000 := Nat.le_trans (hI.2.1 k) (fi k)
        have rk : N.1 84 ((nI k)).toNatClampNeg = nI (f k) := by rw [nI_clamp (by omega)]; exact hr k k64
        have ri : N.1 7 ((nI k)).toNatClampNeg = nI (σ (96 + k)) := by rw [nI_clamp (by omega)]; exact SN.2.2.2.1 k k64 ki
        rw [if_pos (show ¬ oI (some k) = (-1 : Int32) from nI_m1 (by omega))]
        have lX : ∃ X, ldX σ k (nI q) (σ 2) + σ (78 + q) = X ∧ X < 2 ^ 30 ∧ (¬ k = σ (160 + q) → X = ld σ k + σ (78 + q)) := by
          refine ⟨_, rfl, ?_, fun hk => ?_⟩
          · have := ldX_le σ k (nI q) (fun z hz => (Bd_q hB z hz).2.1) (σ 2) (by omega)
            omega
          · rw [ldX_off (by unfold onC; intro e; rw [Bool.and_eq_true] at e; exact hk (of_decide_eq_true e.1).symm) (by omega) _ (by omega)]; rfl
        obtain ⟨X, eX, X30, hX⟩ := lX
        show Wn _ 241 _ (36, [(6, .int (nI k)), (5, .int (nI s)), (4, .int (b2 (b = true))), (0, .ref 83), (1, .ref 6), (2, .int (nI q)), (3, .int (nI c))], [], N)
        refine Wn.run (tab := tb_wy_spreadBows) rfl 3 (c' := (40, [(6, .int (nI k)), (5, .int (nI s)), (4, .int (b2 (b = true))), (0, .ref 83), (1, .ref 6), (2, .int (nI q)), (3, .int (nI c))], [.int (nI k), .int (nI q), .ref 6], N)) (o := []) rfl trivial ?_
        refine Wn.callV (p := 6) (n := 3) (ix := 30) (ci := (5)) (fun r0 M1 => r0 = some (.int (nI X)) ∧ N = M1) [.int (nI q), .int (nI k)] [] rfl rfl rfl rfl (Nat.le_of_ble_eq_true rfl) (Nat.le_of_ble_eq_true rfl) (w_st_loadWith _ N 6 σ SN hB q k hq (by omega) _ ⟨by rw [eX], rfl⟩) ?_
        rintro _ _ ⟨rfl, rfl⟩
        show Wn _ 241 _ (43, [(6, .int (nI k)), (5, .int (nI s)), (4, .int (b2 (b = true))), (0, .ref 83), (1, .ref 6), (2, .int (nI q)), (3, .int (nI c))], [.int (nI X)], N)
        refine Wn.run (tab := tb_wy_spreadBows) rfl 4 (c' := (if (nI 9) < (nI X) then 99 else 52, [(7, .int (nI X)), (6, .int (nI k)), (5, .int (nI s)), (4, .int (b2 (b = true))), (0, .ref 83), (1, .ref 6), (2, .int (nI q)), (3, .int (nI c))], [], N)) (o := []) rfl trivial ?_
        by_cases cx : 9 < X
        · rw [if_pos ((n_lt rfl rfl (by omega) (by omega)).mpr cx)]
          refine Wn.lvp [2, 3, 4, 5, 6, 7] (lv' := [(5, .int (nI s)), (4, .int (b2 (b = true))), (0, .ref 83), (1, .ref 6), (2, .int (nI q)), (3, .int (nI c))]) rfl ?_
          refine z99 (fun k2 e ho => ?_)
          cases e
          have := hX ho.2
          have := ho.1
          omega
        rw [if_neg (mt (n_lt rfl rfl (by omega) (by omega)).mp cx)]
        refine Wn.run (tab := tb_wy_spreadBows) rfl 14 (c' := (75, [(8, .int ((N.1 84 ((nI c)).toNatClampNeg) + (if (nI 0) < ((nI X) - (N.1 7 ((nI k)).toNatClampNeg)) then ((nI X) - (N.1 7 ((nI k)).toNatClampNeg)) else (nI 0)))), (7, .int (nI X)), (6, .int (nI k)), (5, .int (nI s)), (4, .int (b2 (b = true))), (0, .ref 83), (1, .ref 6), (2, .int (nI q)), (3, .int (nI c))], [], N)) (o := [shp 83 = (0, 7), aok shp 84 0 (nI c), shp 6 = (0, 5), aok shp 7 0 (nI k), ct [.int (N.1 84 ((nI c)).toNatClampNeg)] ≤ 8]) rfl ⟨rfl, (ak1 (n := 64) rfl rfl rfl (by omega)), rfl, (ak1 (n := 64) rfl rfl rfl (by omega)), (Nat.le_of_ble_eq_true rfl)⟩ ?_
        rw [rc, ri, mxz X (by omega) _ (by omega), nI_add]
        refine Wn.run (tab := tb_wy_spreadBows) rfl 6 (c' := (if (N.1 84 ((nI k)).toNatClampNeg) ≤ (nI (f c + (X - σ (96 + k)))) then 99 else 87, [(8, .int (nI (f c + (X - σ (96 + k))))), (7, .int (nI X)), (6, .int (nI k)), (5, .int (nI s)), (4, .int (b2 (b = true))), (0, .ref 83), (1, .ref 6), (2, .int (nI q)), (3, .int (nI c))], [], N)) (o := [shp 83 = (0, 7), aok shp 84 0 (nI k)]) rfl ⟨rfl, (ak1 (n := 64) rfl rfl rfl (by omega))⟩ ?_
        rw [rk]
        by_cases cw : f k ≤ f c + (X - σ (96 + k))
        · rw [if_pos ((n_le rfl rfl (by omega) (by omega)).mpr cw)]
          refine Wn.lvp [3, 4, 5, 6, 7, 8] (lv' := [(5, .int (nI s)), (4, .int (b2 (b = true))), (0, .ref 83), (1, .ref 6), (2, .int (nI q)), (3, .int (nI c))]) rfl ?_
          refine z99 (fun k2 e ho _ => ?_)
          cases e
          have h1 := hX ho.2
          have a := (xB_mono σ q).1 _ _ k (hI.2.1 c)
          have a2 : xB σ q (f c) k = f c + (ld σ k + σ (78 + q) - σ (96 + k)) := rfl
          rw [h1] at cw
          omega
        rw [if_neg (mt (n_le rfl rfl (by omega) (by omega)).mp cw)]
        have kst : ¬ k = σ (160 + q) := fun e => by rw [e] at cw; have := hI.2.1 (σ (160 + q)); omega
        have h1 := hX kst
        refine Wn.run (tab := tb_wy_spreadBows) rfl 5 (c' := (96, [(8, .int (nI (f c + (X - σ (96 + k))))), (7, .int (nI X)), (6, .int (nI k)), (5, .int (nI s)), (4, .int (b2 (b = true))), (0, .ref 83), (1, .ref 6), (2, .int (nI q)), (3, .int (nI c))], [], (mI N 84 (upd (N.1 84) ((nI k)).toNatClampNeg (nI (f c + (X - σ (96 + k)))))))) (o := [shp 83 = (0, 7), aok shp 84 0 (nI k)]) rfl ⟨rfl, (ak1 (n := 64) rfl rfl rfl (by omega))⟩ ?_
        rw [show ((nI k)).toNatClampNeg = k from nI_clamp (by omega)]
        generalize hN3 : (mI N 84 (upd (N.1 84) k (nI (f c + (X - σ (96 + k)))))) = N3
        have r3 : ∀ e, e < 64 → N3.1 84 e = nI (su f k (xB σ q (f c) k) e) := rwo_up (v := xB σ q (f c) k) (by rw [← hN3, h1]; rfl) hr
        have f3 := fr_1I hN3
        refine Wn.run (tab := tb_wy_spreadBows) rfl 4 (c' := (6, [(5, .int ((nI s) + (nI 1))), (4, .int (nI 1)), (8, .int (nI (f c + (X - σ (96 + k))))), (7, .int (nI X)), (6, .int (nI k)), (0, .ref 83), (1, .ref 6), (2, .int (nI q)), (3, .int (nI c))], [], N3)) (o := []) rfl trivial ?_
        rw [nI_add]
        refine Wn.lvp [0, 1, 5, 6, 7, 8] (lv' := [(5, .int (nI (s + 1))), (4, .int (b2 (true = true))), (0, .ref 83), (1, .ref 6), (2, .int (nI q)), (3, .int (nI c))]) rfl ?_
        have a2 : xB σ q (f c) k = f c + (ld σ k + σ (78 + q) - σ (96 + k)) := rfl
        refine ih (4 - (s + 1)) (by omega) (s + 1) true _ N3 rfl (by omega) (by rw [Bool.or_true]; exact RI_take (xB_mono σ q) hI hc (by omega) k64 hb ⟨by omega, kst⟩ hfc (by rw [a2, ← h1]; omega)) r3 ?_ (fr_tr FN f3 (by decide))
        show (if c = k then _ else f c) < 1000
        rw [if_neg (fun e => kc e.symm)]
        exact hfc
  exact loop 4 0 false f M rfl (by omega) (by rw [Bool.or_false]; exact hI) hr hfc (fr_rf _ _)
