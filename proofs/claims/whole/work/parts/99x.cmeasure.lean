/-! Way, by the class: measured from the goal. -/
def PMz (M0 : Mm) (σ : Nat → Nat) (q gl : Nat) : Po := fun r0 M' => r0 = none ∧ Fr [84, 85] M0 M' ∧ ∃ f : Nat → Nat, (∀ e, e < 64 → M'.1 84 e = nI (f e)) ∧ (∀ e, f e ≤ 1000) ∧ HFW σ q gl 1000 f ∧ ∀ c, c < 64 → f c < 1000 → opW σ q c ∧ inL σ c
set_option maxRecDepth 20000 in
theorem c_wy_measureFrom (d : Nat) (M : Mm) (σ : Nat → Nat) (hS : StC M 6 σ) (hI : Inv σ) (q gl : Nat) (hq : q < σ 2) (hfl : ¬ fal σ q = true) (hgl : gl < 64) (hin : inL σ gl) (ho : opW σ q gl) : Wn (d + 4) 237 (PMz M σ q gl) (0, lv_args 0 [.ref 83, .ref 6, .int (nI q), .int (nI gl)], [], M) := by
  have hB := hI.1
  have b6 := Bd_2 hB
  have fq := Bd_q hB q (by omega)
  refine Wn.run (tab := tb_wy_measureFrom) rfl 3 (c' := (7, [(0, .ref 83), (1, .ref 6), (2, .int (nI q)), (3, .int (nI gl))], [.int (nI 1000), .ref 84], M)) (o := [shp 83 = (0, 7)]) rfl rfl ?_
  refine Wn.callS (n := 2) (ix := 49) (PF 84 64 (nI 1000) M) [.ref 84, .int (nI 1000)] [] rfl rfl rfl (Nat.le_of_ble_eq_true rfl) (Nat.le_of_ble_eq_true rfl) (c_ja_fill _ M 84 64 (nI 1000) rfl (by decide)) ?_
  rintro _ M1 ⟨rfl, r1, f1⟩
  show Wn _ 237 _ (10, [(0, .ref 83), (1, .ref 6), (2, .int (nI q)), (3, .int (nI gl))], [], M1)
  refine Wn.run (tab := tb_wy_measureFrom) rfl 5 (c' := (17, [(0, .ref 83), (1, .ref 6), (2, .int (nI q)), (3, .int (nI gl))], [], (mI M1 84 (upd (M1.1 84) ((nI gl)).toNatClampNeg (nI 0))))) (o := [shp 83 = (0, 7), aok shp 84 0 (nI gl)]) rfl ⟨rfl, (ak1 (n := 64) rfl rfl rfl (by omega))⟩ ?_
  rw [show ((nI gl)).toNatClampNeg = gl from nI_clamp (by omega)]
  generalize hM2 : (mI M1 84 (upd (M1.1 84) gl (nI 0))) = M2
  have f2 := fr_1I hM2
  have F2 : Fr [84, 85] M M2 := fr_tr (fr_up f1 (by decide)) f2 (by decide)
  have r2 : ∀ e, e < 64 → M2.1 84 e = nI (f0B gl 1000 e) := by
    intro e he
    rw [mI_eq hM2]
    unfold f0B
    by_cases k : e = gl
    · rw [if_pos k, k, pk_us]
    · rw [if_neg k, pk_un k]; exact r1 e he
  refine Wn.run (tab := tb_wy_measureFrom) rfl 5 (c' := (24, [(0, .ref 83), (1, .ref 6), (2, .int (nI q)), (3, .int (nI gl))], [], (mI M2 85 (upd (M2.1 85) 0 (nI gl))))) (o := [shp 83 = (0, 7), aok shp 85 0 (nI 0)]) rfl ⟨rfl, ⟨rfl, vp_in_nI (by decide) (by decide)⟩⟩ ?_
  generalize hM3 : (mI M2 85 (upd (M2.1 85) 0 (nI gl))) = M3
  have f3 := fr_1I hM3
  have F3 : Fr [84, 85] M M3 := fr_tr F2 f3 (by decide)
  have r3 : ∀ e, e < 64 → M3.1 84 e = nI (f0B gl 1000 e) := by rw [(f3 84 (by decide)).1]; exact r2
  have q3 : ∀ e, e < 1 → M3.1 85 e = nI gl := by
    intro e he
    rw [mI_eq hM3, show e = 0 by omega, pk_us]
  refine Wn.run (tab := tb_wy_measureFrom) rfl 4 (c' := (30, [(5, .int (nI 0)), (4, .int (nI 1)), (0, .ref 83), (1, .ref 6), (2, .int (nI q)), (3, .int (nI gl))], [], M3)) (o := []) rfl trivial ?_
  have main : ∀ (m k nF : Nat) (qu f : Nat → Nat) (N : Mm), 64 - k = m → BQ σ q gl k nF 0 qu f → Fr [84, 85] M N → (∀ e, e < 64 → N.1 84 e = nI (f e)) → (∀ e, e < nF → N.1 85 e = nI (qu e)) → Wn (d + 4) 237 (PMz M σ q gl) (30, [(5, .int (nI k)), (4, .int (nI nF)), (0, .ref 83), (1, .ref 6), (2, .int (nI q)), (3, .int (nI gl))], [], N) := by
    intro m
    induction m using Nat.strongRecOn with
    | _ m ih =>
      intro k nF qu f N hm hQ FN hr hq5
      have hQ1 := hQ.1
      refine Wn.run (tab := tb_wy_measureFrom) rfl 3 (c' := (if (nI nF) ≤ (nI k) then 159 else 37, [(5, .int (nI k)), (4, .int (nI nF)), (0, .ref 83), (1, .ref 6), (2, .int (nI q)), (3, .int (nI gl))], [], N)) (o := []) rfl trivial ?_
      have z159 : ¬ k < nF → Wn (d + 4) 237 (PMz M σ q gl) (159, [(5, .int (nI k)), (4, .int (nI nF)), (0, .ref 83), (1, .ref 6), (2, .int (nI q)), (3, .int (nI gl))], [], N) := by
        intro h
        obtain ⟨e1, e2⟩ := BQ_end hB hQ h hgl
        exact Wn.vret rfl ⟨rfl, FN, f, hr, hQ.2.2.2.2.1, e1, e2⟩
      by_cases ce : nF ≤ k
      · rw [if_pos ((n_le rfl rfl (by omega) (by omega)).mpr ce)]
        exact z159 (by omega)
      rw [if_neg (mt (n_le rfl rfl (by omega) (by omega)).mp ce)]
      refine Wn.run (tab := tb_wy_measureFrom) rfl 3 (c' := (if (nI 64) ≤ (nI k) then 159 else 44, [(5, .int (nI k)), (4, .int (nI nF)), (0, .ref 83), (1, .ref 6), (2, .int (nI q)), (3, .int (nI gl))], [], N)) (o := []) rfl trivial ?_
      rw [if_neg (mt (n_le (a := 64) rfl rfl (by omega) (by omega)).mp (show ¬ 64 ≤ k by omega))]
      refine Wn.run (tab := tb_wy_measureFrom) rfl 2 (c' := (47, [(6, .int (nI 0)), (5, .int (nI k)), (4, .int (nI nF)), (0, .ref 83), (1, .ref 6), (2, .int (nI q)), (3, .int (nI gl))], [], N)) (o := []) rfl trivial ?_
      have sides : ∀ (m2 s nF : Nat) (qu f : Nat → Nat) (N : Mm), 4 - s = m2 → s ≤ 4 → k < nF → BQ σ q gl k nF s qu f → Fr [84, 85] M N → (∀ e, e < 64 → N.1 84 e = nI (f e)) → (∀ e, e < nF → N.1 85 e = nI (qu e)) → Wn (d + 4) 237 (PMz M σ q gl) (47, [(6, .int (nI s)), (5, .int (nI k)), (4, .int (nI nF)), (0, .ref 83), (1, .ref 6), (2, .int (nI q)), (3, .int (nI gl))], [], N) := by
        intro m2
        induction m2 using Nat.strongRecOn with
        | _ m2 ih2 =>
          intro s nF qu f N hm2 hs4 hkF hQ FN hr hq5
          have hQ1 := hQ.1
          have SN : StC N 6 σ := fr_st FN hS (by decide)
          have hQk := hQ.2.1 k hkF
          have rqk : N.1 85 ((nI k)).toNatClampNeg = nI (qu k) := by rw [nI_clamp (by omega)]; exact hq5 k hkF
          refine Wn.run (tab := tb_wy_measureFrom) rfl 3 (c' := (if (nI 4) ≤ (nI s) then 153 else 53, [(6, .int (nI s)), (5, .int (nI k)), (4, .int (nI nF)), (0, .ref 83), (1, .ref 6), (2, .int (nI q)), (3, .int (nI gl))], [], N)) (o := []) rfl trivial ?_
          by_cases cs : 4 ≤ s
          · rw [if_pos ((n_le rfl rfl (by omega) (by omega)).mpr cs)]
            have es : s = 4 := by omega
            subst es
            refine Wn.run (tab := tb_wy_measureFrom) rfl 2 (c' := (30, [(5, .int ((nI k) + (nI 1))), (6, .int (nI 4)), (4, .int (nI nF)), (0, .ref 83), (1, .ref 6), (2, .int (nI q)), (3, .int (nI gl))], [], N)) (o := []) rfl trivial ?_
            rw [nI_add]
            refine Wn.lvp [0, 2, 3, 4, 5, 6] (lv' := [(5, .int (nI (k + 1))), (4, .int (nI nF)), (0, .ref 83), (1, .ref 6), (2, .int (nI q)), (3, .int (nI gl))]) rfl ?_
            exact ih (64 - (k + 1)) (by omega) (k + 1) nF qu f N rfl (BQ_next hQ hkF) FN hr hq5
          rw [if_neg (mt (n_le rfl rfl (by omega) (by omega)).mp cs)]
          have z147 : (∀ b, bes σ (qu k) s = some b → opW σ q b → f b ≤ f (qu k) + 1) → Wn (d + 4) 237 (PMz M σ q gl) (147, [(6, .int (nI s)), (5, .int (nI k)), (4, .int (nI nF)), (0, .ref 83), (1, .ref 6), (2, .int (nI q)), (3, .int (nI gl))], [], N) := by
            intro h
            refine Wn.run (tab := tb_wy_measureFrom) rfl 2 (c' := (47, [(6, .int ((nI s) + (nI 1))), (5, .int (nI k)), (4, .int (nI nF)), (0, .ref 83), (1, .ref 6), (2, .int (nI q)), (3, .int (nI gl))], [], N)) (o := []) rfl trivial ?_
            rw [nI_add]
            exact ih2 (4 - (s + 1)) (by omega) (s + 1) nF qu f N rfl (by omega) hkF (BQ_skip hQ h) FN hr hq5
          refine Wn.run (tab := tb_wy_measureFrom) rfl 7 (c' := (66, [(6, .int (nI s)), (5, .int (nI k)), (4, .int (nI nF)), (0, .ref 83), (1, .ref 6), (2, .int (nI q)), (3, .int (nI gl))], [.int (nI s), .int (N.1 85 ((nI k)).toNatClampNeg), .ref (lkp 6)], N)) (o := [shp 6 = (0, 5), shp 83 = (0, 7), aok shp 85 0 (nI k)]) rfl ⟨rfl, rfl, (ak1 (n := 64) rfl rfl rfl (by omega))⟩ ?_
          rw [rqk]
          refine Wn.callV (p := 3) (n := 3) (ix := 55) (ci := (2)) (fun r0 M1 => r0 = some (.int (oI (bes σ (qu k) s))) ∧ N = M1) [.int (nI (qu k)), .int (nI s)] [] rfl rfl rfl rfl (Nat.le_of_ble_eq_true rfl) (Nat.le_of_ble_eq_true rfl) (w_lk_beside _ N 3 σ SN.2.1 hB (qu k) s hQk.1 (by omega) _ ⟨rfl, rfl⟩) ?_
          rintro _ _ ⟨rfl, rfl⟩
          show Wn _ 237 _ (69, [(6, .int (nI s)), (5, .int (nI k)), (4, .int (nI nF)), (0, .ref 83), (1, .ref 6), (2, .int (nI q)), (3, .int (nI gl))], [.int (oI (bes σ (qu k) s))], N)
          refine Wn.run (tab := tb_wy_measureFrom) rfl 4 (c' := (if (oI (bes σ (qu k) s)) = (-1 : Int32) then 147 else 77, [(7, .int (oI (bes σ (qu k) s))), (6, .int (nI s)), (5, .int (nI k)), (4, .int (nI nF)), (0, .ref 83), (1, .ref 6), (2, .int (nI q)), (3, .int (nI gl))], [], N)) (o := []) rfl trivial ?_
          cases hb : bes σ (qu k) s with
          | none =>
            rw [hb] at z147
            rw [if_pos (show oI none = (-1 : Int32) from rfl)]
            refine Wn.lvp [1, 2, 3, 4, 5, 6, 7] (lv' := [(6, .int (nI s)), (5, .int (nI k)), (4, .int (nI nF)), (0, .ref 83), (1, .ref 6), (2, .int (nI q)), (3, .int (nI gl))]) rfl ?_
            exact z147 (fun b e => by cases e)
          | some b =>
            rw [hb] at z147
            have k64 := bes_lt hB hQk.1 hb
            have ki := bes_in hB hQk.1 hb
            have ik := Bd_c hB b k64
            have fb := hQ.2.2.2.2.1 b
            have rb : N.1 84 ((nI b)).toNatClampNeg = nI (f b) := by rw [nI_clamp (by omega)]; exact hr b k64
            have rk : N.1 84 ((nI (qu k))).toNatClampNeg = nI (f (qu k)) := by rw [nI_clamp (by omega)]; exact hr (qu k) hQk.1
            have ri : N.1 7 ((nI b)).toNatClampNeg = nI (σ (96 + b)) := by rw [nI_clamp (by omega)]; exact SN.2.2.2.1 b k64 ki
            rw [if_neg (show ¬ oI (some b) = (-1 : Int32) from nI_m1 (by omega))]
            show Wn _ 237 _ (77, [(7, .int (nI b)), (6, .int (nI s)), (5, .int (nI k)), (4, .int (nI nF)), (0, .ref 83), (1, .ref 6), (2, .int (nI q)), (3, .int (nI gl))], [], N)
            refine Wn.run (tab := tb_wy_measureFrom) rfl 3 (c' := (if (nI 64) ≤ (nI nF) then 147 else 84, [(7, .int (nI b)), (6, .int (nI s)), (5, .int (nI k)), (4, .int (nI nF)), (0, .ref 83), (1, .ref 6), (2, .int (nI q)), (3, .int (nI gl))], [], N)) (o := []) rfl trivial ?_
            by_cases cF : 64 ≤ nF
            · rw [if_pos ((n_le rfl rfl (by omega) (by omega)).mpr cF)]
              have eF : nF = 64 := by omega
              subst eF
              refine Wn.lvp [1, 2, 3, 4, 5, 6, 7] (lv' := [(6, .int (nI s)), (5, .int (nI k)), (4, .int (nI 64)), (0, .ref 83), (1, .ref 6), (2, .int (nI q)), (3, .int (nI gl))]) rfl ?_
              refine z147 (fun b2 e _ => ?_)
              cases e
              exact BQ_have hQ hkF k64 (BQ_full hQ k64)
            rw [if_neg (mt (n_le rfl rfl (by omega) (by omega)).mp cF)]
            refine Wn.run (tab := tb_wy_measureFrom) rfl 6 (c' := (if ¬ (N.1 84 ((nI b)).toNatClampNeg) = (nI 1000) then 147 else 97, [(7, .int (nI b)), (6, .int (nI s)), (5, .int (nI k)), (4, .int (nI nF)), (0, .ref 83), (1, .ref 6), (2, .int (nI q)), (3, .int (nI gl))], [], N)) (o := [shp 83 = (0, 7), aok shp 84 0 (nI b)]) rfl ⟨rfl, (ak1 (n := 64) rfl rfl rfl (by omega))⟩ ?_
            rw [rb]
            by_cases cf : f b = 1000
            rotate_left
            · rw [if_pos (mt (n_eq rfl rfl (by omega) (by omega)).mp cf)]
              refine Wn.lvp [1, 2, 3, 4, 5, 6, 7] (lv' := [(6, .int (nI s)), (5, .int (nI k)), (4, .int (nI nF)), (0, .ref 83), (1, .ref 6), (2, .int (nI q)), (3, .int (nI gl))]) rfl ?_
              refine z147 (fun b2 e _ => ?_)
              cases e
              exact BQ_have hQ hkF k64 (by omega)
            rw [if_neg (fun e => e ((n_eq rfl rfl (by omega) (by omega)).mpr cf))]
            refine Wn.run (tab := tb_wy_measureFrom) rfl 3 (c' := (101, [(7, .int (nI b)), (6, .int (nI s)), (5, .int (nI k)), (4, .int (nI nF)), (0, .ref 83), (1, .ref 6), (2, .int (nI q)), (3, .int (nI gl))], [.int (nI b), .int (nI q), .ref 6], N)) (o := []) rfl trivial ?_
            have X30 : ldX σ b (nI q) (σ 2) + σ (78 + q) < 2 ^ 30 := by have := ldX_le σ b (nI q) (fun z hz => (Bd_q hB z hz).2.1) (σ 2) (by omega); omega
            refine Wn.callV (p := 6) (n := 3) (ix := 30) (ci := (5)) (fun r0 M1 => r0 = some (.int (nI (ldX σ b (nI q) (σ 2) + σ (78 + q)))) ∧ N = M1) [.int (nI q), .int (nI b)] [] rfl rfl rfl rfl (Nat.le_of_ble_eq_true rfl) (Nat.le_of_ble_eq_true rfl) (w_st_loadWith _ N 6 σ SN hB q b hq (by omega) _ ⟨rfl, rfl⟩) ?_
            rintro _ _ ⟨rfl, rfl⟩
            show Wn _ 237 _ (104, [(7, .int (nI b)), (6, .int (nI s)), (5, .int (nI k)), (4, .int (nI nF)), (0, .ref 83), (1, .ref 6), (2, .int (nI q)), (3, .int (nI gl))], [.int (nI (ldX σ b (nI q) (σ 2) + σ (78 + q)))], N)
            refine Wn.run (tab := tb_wy_measureFrom) rfl 5 (c' := (if (N.1 7 ((nI b)).toNatClampNeg) < (nI (ldX σ b (nI q) (σ 2) + σ (78 + q))) then 147 else 114, [(7, .int (nI b)), (6, .int (nI s)), (5, .int (nI k)), (4, .int (nI nF)), (0, .ref 83), (1, .ref 6), (2, .int (nI q)), (3, .int (nI gl))], [], N)) (o := [shp 6 = (0, 5), aok shp 7 0 (nI b)]) rfl ⟨rfl, (ak1 (n := 64) rfl rfl rfl (by omega))⟩ ?_
            rw [ri]
            by_cases cx : σ (96 + b) < ldX σ b (nI q) (σ 2) + σ (78 + q)
            · rw [if_pos ((n_lt rfl rfl (by omega) (by omega)).mpr cx)]
              refine Wn.lvp [1, 2, 3, 4, 5, 6, 7] (lv' := [(6, .int (nI s)), (5, .int (nI k)), (4, .int (nI nF)), (0, .ref 83), (1, .ref 6), (2, .int (nI q)), (3, .int (nI gl))]) rfl ?_
              refine z147 (fun b2 e ho2 => ?_)
              cases e
              have := (opX hI hq hfl).mpr ho2
              omega
            rw [if_neg (mt (n_lt rfl rfl (by omega) (by omega)).mp cx)]
            have ob := (opX hI hq hfl).mp (show ldX σ b (nI q) (σ 2) + σ (78 + q) ≤ σ (96 + b) by omega)
            refine Wn.run (tab := tb_wy_measureFrom) rfl 13 (c' := (135, [(7, .int (nI b)), (6, .int (nI s)), (5, .int (nI k)), (4, .int (nI nF)), (0, .ref 83), (1, .ref 6), (2, .int (nI q)), (3, .int (nI gl))], [], (mI N 84 (upd (N.1 84) ((nI b)).toNatClampNeg ((N.1 84 ((N.1 85 ((nI k)).toNatClampNeg)).toNatClampNeg) + (nI 1)))))) (o := [shp 83 = (0, 7), shp 83 = (0, 7), shp 83 = (0, 7), aok shp 85 0 (nI k), aok shp 84 0 (N.1 85 ((nI k)).toNatClampNeg), aok shp 84 0 (nI b)]) rfl ⟨rfl, rfl, rfl, (ak1 (n := 64) rfl rfl rfl (by omega)), (ak1 (n := 64) rfl rfl rqk (by omega)), (ak1 (n := 64) rfl rfl rfl (by omega))⟩ ?_
            rw [rqk, rk, show ((nI b)).toNatClampNeg = b from nI_clamp (by omega), nI_add]
            generalize hN3 : (mI N 84 (upd (N.1 84) b (nI (f (qu k) + 1)))) = N3
            have r3 : ∀ e, e < 64 → N3.1 84 e = nI (su f b (f (qu k) + 1) e) := rwo_up hN3 hr
            have f3 := fr_1I hN3
            refine Wn.run (tab := tb_wy_measureFrom) rfl 5 (c' := (144, [(7, .int (nI b)), (6, .int (nI s)), (5, .int (nI k)), (4, .int (nI nF)), (0, .ref 83), (1, .ref 6), (2, .int (nI q)), (3, .int (nI gl))], [], (mI N3 85 (upd (N3.1 85) ((nI nF)).toNatClampNeg (nI b))))) (o := [shp 83 = (0, 7), aok shp 85 0 (nI nF)]) rfl ⟨rfl, (ak1 (n := 64) rfl rfl rfl (by omega))⟩ ?_
            rw [show ((nI nF)).toNatClampNeg = nF from nI_clamp (by omega)]
            generalize hN4 : (mI N3 85 (upd (N3.1 85) nF (nI b))) = N4
            have f4 := fr_1I hN4
            have r4 : ∀ e, e < 64 → N4.1 84 e = nI (su f b (f (qu k) + 1) e) := by rw [(f4 84 (by decide)).1]; exact r3
            have q4 : ∀ e, e < nF + 1 → N4.1 85 e = nI (su qu nF b e) := by
              intro e he
              rw [mI_eq hN4, (f3 85 (by decide)).1]
              unfold su
              by_cases ez : e = nF
              · rw [if_pos ez, ez, pk_us]
              · rw [if_neg ez, pk_un ez]; exact hq5 e (by omega)
            refine Wn.run (tab := tb_wy_measureFrom) rfl 3 (c' := (47, [(6, .int ((nI s) + (nI 1))), (4, .int ((nI nF) + (nI 1))), (7, .int (nI b)), (5, .int (nI k)), (0, .ref 83), (1, .ref 6), (2, .int (nI q)), (3, .int (nI gl))], [], N4)) (o := []) rfl trivial ?_
            rw [nI_add, nI_add]
            refine Wn.lvp [0, 3, 1, 4, 5, 6, 7] (lv' := [(6, .int (nI (s + 1))), (5, .int (nI k)), (4, .int (nI (nF + 1))), (0, .ref 83), (1, .ref 6), (2, .int (nI q)), (3, .int (nI gl))]) rfl ?_
            exact ih2 (4 - (s + 1)) (by omega) (s + 1) (nF + 1) _ _ N4 rfl (by omega) (by omega) (BQ_take hB hQ hkF (by omega) hgl hb ob (by omega)) (fr_tr (fr_tr FN f3 (by decide)) f4 (by decide)) r4 q4
      exact sides 4 0 nF qu f N rfl (by omega) (by omega) hQ FN hr hq5
  exact main 64 0 1 _ _ M3 rfl (BQ_0 hgl hin ho) F3 r3 q3
