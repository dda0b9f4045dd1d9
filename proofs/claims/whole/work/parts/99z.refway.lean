/-! Way, by the reference. -/
theorem HF_m {σ : Nat → Nat} {q gl : Nat} {f : Nat → Nat} (hgl : gl < 64) (hs : Snd (EW σ (opW σ q)) gl 0 x1 f 1000000) (hR : RR (EW σ (opW σ q)) gl 0 x1 f 64) : HFW σ q gl 1000000 f := fun c hc ho => LCo_EC ho (LCo_of x1_mono hgl (fun c k h => h.2.1) hs (fun n w hn hw => hR n w (by omega) hw) (fun n w hn _ => by rw [cst_x1]; omega) c hc)
set_option maxRecDepth 20000 in
theorem c_m_way (d : Nat) (M : Mm) (g : Nat → Int32) (hg : M.1 114 = g) (σ : Nat → Nat) (hM : Ms M σ) (q x y : Nat) (hq : q < σ 2) (hx : x < σ 0) (hy : y < σ 1) (hf : ¬ fal σ q = true) : Wn (d + 7) 109 (PWy M σ q (8 * y + x) [114, 123] [114, 123, 126] 114 30 126 (upd g 0 (nI 0))) (0, lv_args 0 [.ref 114, .int (nI q), .int (nI x), .int (nI y)], [], M) := by
  have b6 := Bd_2 hM.2
  have w9 := hM.2.2.1
  have h9 := hM.2.2.2.2.1
  have fq := Bd_q hM.2 q (by omega)
  have hst : σ (160 + q) < 64 := by omega
  refine Wn.run (tab := tb_m_way) rfl 3 (c' := (5, [(0, .ref 114), (1, .int (nI q)), (2, .int (nI x)), (3, .int (nI y))], [], (mI M 114 (upd (M.1 114) 0 (nI 0))))) (o := [shp 114 = (0, 10)]) rfl rfl ?_
  rw [hg]
  generalize hM0 : (mI M 114 (upd g 0 (nI 0))) = M0
  have f0 := fr_1I hM0
  have g0 : M0.1 114 = upd g 0 (nI 0) := mI_eq hM0
  have hMs : Ms M0 σ := Ms_fr f0 (by decide) hM
  have F0 : Fr [114, 123] M M0 := fr_up f0 (by decide)
  refine Wn.run (tab := tb_m_way) rfl 2 (c' := (7, [(0, .ref 114), (1, .int (nI q)), (2, .int (nI x)), (3, .int (nI y))], [.int (nI q), .ref 114], M0)) (o := []) rfl trivial ?_
  refine Wn.callV (p := 114) (n := 2) (ix := 290) (ci := (10)) (fun r0 M1 => r0 = some (.int (nI 1)) ∧ M0 = M1) [.int (nI q)] [] rfl rfl rfl rfl (Nat.le_of_ble_eq_true rfl) (Nat.le_of_ble_eq_true rfl) (w_m_isPersonT _ q hq M0 σ hMs _ ⟨rfl, rfl⟩) ?_
  rintro _ _ ⟨rfl, rfl⟩
  show Wn _ 109 _ (10, [(0, .ref 114), (1, .int (nI q)), (2, .int (nI x)), (3, .int (nI y))], [.int (nI 1)], M0)
  refine Wn.run (tab := tb_m_way) rfl 1 (c' := (if (nI 1) = 0 then 30 else 13, [(0, .ref 114), (1, .int (nI q)), (2, .int (nI x)), (3, .int (nI y))], [], M0)) (o := []) rfl trivial ?_
  rw [if_neg (show ¬ nI 1 = 0 by decide)]
  refine Wn.run (tab := tb_m_way) rfl 3 (c' := (16, [(0, .ref 114), (1, .int (nI q)), (2, .int (nI x)), (3, .int (nI y))], [.int (nI y), .int (nI x), .ref 114], M0)) (o := []) rfl trivial ?_
  refine Wn.callV (p := 114) (n := 3) (ix := 266) (ci := (10)) (fun r0 M1 => r0 = some (.int (b2 (x < σ 0 ∧ y < σ 1))) ∧ M0 = M1) [.int (nI x), .int (nI y)] [] rfl rfl rfl rfl (Nat.le_of_ble_eq_true rfl) (Nat.le_of_ble_eq_true rfl) (w_m_isCellN _ _ _ (by omega) (by omega) M0 σ hMs _ ⟨rfl, rfl⟩) ?_
  rintro _ _ ⟨rfl, rfl⟩
  show Wn _ 109 _ (19, [(0, .ref 114), (1, .int (nI q)), (2, .int (nI x)), (3, .int (nI y))], [.int (b2 (x < σ 0 ∧ y < σ 1))], M0)
  refine Wn.run (tab := tb_m_way) rfl 1 (c' := (if (b2 (x < σ 0 ∧ y < σ 1)) = 0 then 30 else 22, [(0, .ref 114), (1, .int (nI q)), (2, .int (nI x)), (3, .int (nI y))], [], M0)) (o := []) rfl trivial ?_
  rw [if_neg (b2_n0.mpr ⟨hx, hy⟩)]
  refine Wn.run (tab := tb_m_way) rfl 2 (c' := (24, [(0, .ref 114), (1, .int (nI q)), (2, .int (nI x)), (3, .int (nI y))], [.int (nI q), .ref 114], M0)) (o := []) rfl trivial ?_
  refine Wn.callV (p := 114) (n := 2) (ix := 260) (ci := (10)) (fun r0 M1 => r0 = some (.int (b2 (fal σ q = true))) ∧ M0 = M1) [.int (nI q)] [] rfl rfl rfl rfl (Nat.le_of_ble_eq_true rfl) (Nat.le_of_ble_eq_true rfl) (w_m_hasFallen _ q (by omega) M0 σ hMs _ ⟨rfl, rfl⟩) ?_
  rintro _ _ ⟨rfl, rfl⟩
  show Wn _ 109 _ (27, [(0, .ref 114), (1, .int (nI q)), (2, .int (nI x)), (3, .int (nI y))], [.int (b2 (fal σ q = true))], M0)
  refine Wn.run (tab := tb_m_way) rfl 1 (c' := (if (b2 (fal σ q = true)) = 0 then 32 else 30, [(0, .ref 114), (1, .int (nI q)), (2, .int (nI x)), (3, .int (nI y))], [], M0)) (o := []) rfl trivial ?_
  rw [if_pos (b2_e0.mpr hf)]
  refine Wn.run (tab := tb_m_way) rfl 7 (c' := (40, [(0, .ref 114), (1, .int (nI q)), (2, .int (nI x)), (3, .int (nI y))], [.int (((nI 8) * (nI y)) + (nI x)), .int (nI q), .ref 114], M0)) (o := []) rfl trivial ?_
  rw [pk_mul, nI_add]
  have hgl : 8 * y + x < 64 := by omega
  refine Wn.callV (p := 114) (n := 3) (ix := 343) (ci := (10)) (PLs M0 σ q (8 * y + x)) [.int (nI q), .int (nI (8 * y + x))] [] rfl rfl rfl rfl (Nat.le_of_ble_eq_true rfl) (Nat.le_of_ble_eq_true rfl) (c_m_laysSteps _ M0 σ hMs q (8 * y + x) hq hgl) ?_
  rintro _ M1 ⟨rfl, F1, f, hr, fi, hno, hyes⟩
  have F1' : Fr [114, 123] M M1 := fr_tr F0 F1 (by decide)
  have g1 : M1.1 114 = upd g 0 (nI 0) := by rw [(F1 114 (by decide)).1]; exact g0
  have hM1 : Ms M1 σ := Ms_fr F1 (by decide) hMs
  have fs := fi (σ (160 + q))
  show Wn _ 109 _ (43, [(0, .ref 114), (1, .int (nI q)), (2, .int (nI x)), (3, .int (nI y))], [], M1)
  refine Wn.run (tab := tb_m_way) rfl 7 (c' := (55, [(4, .int (M1.1 116 (((nI 160) + (nI q))).toNatClampNeg)), (0, .ref 114), (1, .int (nI q)), (2, .int (nI x)), (3, .int (nI y))], [], M1)) (o := [shp 114 = (0, 10), aok shp 116 0 ((nI 160) + (nI q))]) rfl ⟨rfl, (ak1 (n := 359) rfl rfl (nI_add 160 q) (by omega))⟩ ?_
  rw [show M1.1 116 (((nI 160) + (nI q))).toNatClampNeg = nI (σ (160 + q)) from by rw [nI_add, nI_clamp (by omega)]; exact hM1.1 _ (by omega)]
  refine Wn.run (tab := tb_m_way) rfl 5 (c' := (64, [(5, .int (M1.1 123 ((nI (σ (160 + q)))).toNatClampNeg)), (4, .int (nI (σ (160 + q)))), (0, .ref 114), (1, .int (nI q)), (2, .int (nI x)), (3, .int (nI y))], [], M1)) (o := [shp 114 = (0, 10), aok shp 123 0 (nI (σ (160 + q)))]) rfl ⟨rfl, (ak1 (n := 64) rfl rfl rfl (by omega))⟩ ?_
  rw [show M1.1 123 ((nI (σ (160 + q)))).toNatClampNeg = nI (f (σ (160 + q))) from by rw [nI_clamp (by omega)]; exact hr _ hst]
  refine Wn.run (tab := tb_m_way) rfl 3 (c' := (if (nI (f (σ (160 + q)))) < (nI 1000000) then 74 else 72, [(5, .int (nI (f (σ (160 + q))))), (4, .int (nI (σ (160 + q)))), (0, .ref 114), (1, .int (nI q)), (2, .int (nI x)), (3, .int (nI y))], [], M1)) (o := []) rfl trivial ?_
  by_cases cn : f (σ (160 + q)) < 1000000
  rotate_left
  · rw [if_neg (mt (n_lt rfl rfl (by omega) (by omega)).mp cn)]
    refine Wn.run (tab := tb_m_way) rfl 1 (c' := (73, [(5, .int (nI (f (σ (160 + q))))), (4, .int (nI (σ (160 + q)))), (0, .ref 114), (1, .int (nI q)), (2, .int (nI x)), (3, .int (nI y))], [.int (-1 : Int32)], M1)) (o := []) rfl trivial ?_
    refine Wn.iret rfl ⟨none, ⟨fun _ => rfl, fun ho => ?_⟩, rfl, fun _ => ⟨F1', g1⟩, fun n e => (by cases e)⟩
    obtain ⟨hs, hR, _⟩ := hyes ho
    have := HF_m hgl hs hR (σ (160 + q)) hst (Or.inl rfl)
    unfold ouN at this
    rw [if_neg cn] at this
    exact this
  rw [if_pos ((n_lt rfl rfl (by omega) (by omega)).mpr cn)]
  have ho : opW σ q (8 * y + x) := by
    apply Classical.byContradiction
    intro h
    have e := hno h (σ (160 + q))
    unfold f0B at e
    rw [if_neg (fun e2 => h (Or.inl e2.symm))] at e
    omega
  obtain ⟨hs, hR, _⟩ := hyes ho
  have hF := HF_m hgl hs hR
  obtain ⟨n, hn⟩ : ∃ n, f (σ (160 + q)) = n := ⟨_, rfl⟩
  have hd : DWW σ q (8 * y + x) (σ (160 + q)) n := (HF_D hF hst (Or.inl rfl) (by omega)).mpr hn
  have n64 := DWW_64 hgl hd
  have oo := hF (σ (160 + q)) hst (Or.inl rfl)
  unfold ouN at oo
  rw [if_pos cn, hn] at oo
  rw [hn]
  refine Wn.run (tab := tb_m_way) rfl 3 (c' := (80, [(5, .int (nI n)), (4, .int (nI (σ (160 + q)))), (0, .ref 114), (1, .int (nI q)), (2, .int (nI x)), (3, .int (nI y))], [], (mI M1 114 (upd (M1.1 114) 30 (nI n))))) (o := [shp 114 = (0, 10)]) rfl rfl ?_
  rw [g1]
  generalize hM2 : (mI M1 114 (upd (upd g 0 (nI 0)) 30 (nI n))) = M2
  have f2 := fr_1I hM2
  have F2 : Fr [114, 123, 126] M M2 := fr_tr (fr_up F1' (by decide)) f2 (by decide)
  have g2 : M2.1 114 = upd (upd g 0 (nI 0)) 30 (nI n) := mI_eq hM2
  have r2 : ∀ e, e < 64 → M2.1 123 e = nI (f e) := by rw [(f2 123 (by decide)).1]; exact hr
  refine Wn.run (tab := tb_m_way) rfl 2 (c' := (83, [(6, .int (nI 0)), (5, .int (nI n)), (4, .int (nI (σ (160 + q)))), (0, .ref 114), (1, .int (nI q)), (2, .int (nI x)), (3, .int (nI y))], [], M2)) (o := []) rfl trivial ?_
  have main : ∀ (m i : Nat) (u w : Nat → Nat) (N : Mm), n - i = m → i ≤ n → SdP σ q (8 * y + x) n i u w → Fr [114, 123, 126] M N → N.1 114 = upd (upd g 0 (nI 0)) 30 (nI n) → (∀ e, e < 64 → N.1 123 e = nI (f e)) → (∀ e, e < i → N.1 126 e = nI (u e)) → Wn (d + 7) 109 (PWy M σ q (8 * y + x) [114, 123] [114, 123, 126] 114 30 126 (upd g 0 (nI 0))) (83, [(6, .int (nI i)), (5, .int (nI n)), (4, .int (nI (w i))), (0, .ref 114), (1, .int (nI q)), (2, .int (nI x)), (3, .int (nI y))], [], N) := by
    intro m
    induction m using Nat.strongRecOn with
    | _ m ih =>
      intro i u w N hm hi hP FN gN hrN hu
      have w64 := hP.2.2.2
      have hMN : Ms N σ := Ms_fr FN (by decide) hM
      refine Wn.run (tab := tb_m_way) rfl 3 (c' := (if (nI n) ≤ (nI i) then 174 else 90, [(6, .int (nI i)), (5, .int (nI n)), (4, .int (nI (w i))), (0, .ref 114), (1, .int (nI q)), (2, .int (nI x)), (3, .int (nI y))], [], N)) (o := []) rfl trivial ?_
      by_cases ce : n ≤ i
      · rw [if_pos ((n_le rfl rfl (by omega) (by omega)).mpr ce)]
        have ei : i = n := by omega
        subst ei
        refine Wn.run (tab := tb_m_way) rfl 1 (c' := (176, [(6, .int (nI i)), (5, .int (nI i)), (4, .int (nI (w i))), (0, .ref 114), (1, .int (nI q)), (2, .int (nI x)), (3, .int (nI y))], [.int (nI i)], N)) (o := []) rfl trivial ?_
        refine Wn.iret rfl ⟨some i, ⟨fun h => absurd ho h, fun _ => oo⟩, rfl, fun e => (by cases e), fun n2 e => ?_⟩
        cases e
        exact ⟨n64, FN, gN, u, w, SdP_end hP, hu⟩
      rw [if_neg (mt (n_le rfl rfl (by omega) (by omega)).mp ce)]
      obtain ⟨v, hv⟩ : ∃ v, v + 1 = n - i := ⟨n - i - 1, by omega⟩
      have hdw : DWW σ q (8 * y + x) (w i) (v + 1) := by rw [hv]; exact hP.2.2.1
      have ev : n - 1 - i = v := by omega
      obtain ⟨_, win, z, hz, k, hb, k64, hk, hmn⟩ := way_first hdw
      have fk : f k = v := (HF_D hF k64 hk.1 (by omega)).mp hk
      refine Wn.run (tab := tb_m_way) rfl 2 (c' := (93, [(7, .int (nI 0)), (6, .int (nI i)), (5, .int (nI n)), (4, .int (nI (w i))), (0, .ref 114), (1, .int (nI q)), (2, .int (nI x)), (3, .int (nI y))], [], N)) (o := []) rfl trivial ?_
      have sides : ∀ (m2 s : Nat), z - s = m2 → s ≤ z → Wn (d + 7) 109 (PWy M σ q (8 * y + x) [114, 123] [114, 123, 126] 114 30 126 (upd g 0 (nI 0))) (93, [(7, .int (nI s)), (6, .int (nI i)), (5, .int (nI n)), (4, .int (nI (w i))), (0, .ref 114), (1, .int (nI q)), (2, .int (nI x)), (3, .int (nI y))], [], N) := by
        intro m2
        induction m2 using Nat.strongRecOn with
        | _ m2 ih2 =>
          intro s hm2 hs4
          have z143 : s < z → Wn (d + 7) 109 (PWy M σ q (8 * y + x) [114, 123] [114, 123, 126] 114 30 126 (upd g 0 (nI 0))) (143, [(7, .int (nI s)), (6, .int (nI i)), (5, .int (nI n)), (4, .int (nI (w i))), (0, .ref 114), (1, .int (nI q)), (2, .int (nI x)), (3, .int (nI y))], [], N) := by
            intro h
            refine Wn.run (tab := tb_m_way) rfl 2 (c' := (93, [(7, .int ((nI s) + (nI 1))), (6, .int (nI i)), (5, .int (nI n)), (4, .int (nI (w i))), (0, .ref 114), (1, .int (nI q)), (2, .int (nI x)), (3, .int (nI y))], [], N)) (o := []) rfl trivial ?_
            rw [nI_add]
            exact ih2 (z - (s + 1)) (by omega) (s + 1) rfl (by omega)
          refine Wn.run (tab := tb_m_way) rfl 3 (c' := (98, [(7, .int (nI s)), (6, .int (nI i)), (5, .int (nI n)), (4, .int (nI (w i))), (0, .ref 114), (1, .int (nI q)), (2, .int (nI x)), (3, .int (nI y))], [.int (nI s), .int (nI (w i)), .ref 114], N)) (o := []) rfl trivial ?_
          refine Wn.callV (p := 114) (n := 3) (ix := 281) (ci := (10)) (fun r0 M1 => r0 = some (.int (oI (bes σ (w i) s))) ∧ N = M1) [.int (nI (w i)), .int (nI s)] [] rfl rfl rfl rfl (Nat.le_of_ble_eq_true rfl) (Nat.le_of_ble_eq_true rfl) (w_m_beside _ (w i) s (by omega) (by omega) N σ hMN _ ⟨rfl, rfl⟩) ?_
          rintro _ _ ⟨rfl, rfl⟩
          show Wn _ 109 _ (101, [(7, .int (nI s)), (6, .int (nI i)), (5, .int (nI n)), (4, .int (nI (w i))), (0, .ref 114), (1, .int (nI q)), (2, .int (nI x)), (3, .int (nI y))], [.int (oI (bes σ (w i) s))], N)
          refine Wn.run (tab := tb_m_way) rfl 1 (c' := (if (oI (bes σ (w i) s)) < 0 then 143 else 104, [(7, .int (nI s)), (6, .int (nI i)), (5, .int (nI n)), (4, .int (nI (w i))), (0, .ref 114), (1, .int (nI q)), (2, .int (nI x)), (3, .int (nI y))], [], N)) (o := []) rfl trivial ?_
          cases hb2 : bes σ (w i) s with
          | none =>
            rw [if_pos (show oI none < 0 by decide)]
            exact z143 (by
              by_cases e : s = z
              · rw [e, hb] at hb2; cases hb2
              · omega)
          | some b =>
            have b64 := bes_lt hM.2 w64 hb2
            have rb : N.1 123 ((nI b)).toNatClampNeg = nI (f b) := by rw [nI_clamp (by omega)]; exact hrN b b64
            have fb := fi b
            rw [if_neg (show ¬ oI (some b) < 0 from mt (n_lt (x := nI b) rfl nI_0.symm (by omega) (by omega)).mp (Nat.not_lt_zero _))]
            refine Wn.run (tab := tb_m_way) rfl 5 (c' := (111, [(7, .int (nI s)), (6, .int (nI i)), (5, .int (nI n)), (4, .int (nI (w i))), (0, .ref 114), (1, .int (nI q)), (2, .int (nI x)), (3, .int (nI y))], [.int (nI s), .int (nI (w i)), .ref 114, .int (nI q), .ref 114], N)) (o := []) rfl trivial ?_
            refine Wn.callV (p := 114) (n := 3) (ix := 281) (ci := (10)) (fun r0 M1 => r0 = some (.int (nI b)) ∧ N = M1) [.int (nI (w i)), .int (nI s)] [.int (nI q), .ref 114] rfl rfl rfl rfl (Nat.le_of_ble_eq_true rfl) (Nat.le_of_ble_eq_true rfl) (w_m_beside _ (w i) s (by omega) (by omega) N σ hMN _ ⟨by rw [hb2]; rfl, rfl⟩) ?_
            rintro _ _ ⟨rfl, rfl⟩
            show Wn _ 109 _ (114, [(7, .int (nI s)), (6, .int (nI i)), (5, .int (nI n)), (4, .int (nI (w i))), (0, .ref 114), (1, .int (nI q)), (2, .int (nI x)), (3, .int (nI y))], [.int (nI b), .int (nI q), .ref 114], N)
            refine Wn.callV (p := 114) (n := 3) (ix := 340) (ci := (10)) (fun r0 M1 => r0 = some (.int (b2 (b = σ (160 + q) ∨ ld σ b + σ (78 + q) ≤ σ (96 + b)))) ∧ N = M1) [.int (nI q), .int (nI b)] [] rfl rfl rfl rfl (Nat.le_of_ble_eq_true rfl) (Nat.le_of_ble_eq_true rfl) (w_m_isOpen _ q b (by omega) b64 N σ hMN _ ⟨rfl, rfl⟩) ?_
            rintro _ _ ⟨rfl, rfl⟩
            show Wn _ 109 _ (117, [(7, .int (nI s)), (6, .int (nI i)), (5, .int (nI n)), (4, .int (nI (w i))), (0, .ref 114), (1, .int (nI q)), (2, .int (nI x)), (3, .int (nI y))], [.int (b2 (b = σ (160 + q) ∨ ld σ b + σ (78 + q) ≤ σ (96 + b)))], N)
            refine Wn.run (tab := tb_m_way) rfl 1 (c' := (if (b2 (b = σ (160 + q) ∨ ld σ b + σ (78 + q) ≤ σ (96 + b))) = 0 then 143 else 120, [(7, .int (nI s)), (6, .int (nI i)), (5, .int (nI n)), (4, .int (nI (w i))), (0, .ref 114), (1, .int (nI q)), (2, .int (nI x)), (3, .int (nI y))], [], N)) (o := []) rfl trivial ?_
            have esz : s = z → b = k := fun e => by rw [e, hb] at hb2; cases hb2; rfl
            by_cases cb : (b = σ (160 + q) ∨ ld σ b + σ (78 + q) ≤ σ (96 + b))
            rotate_left
            · rw [if_pos (b2_e0.mpr cb)]
              exact z143 (by
                by_cases e : s = z
                · rw [esz e] at cb; exact absurd hk.1 cb
                · omega)
            rw [if_neg (b2_n0.mpr cb)]
            refine Wn.run (tab := tb_m_way) rfl 5 (c' := (129, [(7, .int (nI s)), (6, .int (nI i)), (5, .int (nI n)), (4, .int (nI (w i))), (0, .ref 114), (1, .int (nI q)), (2, .int (nI x)), (3, .int (nI y))], [.int (nI s), .int (nI (w i)), .ref 114, .ref 123], N)) (o := [shp 114 = (0, 10)]) rfl rfl ?_
            refine Wn.callV (p := 114) (n := 3) (ix := 281) (ci := (10)) (fun r0 M1 => r0 = some (.int (nI b)) ∧ N = M1) [.int (nI (w i)), .int (nI s)] [.ref 123] rfl rfl rfl rfl (Nat.le_of_ble_eq_true rfl) (Nat.le_of_ble_eq_true rfl) (w_m_beside _ (w i) s (by omega) (by omega) N σ hMN _ ⟨by rw [hb2]; rfl, rfl⟩) ?_
            rintro _ _ ⟨rfl, rfl⟩
            show Wn _ 109 _ (132, [(7, .int (nI s)), (6, .int (nI i)), (5, .int (nI n)), (4, .int (nI (w i))), (0, .ref 114), (1, .int (nI q)), (2, .int (nI x)), (3, .int (nI y))], [.int (nI b), .ref 123], N)
            refine Wn.run (tab := tb_m_way) rfl 7 (c' := (if (N.1 123 ((nI b)).toNatClampNeg) = (((nI n) - (nI 1)) - (nI i)) then 149 else 143, [(7, .int (nI s)), (6, .int (nI i)), (5, .int (nI n)), (4, .int (nI (w i))), (0, .ref 114), (1, .int (nI q)), (2, .int (nI x)), (3, .int (nI y))], [], N)) (o := [aok shp 123 0 (nI b)]) rfl (ak1 (n := 64) rfl rfl rfl (by omega)) ?_
            rw [rb, n_sub (a := n) (b := 1) rfl rfl (by omega), n_sub (a := n - 1) (b := i) rfl rfl (by omega), ev]
            by_cases cv : f b = v
            rotate_left
            · rw [if_neg (mt (n_eq rfl rfl (by omega) (by omega)).mp cv)]
              exact z143 (by
                by_cases e : s = z
                · rw [esz e] at cv; exact absurd fk cv
                · omega)
            rw [if_pos ((n_eq rfl rfl (by omega) (by omega)).mpr cv)]
            have es : s = z := by
              by_cases e : s = z
              · exact e
              · exact absurd ((HF_D hF b64 cb (by omega)).mpr cv) (hmn s (by omega) b hb2)
            refine Wn.run (tab := tb_m_way) rfl 5 (c' := (158, [(7, .int (nI s)), (6, .int (nI i)), (5, .int (nI n)), (4, .int (nI (w i))), (0, .ref 114), (1, .int (nI q)), (2, .int (nI x)), (3, .int (nI y))], [], (mI N 126 (upd (N.1 126) ((nI i)).toNatClampNeg (nI s))))) (o := [shp 114 = (0, 10), aok shp 126 0 (nI i)]) rfl ⟨rfl, (ak1 (n := 64) rfl rfl rfl (by omega))⟩ ?_
            rw [show ((nI i)).toNatClampNeg = i from nI_clamp (by omega)]
            generalize hN3 : (mI N 126 (upd (N.1 126) i (nI s))) = N3
            have f3 := fr_1I hN3
            have hM3 : Ms N3 σ := Ms_fr f3 (by decide) hMN
            have u3 : ∀ e, e < i + 1 → N3.1 126 e = nI (su u i z e) := by
              intro e he
              rw [mI_eq hN3, es]
              unfold su
              by_cases ez : e = i
              · rw [if_pos ez, ez, pk_us]
              · rw [if_neg ez, pk_un ez]; exact hu e (by omega)
            refine Wn.run (tab := tb_m_way) rfl 3 (c' := (163, [(7, .int (nI s)), (6, .int (nI i)), (5, .int (nI n)), (4, .int (nI (w i))), (0, .ref 114), (1, .int (nI q)), (2, .int (nI x)), (3, .int (nI y))], [.int (nI s), .int (nI (w i)), .ref 114], N3)) (o := []) rfl trivial ?_
            refine Wn.callV (p := 114) (n := 3) (ix := 281) (ci := (10)) (fun r0 M1 => r0 = some (.int (nI b)) ∧ N3 = M1) [.int (nI (w i)), .int (nI s)] [] rfl rfl rfl rfl (Nat.le_of_ble_eq_true rfl) (Nat.le_of_ble_eq_true rfl) (w_m_beside _ (w i) s (by omega) (by omega) N3 σ hM3 _ ⟨by rw [hb2]; rfl, rfl⟩) ?_
            rintro _ _ ⟨rfl, rfl⟩
            show Wn _ 109 _ (166, [(7, .int (nI s)), (6, .int (nI i)), (5, .int (nI n)), (4, .int (nI (w i))), (0, .ref 114), (1, .int (nI q)), (2, .int (nI x)), (3, .int (nI y))], [.int (nI b)], N3)
            refine Wn.run (tab := tb_m_way) rfl 3 (c' := (83, [(6, .int ((nI i) + (nI 1))), (4, .int (nI b)), (7, .int (nI s)), (5, .int (nI n)), (0, .ref 114), (1, .int (nI q)), (2, .int (nI x)), (3, .int (nI y))], [], N3)) (o := []) rfl trivial ?_
            rw [nI_add, esz es]
            have ewk : su w (i + 1) k (i + 1) = k := by unfold su; rw [if_pos rfl]
            refine Wn.lvp [0, 3, 1, 4, 5, 6, 7] (lv' := [(6, .int (nI (i + 1))), (5, .int (nI n)), (4, .int (nI k)), (0, .ref 114), (1, .int (nI q)), (2, .int (nI x)), (3, .int (nI y))]) rfl ?_
            have nx := ih (n - (i + 1)) (by omega) (i + 1) _ _ N3 rfl (by omega) (SdP_up hP hz hb k64 (by rw [ev]; exact hk) (by rw [ev]; exact hmn)) (fr_tr FN f3 (by decide)) (by rw [(f3 114 (by decide)).1]; exact gN) (by rw [(f3 123 (by decide)).1]; exact hrN) u3
            rw [ewk] at nx
            exact nx
      exact sides (z - 0) 0 rfl (Nat.zero_le _)
  exact main n 0 _ _ M2 (by omega) (Nat.zero_le _) (SdP_0 hd hst) F2 g2 r2 (fun e he => absurd he (Nat.not_lt_zero _))
