/-! laysSteps of the reference. -/
set_option maxRecDepth 20000 in
theorem w_m_isOpen (d : Nat) (q k : Nat) (hq : q < 6) (hk : k < 64) (M : Mm) (σ : Nat → Nat) (hM : Ms M σ) (Q : Po) (hQ : Q (some (.int (b2 (k = σ (160 + q) ∨ ld σ k + σ (78 + q) ≤ σ (96 + k))))) M) : Wn (d + 5) 107 Q (0, lv_args 0 [.ref 114, .int (nI q), .int (nI k)], [], M) := by
  have fq := Bd_q hM.2 q hq
  have lk := ld_le hM.2 k
  have ik := Bd_c hM.2 k hk
  have rq : M.1 116 (((nI 160) + (nI q))).toNatClampNeg = nI (σ (160 + q)) := by rw [nI_add, nI_clamp (by omega)]; exact hM.1 _ (by omega)
  refine Wn.run (tab := tb_m_isOpen) rfl 8 (c' := (if (nI k) = (M.1 116 (((nI 160) + (nI q))).toNatClampNeg) then 23 else 14, [(0, .ref 114), (1, .int (nI q)), (2, .int (nI k))], [], M)) (o := [shp 114 = (0, 10), aok shp 116 0 ((nI 160) + (nI q))]) rfl ⟨rfl, (ak1 (n := 359) rfl rfl (nI_add 160 q) (by omega))⟩ ?_
  rw [rq]
  by_cases c : k = σ (160 + q)
  · rw [if_pos ((n_eq rfl rfl (by omega) (by omega)).mpr c)]
    rw [b2_t (Or.inl c)] at hQ
    refine Wn.run (tab := tb_m_isOpen) rfl 2 (c' := (28, [(0, .ref 114), (1, .int (nI q)), (2, .int (nI k))], [.int (nI 1)], M)) (o := []) rfl trivial ?_
    exact Wn.zret rfl (Or.inr rfl) hQ
  rw [if_neg (mt (n_eq rfl rfl (by omega) (by omega)).mp c)]
  refine Wn.run (tab := tb_m_isOpen) rfl 3 (c' := (17, [(0, .ref 114), (1, .int (nI q)), (2, .int (nI k))], [.int (nI k), .int (nI q), .ref 114], M)) (o := []) rfl trivial ?_
  refine Wn.callV (p := 114) (n := 3) (ix := 284) (ci := (10)) (fun r0 M1 => r0 = some (.int (nI (ld σ k + σ (78 + q) - σ (96 + k)))) ∧ M = M1) [.int (nI q), .int (nI k)] [] rfl rfl rfl rfl (Nat.le_of_ble_eq_true rfl) (Nat.le_of_ble_eq_true rfl) (w_m_lacks _ q k hq hk M σ hM _ ⟨rfl, rfl⟩) ?_
  rintro _ _ ⟨rfl, rfl⟩
  show Wn _ 107 _ (20, [(0, .ref 114), (1, .int (nI q)), (2, .int (nI k))], [.int (nI (ld σ k + σ (78 + q) - σ (96 + k)))], M)
  refine Wn.run (tab := tb_m_isOpen) rfl 1 (c' := (if ¬ (nI (ld σ k + σ (78 + q) - σ (96 + k))) = 0 then 27 else 23, [(0, .ref 114), (1, .int (nI q)), (2, .int (nI k))], [], M)) (o := []) rfl trivial ?_
  by_cases cl : ld σ k + σ (78 + q) - σ (96 + k) = 0
  · rw [if_neg (fun e => e ((n_eq rfl nI_0.symm (by omega) (by omega)).mpr cl))]
    rw [b2_t (Or.inr (by omega))] at hQ
    refine Wn.run (tab := tb_m_isOpen) rfl 2 (c' := (28, [(0, .ref 114), (1, .int (nI q)), (2, .int (nI k))], [.int (nI 1)], M)) (o := []) rfl trivial ?_
    exact Wn.zret rfl (Or.inr rfl) hQ
  · rw [if_pos (mt (n_eq rfl nI_0.symm (by omega) (by omega)).mp cl)]
    rw [b2_f (by omega)] at hQ
    refine Wn.run (tab := tb_m_isOpen) rfl 1 (c' := (28, [(0, .ref 114), (1, .int (nI q)), (2, .int (nI k))], [.int (nI 0)], M)) (o := []) rfl trivial ?_
    exact Wn.zret rfl (Or.inl rfl) hQ
def PLs (M0 : Mm) (σ : Nat → Nat) (q gl : Nat) : Po := fun r0 M' => r0 = none ∧ Fr [123] M0 M' ∧ ∃ f : Nat → Nat, (∀ e, e < 64 → M'.1 123 e = nI (f e)) ∧ (∀ e, f e ≤ 1000000) ∧ (¬ opW σ q gl → ∀ e, f e = f0B gl 1000000 e) ∧ (opW σ q gl → Snd (EW σ (opW σ q)) gl 0 x1 f 1000000 ∧ RR (EW σ (opW σ q)) gl 0 x1 f 64 ∧ f gl = 0)
set_option maxRecDepth 20000 in
theorem c_m_laysSteps (d : Nat) (M : Mm) (σ : Nat → Nat) (hM : Ms M σ) (q gl : Nat) (hq : q < σ 2) (hgl : gl < 64) : Wn (d + 6) 108 (PLs M σ q gl) (0, lv_args 0 [.ref 114, .int (nI q), .int (nI gl)], [], M) := by
  have b6 := Bd_2 hM.2
  have w9 := hM.2.2.1
  have h9 := hM.2.2.2.2.1
  have fq := Bd_q hM.2 q (by omega)
  refine Wn.run (tab := tb_m_laysSteps) rfl 2 (c' := (2, [(3, .int (nI 0)), (0, .ref 114), (1, .int (nI q)), (2, .int (nI gl))], [], M)) (o := []) rfl trivial ?_
  have main : opW σ q gl → ∀ (m : Nat) (f0 : Nat → Nat) (N : Mm), smN f0 64 = m → Snd (EW σ (opW σ q)) gl 0 x1 f0 1000000 → (∀ e, f0 e ≤ 1000000) → f0 gl = 0 → Fr [123] M N → (∀ e, e < 64 → N.1 123 e = nI (f0 e)) → Wn (d + 6) 108 (PLs M σ q gl) (39, [(3, .int (nI 1)), (0, .ref 114), (1, .int (nI q)), (2, .int (nI gl))], [], N) := by
    intro og m
    induction m using Nat.strongRecOn with
    | _ m ih =>
      intro f0 N hm hs fi f00 FN hr
      refine Wn.run (tab := tb_m_laysSteps) rfl 2 (c' := (if (nI 1) = 0 then 161 else 43, [(3, .int (nI 1)), (0, .ref 114), (1, .int (nI q)), (2, .int (nI gl))], [], N)) (o := []) rfl trivial ?_
      rw [if_neg (show ¬ nI 1 = 0 by decide)]
      refine Wn.run (tab := tb_m_laysSteps) rfl 4 (c' := (48, [(4, .int (nI 0)), (3, .int (nI 0)), (0, .ref 114), (1, .int (nI q)), (2, .int (nI gl))], [], N)) (o := []) rfl trivial ?_
      have cells : ∀ (m2 c : Nat) (b : Bool) (f : Nat → Nat) (N1 : Mm), 64 - c = m2 → c ≤ 64 → RP σ (opW σ q) gl 1000000 f0 f c 0 b → Fr [123] M N1 → (∀ e, e < 64 → N1.1 123 e = nI (f e)) → Wn (d + 6) 108 (PLs M σ q gl) (48, [(4, .int (nI c)), (3, .int (b2 (b = true))), (0, .ref 114), (1, .int (nI q)), (2, .int (nI gl))], [], N1) := by
        intro m2
        induction m2 using Nat.strongRecOn with
        | _ m2 ih2 =>
          intro c b f N1 hm2 hc hI F1 hr1
          refine Wn.run (tab := tb_m_laysSteps) rfl 3 (c' := (if (nI 64) ≤ (nI c) then 158 else 55, [(4, .int (nI c)), (3, .int (b2 (b = true))), (0, .ref 114), (1, .int (nI q)), (2, .int (nI gl))], [], N1)) (o := []) rfl trivial ?_
          by_cases ce : 64 ≤ c
          · rw [if_pos ((n_le rfl rfl (by omega) (by omega)).mpr ce)]
            have ec : c = 64 := by omega
            subst ec
            refine Wn.run (tab := tb_m_laysSteps) rfl 1 (c' := (39, [(4, .int (nI 64)), (3, .int (b2 (b = true))), (0, .ref 114), (1, .int (nI q)), (2, .int (nI gl))], [], N1)) (o := []) rfl trivial ?_
            refine Wn.lvp [1, 2, 3, 4] (lv' := [(3, .int (b2 (b = true))), (0, .ref 114), (1, .int (nI q)), (2, .int (nI gl))]) rfl ?_
            have fi1 : ∀ e, f e ≤ 1000000 := fun e => Nat.le_trans (hI.2.1 e) (fi e)
            have fg : f gl = 0 := by have := hI.2.1 gl; omega
            cases b with
            | false =>
              show Wn _ 108 _ (39, [(3, .int (nI 0)), (0, .ref 114), (1, .int (nI q)), (2, .int (nI gl))], [], N1)
              refine Wn.run (tab := tb_m_laysSteps) rfl 2 (c' := (if (nI 0) = 0 then 161 else 43, [(3, .int (nI 0)), (0, .ref 114), (1, .int (nI q)), (2, .int (nI gl))], [], N1)) (o := []) rfl trivial ?_
              rw [if_pos (show nI 0 = 0 by decide)]
              exact Wn.vret rfl ⟨rfl, F1, f, hr1, fi1, fun e => absurd og e, fun _ => ⟨hI.1, RP_no fi f00 hI 64, fg⟩⟩
            | true =>
              obtain ⟨k, k1, k2⟩ := hI.2.2.2.2 rfl
              have sl := smN_lt hI.2.1 k2 64 k1
              exact ih (smN f 64) (by omega) f N1 rfl hI.1 fi1 fg F1 hr1
          · rw [if_neg (mt (n_le rfl rfl (by omega) (by omega)).mp ce)]
            refine Wn.run (tab := tb_m_laysSteps) rfl 2 (c' := (58, [(5, .int (nI 0)), (4, .int (nI c)), (3, .int (b2 (b = true))), (0, .ref 114), (1, .int (nI q)), (2, .int (nI gl))], [], N1)) (o := []) rfl trivial ?_
            have sides : ∀ (m3 s : Nat) (b : Bool) (f : Nat → Nat) (N2 : Mm), 4 - s = m3 → s ≤ 4 → RP σ (opW σ q) gl 1000000 f0 f c s b → Fr [123] M N2 → (∀ e, e < 64 → N2.1 123 e = nI (f e)) → Wn (d + 6) 108 (PLs M σ q gl) (58, [(5, .int (nI s)), (4, .int (nI c)), (3, .int (b2 (b = true))), (0, .ref 114), (1, .int (nI q)), (2, .int (nI gl))], [], N2) := by
              intro m3
              induction m3 using Nat.strongRecOn with
              | _ m3 ih3 =>
                intro s b f N2 hm3 hs4 hI F2 hr2
                have hMs2 : Ms N2 σ := Ms_fr F2 (by decide) hM
                have fc : f c ≤ 1000000 := Nat.le_trans (hI.2.1 c) (fi c)
                have rc : N2.1 123 ((nI c)).toNatClampNeg = nI (f c) := by rw [nI_clamp (by omega)]; exact hr2 c (by omega)
                have z152 : (s = 4 ∨ ¬ inL σ c) → Wn (d + 6) 108 (PLs M σ q gl) (152, [(5, .int (nI s)), (4, .int (nI c)), (3, .int (b2 (b = true))), (0, .ref 114), (1, .int (nI q)), (2, .int (nI gl))], [], N2) := by
                  intro h
                  refine Wn.run (tab := tb_m_laysSteps) rfl 2 (c' := (48, [(4, .int ((nI c) + (nI 1))), (5, .int (nI s)), (3, .int (b2 (b = true))), (0, .ref 114), (1, .int (nI q)), (2, .int (nI gl))], [], N2)) (o := []) rfl trivial ?_
                  rw [nI_add]
                  refine Wn.lvp [0, 2, 3, 4, 5] (lv' := [(4, .int (nI (c + 1))), (3, .int (b2 (b = true))), (0, .ref 114), (1, .int (nI q)), (2, .int (nI gl))]) rfl ?_
                  exact ih2 (64 - (c + 1)) (by omega) (c + 1) b f N2 rfl (by omega) (RP_cell hI h) F2 hr2
                refine Wn.run (tab := tb_m_laysSteps) rfl 3 (c' := (if (nI 4) ≤ (nI s) then 152 else 64, [(5, .int (nI s)), (4, .int (nI c)), (3, .int (b2 (b = true))), (0, .ref 114), (1, .int (nI q)), (2, .int (nI gl))], [], N2)) (o := []) rfl trivial ?_
                by_cases cs : 4 ≤ s
                · rw [if_pos ((n_le rfl rfl (by omega) (by omega)).mpr cs)]
                  exact z152 (Or.inl (by omega))
                rw [if_neg (mt (n_le rfl rfl (by omega) (by omega)).mp cs)]
                refine Wn.run (tab := tb_m_laysSteps) rfl 7 (c' := (75, [(5, .int (nI s)), (4, .int (nI c)), (3, .int (b2 (b = true))), (0, .ref 114), (1, .int (nI q)), (2, .int (nI gl))], [.int ((nI c) / (nI 8)), .int ((nI c) - (nI c) / (nI 8) * (nI 8)), .ref 114], N2)) (o := [¬ (nI 8) = 0, ¬ (nI 8) = 0]) rfl ⟨(show ¬ (nI 8) = 0 by decide), (show ¬ (nI 8) = 0 by decide)⟩ ?_
                rw [n_rem (a := c) (b := 8) rfl rfl (by omega) (by decide) (by decide), n_div (a := c) (b := 8) rfl rfl (by omega) (by decide) (by decide)]
                refine Wn.callV (p := 114) (n := 3) (ix := 266) (ci := (10)) (fun r0 M0 => r0 = some (.int (b2 (c % 8 < σ 0 ∧ c / 8 < σ 1))) ∧ N2 = M0) [.int (nI (c % 8)), .int (nI (c / 8))] [] rfl rfl rfl rfl (Nat.le_of_ble_eq_true rfl) (Nat.le_of_ble_eq_true rfl) (w_m_isCellN _ _ _ (by omega) (by omega) N2 σ hMs2 _ ⟨rfl, rfl⟩) ?_
                rintro _ _ ⟨rfl, rfl⟩
                show Wn _ 108 _ (78, [(5, .int (nI s)), (4, .int (nI c)), (3, .int (b2 (b = true))), (0, .ref 114), (1, .int (nI q)), (2, .int (nI gl))], [.int (b2 (c % 8 < σ 0 ∧ c / 8 < σ 1))], N2)
                refine Wn.run (tab := tb_m_laysSteps) rfl 1 (c' := (if (b2 (c % 8 < σ 0 ∧ c / 8 < σ 1)) = 0 then 152 else 81, [(5, .int (nI s)), (4, .int (nI c)), (3, .int (b2 (b = true))), (0, .ref 114), (1, .int (nI q)), (2, .int (nI gl))], [], N2)) (o := []) rfl trivial ?_
                by_cases ci : c % 8 < σ 0 ∧ c / 8 < σ 1
                rotate_left
                · rw [if_pos (b2_e0.mpr ci)]
                  exact z152 (Or.inr ci)
                rw [if_neg (b2_n0.mpr ci)]
                refine Wn.run (tab := tb_m_laysSteps) rfl 3 (c' := (86, [(5, .int (nI s)), (4, .int (nI c)), (3, .int (b2 (b = true))), (0, .ref 114), (1, .int (nI q)), (2, .int (nI gl))], [.int (nI s), .int (nI c), .ref 114], N2)) (o := []) rfl trivial ?_
                refine Wn.callV (p := 114) (n := 3) (ix := 281) (ci := (10)) (fun r0 M1 => r0 = some (.int (oI (bes σ c s))) ∧ N2 = M1) [.int (nI c), .int (nI s)] [] rfl rfl rfl rfl (Nat.le_of_ble_eq_true rfl) (Nat.le_of_ble_eq_true rfl) (w_m_beside _ c s (by omega) (by omega) N2 σ hMs2 _ ⟨rfl, rfl⟩) ?_
                rintro _ _ ⟨rfl, rfl⟩
                show Wn _ 108 _ (89, [(5, .int (nI s)), (4, .int (nI c)), (3, .int (b2 (b = true))), (0, .ref 114), (1, .int (nI q)), (2, .int (nI gl))], [.int (oI (bes σ c s))], N2)
                refine Wn.run (tab := tb_m_laysSteps) rfl 3 (c' := (if (oI (bes σ c s)) < 0 then 146 else 96, [(6, .int (oI (bes σ c s))), (5, .int (nI s)), (4, .int (nI c)), (3, .int (b2 (b = true))), (0, .ref 114), (1, .int (nI q)), (2, .int (nI gl))], [], N2)) (o := []) rfl trivial ?_
                have z146 : ∀ kk : Int32, (∀ k, bes σ c s = some k → opW σ q k → f c ≤ f0 k + 1) → Wn (d + 6) 108 (PLs M σ q gl) (146, [(6, .int kk), (5, .int (nI s)), (4, .int (nI c)), (3, .int (b2 (b = true))), (0, .ref 114), (1, .int (nI q)), (2, .int (nI gl))], [], N2) := by
                  intro kk h
                  refine Wn.run (tab := tb_m_laysSteps) rfl 2 (c' := (58, [(5, .int ((nI s) + (nI 1))), (6, .int kk), (4, .int (nI c)), (3, .int (b2 (b = true))), (0, .ref 114), (1, .int (nI q)), (2, .int (nI gl))], [], N2)) (o := []) rfl trivial ?_
                  rw [nI_add]
                  refine Wn.lvp [0, 2, 3, 4, 5, 6] (lv' := [(5, .int (nI (s + 1))), (4, .int (nI c)), (3, .int (b2 (b = true))), (0, .ref 114), (1, .int (nI q)), (2, .int (nI gl))]) rfl ?_
                  exact ih3 (4 - (s + 1)) (by omega) (s + 1) b f N2 rfl (by omega) (RP_skip hI h) F2 hr2
                cases hb : bes σ c s with
                | none =>
                  rw [hb] at z146
                  rw [if_pos (show oI none < 0 by decide)]
                  exact z146 _ (fun k e => by cases e)
                | some k =>
                  rw [hb] at z146
                  have k64 := bes_lt hM.2 (by omega) hb
                  have kc := bes_ne hM.2 (by omega) hb
                  have rk : N2.1 123 ((nI k)).toNatClampNeg = nI (f k) := by rw [nI_clamp (by omega)]; exact hr2 k (by omega)
                  have fk : f k ≤ 1000000 := Nat.le_trans (hI.2.1 k) (fi k)
                  have fk0 := hI.2.1 k
                  show Wn _ 108 _ (if nI k < 0 then _ else _, [(6, .int (nI k)), (5, .int (nI s)), (4, .int (nI c)), (3, .int (b2 (b = true))), (0, .ref 114), (1, .int (nI q)), (2, .int (nI gl))], [], N2)
                  rw [if_neg (show ¬ nI k < 0 from mt (n_lt rfl nI_0.symm (by omega) (by omega)).mp (Nat.not_lt_zero _))]
                  refine Wn.run (tab := tb_m_laysSteps) rfl 3 (c' := (100, [(6, .int (nI k)), (5, .int (nI s)), (4, .int (nI c)), (3, .int (b2 (b = true))), (0, .ref 114), (1, .int (nI q)), (2, .int (nI gl))], [.int (nI k), .int (nI q), .ref 114], N2)) (o := []) rfl trivial ?_
                  refine Wn.callV (p := 114) (n := 3) (ix := 340) (ci := (10)) (fun r0 M1 => r0 = some (.int (b2 (k = σ (160 + q) ∨ ld σ k + σ (78 + q) ≤ σ (96 + k)))) ∧ N2 = M1) [.int (nI q), .int (nI k)] [] rfl rfl rfl rfl (Nat.le_of_ble_eq_true rfl) (Nat.le_of_ble_eq_true rfl) (w_m_isOpen _ q k (by omega) k64 N2 σ hMs2 _ ⟨rfl, rfl⟩) ?_
                  rintro _ _ ⟨rfl, rfl⟩
                  show Wn _ 108 _ (103, [(6, .int (nI k)), (5, .int (nI s)), (4, .int (nI c)), (3, .int (b2 (b = true))), (0, .ref 114), (1, .int (nI q)), (2, .int (nI gl))], [.int (b2 (k = σ (160 + q) ∨ ld σ k + σ (78 + q) ≤ σ (96 + k)))], N2)
                  refine Wn.run (tab := tb_m_laysSteps) rfl 1 (c' := (if (b2 (k = σ (160 + q) ∨ ld σ k + σ (78 + q) ≤ σ (96 + k))) = 0 then 146 else 106, [(6, .int (nI k)), (5, .int (nI s)), (4, .int (nI c)), (3, .int (b2 (b = true))), (0, .ref 114), (1, .int (nI q)), (2, .int (nI gl))], [], N2)) (o := []) rfl trivial ?_
                  by_cases ck : (k = σ (160 + q) ∨ ld σ k + σ (78 + q) ≤ σ (96 + k))
                  rotate_left
                  · rw [if_pos (b2_e0.mpr ck)]
                    refine z146 _ (fun k2 e ho => ?_)
                    cases e
                    exact absurd ho ck
                  rw [if_neg (b2_n0.mpr ck)]
                  refine Wn.run (tab := tb_m_laysSteps) rfl 11 (c' := (if ((N2.1 123 ((nI k)).toNatClampNeg) + (nI 1)) < (N2.1 123 ((nI c)).toNatClampNeg) then 128 else 125, [(6, .int (nI k)), (5, .int (nI s)), (4, .int (nI c)), (3, .int (b2 (b = true))), (0, .ref 114), (1, .int (nI q)), (2, .int (nI gl))], [], N2)) (o := [shp 114 = (0, 10), aok shp 123 0 (nI k), shp 114 = (0, 10), aok shp 123 0 (nI c)]) rfl ⟨rfl, (ak1 (n := 64) rfl rfl rfl (by omega)), rfl, (ak1 (n := 64) rfl rfl rfl (by omega))⟩ ?_
                  rw [rk, rc, nI_add]
                  by_cases cx : f k + 1 < f c
                  rotate_left
                  · rw [if_neg (mt (n_lt rfl rfl (by omega) (by omega)).mp cx)]
                    refine Wn.run (tab := tb_m_laysSteps) rfl 1 (c' := (146, [(6, .int (nI k)), (5, .int (nI s)), (4, .int (nI c)), (3, .int (b2 (b = true))), (0, .ref 114), (1, .int (nI q)), (2, .int (nI gl))], [], N2)) (o := []) rfl trivial ?_
                    refine z146 _ (fun k2 e ho => ?_)
                    cases e
                    omega
                  rw [if_pos ((n_lt rfl rfl (by omega) (by omega)).mpr cx)]
                  refine Wn.run (tab := tb_m_laysSteps) rfl 10 (c' := (144, [(6, .int (nI k)), (5, .int (nI s)), (4, .int (nI c)), (3, .int (b2 (b = true))), (0, .ref 114), (1, .int (nI q)), (2, .int (nI gl))], [], (mI N2 123 (upd (N2.1 123) ((nI c)).toNatClampNeg ((N2.1 123 ((nI k)).toNatClampNeg) + (nI 1)))))) (o := [shp 114 = (0, 10), shp 114 = (0, 10), aok shp 123 0 (nI k), aok shp 123 0 (nI c)]) rfl ⟨rfl, rfl, (ak1 (n := 64) rfl rfl rfl (by omega)), (ak1 (n := 64) rfl rfl rfl (by omega))⟩ ?_
                  rw [rk, show ((nI c)).toNatClampNeg = c from nI_clamp (by omega), nI_add]
                  generalize hN3 : (mI N2 123 (upd (N2.1 123) c (nI (f k + 1)))) = N3
                  have r3 : ∀ e, e < 64 → N3.1 123 e = nI (su f c (f k + 1) e) := rwo_up hN3 hr2
                  have f3 := fr_1I hN3
                  refine Wn.run (tab := tb_m_laysSteps) rfl 4 (c' := (58, [(5, .int ((nI s) + (nI 1))), (3, .int (nI 1)), (6, .int (nI k)), (4, .int (nI c)), (0, .ref 114), (1, .int (nI q)), (2, .int (nI gl))], [], N3)) (o := []) rfl trivial ?_
                  rw [nI_add]
                  refine Wn.lvp [0, 3, 1, 4, 5, 6] (lv' := [(5, .int (nI (s + 1))), (4, .int (nI c)), (3, .int (b2 (true = true))), (0, .ref 114), (1, .int (nI q)), (2, .int (nI gl))]) rfl ?_
                  exact ih3 (4 - (s + 1)) (by omega) (s + 1) true _ N3 rfl (by omega) (RP_take hI (by omega) ci (by omega) k64 hb ck (by omega) cx) (fr_tr F2 f3 (by decide)) r3
            exact sides 4 0 b f N1 rfl (by omega) hI F1 hr1
      exact cells 64 0 false f0 N rfl (by omega) (RP_0 hs) FN hr
  have init : ∀ (m z : Nat) (N : Mm), 64 - z = m → z ≤ 64 → Fr [123] M N → (∀ e, e < z → N.1 123 e = nI (f0B gl 1000000 e)) → Wn (d + 6) 108 (PLs M σ q gl) (2, [(3, .int (nI z)), (0, .ref 114), (1, .int (nI q)), (2, .int (nI gl))], [], N) := by
    intro m
    induction m using Nat.strongRecOn with
    | _ m ih =>
      intro z N hm hz FN hr
      have hMs2 : Ms N σ := Ms_fr FN (by decide) hM
      refine Wn.run (tab := tb_m_laysSteps) rfl 3 (c' := (if (nI 64) ≤ (nI z) then 32 else 8, [(3, .int (nI z)), (0, .ref 114), (1, .int (nI q)), (2, .int (nI gl))], [], N)) (o := []) rfl trivial ?_
      by_cases ce : 64 ≤ z
      · rw [if_pos ((n_le rfl rfl (by omega) (by omega)).mpr ce)]
        have hr64 : ∀ e, e < 64 → N.1 123 e = nI (f0B gl 1000000 e) := fun e he => hr e (by omega)
        refine Wn.run (tab := tb_m_laysSteps) rfl 3 (c' := (35, [(3, .int (nI z)), (0, .ref 114), (1, .int (nI q)), (2, .int (nI gl))], [.int (nI gl), .int (nI q), .ref 114], N)) (o := []) rfl trivial ?_
        refine Wn.callV (p := 114) (n := 3) (ix := 340) (ci := (10)) (fun r0 M1 => r0 = some (.int (b2 (gl = σ (160 + q) ∨ ld σ gl + σ (78 + q) ≤ σ (96 + gl)))) ∧ N = M1) [.int (nI q), .int (nI gl)] [] rfl rfl rfl rfl (Nat.le_of_ble_eq_true rfl) (Nat.le_of_ble_eq_true rfl) (w_m_isOpen _ q gl (by omega) hgl N σ hMs2 _ ⟨rfl, rfl⟩) ?_
        rintro _ _ ⟨rfl, rfl⟩
        show Wn _ 108 _ (38, [(3, .int (nI z)), (0, .ref 114), (1, .int (nI q)), (2, .int (nI gl))], [.int (b2 (gl = σ (160 + q) ∨ ld σ gl + σ (78 + q) ≤ σ (96 + gl)))], N)
        refine Wn.run (tab := tb_m_laysSteps) rfl 1 (c' := (39, [(3, .int (b2 (gl = σ (160 + q) ∨ ld σ gl + σ (78 + q) ≤ σ (96 + gl)))), (0, .ref 114), (1, .int (nI q)), (2, .int (nI gl))], [], N)) (o := []) rfl trivial ?_
        by_cases og : (gl = σ (160 + q) ∨ ld σ gl + σ (78 + q) ≤ σ (96 + gl))
        · rw [b2_t og]
          exact main og _ _ N rfl (f0B_snd hgl) (fun e => f0B_le _ _ e) (if_pos rfl) FN hr64
        · rw [b2_f og]
          refine Wn.run (tab := tb_m_laysSteps) rfl 2 (c' := (if (nI 0) = 0 then 161 else 43, [(3, .int (nI 0)), (0, .ref 114), (1, .int (nI q)), (2, .int (nI gl))], [], N)) (o := []) rfl trivial ?_
          rw [if_pos (show nI 0 = 0 by decide)]
          exact Wn.vret rfl ⟨rfl, FN, _, hr64, fun e => f0B_le _ _ e, fun _ _ => rfl, fun e => absurd e og⟩
      · rw [if_neg (mt (n_le rfl rfl (by omega) (by omega)).mp ce)]
        refine Wn.run (tab := tb_m_laysSteps) rfl 6 (c' := (if ¬ (nI z) = (nI gl) then 22 else 18, [(3, .int (nI z)), (0, .ref 114), (1, .int (nI q)), (2, .int (nI gl))], [.int (nI z), .ref 123], N)) (o := [shp 114 = (0, 10)]) rfl rfl ?_
        have nx : ∀ v : Nat, v = f0B gl 1000000 z → Wn (d + 6) 108 (PLs M σ q gl) (25, [(3, .int (nI z)), (0, .ref 114), (1, .int (nI q)), (2, .int (nI gl))], [.int (nI v), .int (nI z), .ref 123], N) := by
          intro v hv
          refine Wn.run (tab := tb_m_laysSteps) rfl 1 (c' := (26, [(3, .int (nI z)), (0, .ref 114), (1, .int (nI q)), (2, .int (nI gl))], [], (mI N 123 (upd (N.1 123) ((nI z)).toNatClampNeg (nI v))))) (o := [aok shp 123 0 (nI z)]) rfl (ak1 (n := 64) rfl rfl rfl (by omega)) ?_
          rw [show ((nI z)).toNatClampNeg = z from nI_clamp (by omega)]
          generalize hN3 : (mI N 123 (upd (N.1 123) z (nI v))) = N3
          have f3 := fr_1I hN3
          refine Wn.run (tab := tb_m_laysSteps) rfl 2 (c' := (2, [(3, .int ((nI z) + (nI 1))), (0, .ref 114), (1, .int (nI q)), (2, .int (nI gl))], [], N3)) (o := []) rfl trivial ?_
          rw [nI_add]
          refine ih (64 - (z + 1)) (by omega) (z + 1) N3 rfl (by omega) (fr_tr FN f3 (by decide)) (fun e he => ?_)
          rw [mI_eq hN3]
          by_cases ez : e = z
          · rw [ez, pk_us, hv]
          · rw [pk_un ez]; exact hr e (by omega)
        by_cases cz : z = gl
        · rw [if_neg (fun e => e ((n_eq rfl rfl (by omega) (by omega)).mpr cz))]
          refine Wn.run (tab := tb_m_laysSteps) rfl 2 (c' := (25, [(3, .int (nI z)), (0, .ref 114), (1, .int (nI q)), (2, .int (nI gl))], [.int (nI 0), .int (nI z), .ref 123], N)) (o := []) rfl trivial ?_
          exact nx 0 (by unfold f0B; rw [if_pos cz])
        · rw [if_pos (mt (n_eq rfl rfl (by omega) (by omega)).mp cz)]
          refine Wn.run (tab := tb_m_laysSteps) rfl 1 (c' := (25, [(3, .int (nI z)), (0, .ref 114), (1, .int (nI q)), (2, .int (nI gl))], [.int (nI 1000000), .int (nI z), .ref 123], N)) (o := []) rfl trivial ?_
          exact nx 1000000 (by unfold f0B; rw [if_neg cz])
  exact init 64 0 M rfl (by omega) (fr_rf _ _) (fun e he => absurd he (Nat.not_lt_zero _))
