/-! Bows, by the reference. -/
def PMB (M0 : Mm) (g : Nat → Int32) (p : Nat) (P : Option Nat → Prop) : Po := fun r0 M' => (∃ o, P o ∧ r0 = some (.int (oI o))) ∧ M'.1 114 = upd g 0 (nI 0) ∧ Fr [114, p] M0 M'
theorem rwo_up {N N' : Mm} {p k v : Nat} {f : Nat → Nat} (h : mI N p (upd (N.1 p) k (nI v)) = N') (hr : ∀ e, e < 64 → N.1 p e = nI (f e)) : ∀ e, e < 64 → N'.1 p e = nI (su f k v e) := by
  intro e he
  rw [mI_eq h]
  unfold su
  by_cases q : e = k
  · rw [if_pos q, q, pk_us]
  · rw [if_neg q, pk_un q]; exact hr e he
set_option maxRecDepth 20000 in
theorem c_m_bows (d : Nat) (M : Mm) (g : Nat → Int32) (hg : M.1 114 = g) (σ : Nat → Nat) (hM : Ms M σ) (q x y : Nat) (hq : q < σ 2) (hx : x < σ 0) (hy : y < σ 1) (hf : ¬ fal σ q = true) : Wn (d + 5) 111 (PMB M g 124 (LCo (EB σ (okW σ q (σ (160 + q)))) (σ (160 + q)) 0 (xB σ q) (8 * y + x))) (0, lv_args 0 [.ref 114, .int (nI q), .int (nI x), .int (nI y)], [], M) := by
  have b6 := Bd_2 hM.2
  have w9 := hM.2.2.1
  have h9 := hM.2.2.2.2.1
  have fq := Bd_q hM.2 q (by omega)
  have hst : σ (160 + q) < 64 := by omega
  refine Wn.run (tab := tb_m_bows) rfl 3 (c' := (5, [(0, .ref 114), (1, .int (nI q)), (2, .int (nI x)), (3, .int (nI y))], [], (mI M 114 (upd (M.1 114) 0 (nI 0))))) (o := [shp 114 = (0, 10)]) rfl rfl ?_
  rw [hg]
  generalize hM0 : (mI M 114 (upd g 0 (nI 0))) = M0
  have f0 := fr_1I hM0
  have g0 : M0.1 114 = upd g 0 (nI 0) := mI_eq hM0
  have hMs : Ms M0 σ := Ms_fr f0 (by decide) hM
  have F0 : Fr [114, 124] M M0 := fr_up f0 (by decide)
  refine Wn.run (tab := tb_m_bows) rfl 2 (c' := (7, [(0, .ref 114), (1, .int (nI q)), (2, .int (nI x)), (3, .int (nI y))], [.int (nI q), .ref 114], M0)) (o := []) rfl trivial ?_
  refine Wn.callV (p := 114) (n := 2) (ix := 290) (ci := (10)) (fun r0 M1 => r0 = some (.int (nI 1)) ∧ M0 = M1) [.int (nI q)] [] rfl rfl rfl rfl (Nat.le_of_ble_eq_true rfl) (Nat.le_of_ble_eq_true rfl) (w_m_isPersonT _ q hq M0 σ hMs _ ⟨rfl, rfl⟩) ?_
  rintro _ _ ⟨rfl, rfl⟩
  show Wn _ 111 _ (10, [(0, .ref 114), (1, .int (nI q)), (2, .int (nI x)), (3, .int (nI y))], [.int (nI 1)], M0)
  refine Wn.run (tab := tb_m_bows) rfl 1 (c' := (if (nI 1) = 0 then 30 else 13, [(0, .ref 114), (1, .int (nI q)), (2, .int (nI x)), (3, .int (nI y))], [], M0)) (o := []) rfl trivial ?_
  rw [if_neg (show ¬ nI 1 = 0 by decide)]
  refine Wn.run (tab := tb_m_bows) rfl 3 (c' := (16, [(0, .ref 114), (1, .int (nI q)), (2, .int (nI x)), (3, .int (nI y))], [.int (nI y), .int (nI x), .ref 114], M0)) (o := []) rfl trivial ?_
  refine Wn.callV (p := 114) (n := 3) (ix := 266) (ci := (10)) (fun r0 M1 => r0 = some (.int (b2 (x < σ 0 ∧ y < σ 1))) ∧ M0 = M1) [.int (nI x), .int (nI y)] [] rfl rfl rfl rfl (Nat.le_of_ble_eq_true rfl) (Nat.le_of_ble_eq_true rfl) (w_m_isCellN _ _ _ (by omega) (by omega) M0 σ hMs _ ⟨rfl, rfl⟩) ?_
  rintro _ _ ⟨rfl, rfl⟩
  show Wn _ 111 _ (19, [(0, .ref 114), (1, .int (nI q)), (2, .int (nI x)), (3, .int (nI y))], [.int (b2 (x < σ 0 ∧ y < σ 1))], M0)
  refine Wn.run (tab := tb_m_bows) rfl 1 (c' := (if (b2 (x < σ 0 ∧ y < σ 1)) = 0 then 30 else 22, [(0, .ref 114), (1, .int (nI q)), (2, .int (nI x)), (3, .int (nI y))], [], M0)) (o := []) rfl trivial ?_
  rw [if_neg (b2_n0.mpr ⟨hx, hy⟩)]
  refine Wn.run (tab := tb_m_bows) rfl 2 (c' := (24, [(0, .ref 114), (1, .int (nI q)), (2, .int (nI x)), (3, .int (nI y))], [.int (nI q), .ref 114], M0)) (o := []) rfl trivial ?_
  refine Wn.callV (p := 114) (n := 2) (ix := 260) (ci := (10)) (fun r0 M1 => r0 = some (.int (b2 (fal σ q = true))) ∧ M0 = M1) [.int (nI q)] [] rfl rfl rfl rfl (Nat.le_of_ble_eq_true rfl) (Nat.le_of_ble_eq_true rfl) (w_m_hasFallen _ q (by omega) M0 σ hMs _ ⟨rfl, rfl⟩) ?_
  rintro _ _ ⟨rfl, rfl⟩
  show Wn _ 111 _ (27, [(0, .ref 114), (1, .int (nI q)), (2, .int (nI x)), (3, .int (nI y))], [.int (b2 (fal σ q = true))], M0)
  refine Wn.run (tab := tb_m_bows) rfl 1 (c' := (if (b2 (fal σ q = true)) = 0 then 32 else 30, [(0, .ref 114), (1, .int (nI q)), (2, .int (nI x)), (3, .int (nI y))], [], M0)) (o := []) rfl trivial ?_
  rw [if_pos (b2_e0.mpr hf)]
  refine Wn.run (tab := tb_m_bows) rfl 2 (c' := (35, [(4, .int (nI 0)), (0, .ref 114), (1, .int (nI q)), (2, .int (nI x)), (3, .int (nI y))], [], M0)) (o := []) rfl trivial ?_
  have fin : ∀ (N : Mm) (f : Nat → Nat), Fr [114, 124] M N → N.1 114 = upd g 0 (nI 0) → (∀ e, e < 64 → N.1 124 e = nI (f e)) → (∀ e, f e ≤ 1000000) → Snd (EB σ (okW σ q (σ (160 + q)))) (σ (160 + q)) 0 (xB σ q) f 1000000 → RR (EB σ (okW σ q (σ (160 + q)))) (σ (160 + q)) 0 (xB σ q) f 64 → Wn (d + 5) 111 (PMB M g 124 (LCo (EB σ (okW σ q (σ (160 + q)))) (σ (160 + q)) 0 (xB σ q) (8 * y + x))) (80, [(4, .int (nI 0)), (0, .ref 114), (1, .int (nI q)), (2, .int (nI x)), (3, .int (nI y))], [], N) := by
    intro N f FN gN hr fi hs hR
    have o := LCo_of (xB_mono σ q) hst (EB_lt hM.2) hs (fun n w hn hw => hR n w (by omega) hw) (fun n w hn hw => by have := xB_bd n hw; omega) (8 * y + x) (by omega)
    have rg : N.1 124 ((((nI 8) * (nI y)) + (nI x))).toNatClampNeg = nI (f (8 * y + x)) := by rw [pk_mul, nI_add, nI_clamp (by omega)]; exact hr _ (by omega)
    have fg := fi (8 * y + x)
    refine Wn.run (tab := tb_m_bows) rfl 2 (c' := (if (nI 0) = 0 then 224 else 85, [(4, .int (nI 0)), (0, .ref 114), (1, .int (nI q)), (2, .int (nI x)), (3, .int (nI y))], [], N)) (o := []) rfl trivial ?_
    rw [if_pos (show nI 0 = 0 by decide)]
    refine Wn.run (tab := tb_m_bows) rfl 10 (c' := (if (N.1 124 ((((nI 8) * (nI y)) + (nI x))).toNatClampNeg) < (nI 1000000) then 245 else 241, [(4, .int (nI 0)), (0, .ref 114), (1, .int (nI q)), (2, .int (nI x)), (3, .int (nI y))], [], N)) (o := [shp 114 = (0, 10), aok shp 124 0 (((nI 8) * (nI y)) + (nI x))]) rfl ⟨rfl, (ak1 (n := 64) rfl rfl (by rw [pk_mul, nI_add]) (show 8 * y + x < 64 by omega))⟩ ?_
    rw [rg]
    unfold ouN at o
    by_cases c : f (8 * y + x) < 1000000
    · rw [if_pos ((n_lt rfl rfl (by omega) (by omega)).mpr c)]
      rw [if_pos c] at o
      refine Wn.run (tab := tb_m_bows) rfl 8 (c' := (256, [(4, .int (nI 0)), (0, .ref 114), (1, .int (nI q)), (2, .int (nI x)), (3, .int (nI y))], [.int (N.1 124 ((((nI 8) * (nI y)) + (nI x))).toNatClampNeg)], N)) (o := [shp 114 = (0, 10), aok shp 124 0 (((nI 8) * (nI y)) + (nI x))]) rfl ⟨rfl, (ak1 (n := 64) rfl rfl (by rw [pk_mul, nI_add]) (show 8 * y + x < 64 by omega))⟩ ?_
      rw [rg]
      exact Wn.iret rfl ⟨⟨_, o, rfl⟩, gN, FN⟩
    · rw [if_neg (mt (n_lt rfl rfl (by omega) (by omega)).mp c)]
      rw [if_neg c] at o
      refine Wn.run (tab := tb_m_bows) rfl 2 (c' := (256, [(4, .int (nI 0)), (0, .ref 114), (1, .int (nI q)), (2, .int (nI x)), (3, .int (nI y))], [.int (-1 : Int32)], N)) (o := []) rfl trivial ?_
      exact Wn.iret rfl ⟨⟨_, o, rfl⟩, gN, FN⟩
  have main : ∀ (m : Nat) (f0 : Nat → Nat) (N : Mm), smN f0 64 = m → Snd (EB σ (okW σ q (σ (160 + q)))) (σ (160 + q)) 0 (xB σ q) f0 1000000 → (∀ e, f0 e ≤ 1000000) → f0 (σ (160 + q)) = 0 → Fr [114, 124] M N → N.1 114 = upd g 0 (nI 0) → (∀ e, e < 64 → N.1 124 e = nI (f0 e)) → Wn (d + 5) 111 (PMB M g 124 (LCo (EB σ (okW σ q (σ (160 + q)))) (σ (160 + q)) 0 (xB σ q) (8 * y + x))) (80, [(4, .int (nI 1)), (0, .ref 114), (1, .int (nI q)), (2, .int (nI x)), (3, .int (nI y))], [], N) := by
    intro m
    induction m using Nat.strongRecOn with
    | _ m ih =>
      intro f0 N hm hs fi f00 FN gN hr
      refine Wn.run (tab := tb_m_bows) rfl 2 (c' := (if (nI 1) = 0 then 224 else 85, [(4, .int (nI 1)), (0, .ref 114), (1, .int (nI q)), (2, .int (nI x)), (3, .int (nI y))], [], N)) (o := []) rfl trivial ?_
      rw [if_neg (show ¬ nI 1 = 0 by decide)]
      refine Wn.run (tab := tb_m_bows) rfl 4 (c' := (91, [(5, .int (nI 0)), (4, .int (nI 0)), (0, .ref 114), (1, .int (nI q)), (2, .int (nI x)), (3, .int (nI y))], [], N)) (o := []) rfl trivial ?_
      have cells : ∀ (m2 c : Nat) (b : Bool) (f : Nat → Nat) (N1 : Mm), 64 - c = m2 → c ≤ 64 → RI σ (okW σ q (σ (160 + q))) (σ (160 + q)) 0 (xB σ q) 1000000 f0 f c 0 b → Fr [114, 124] M N1 → N1.1 114 = upd g 0 (nI 0) → (∀ e, e < 64 → N1.1 124 e = nI (f e)) → Wn (d + 5) 111 (PMB M g 124 (LCo (EB σ (okW σ q (σ (160 + q)))) (σ (160 + q)) 0 (xB σ q) (8 * y + x))) (91, [(5, .int (nI c)), (4, .int (b2 (b = true))), (0, .ref 114), (1, .int (nI q)), (2, .int (nI x)), (3, .int (nI y))], [], N1) := by
        intro m2
        induction m2 using Nat.strongRecOn with
        | _ m2 ih2 =>
          intro c b f N1 hm2 hc hI F1 g1 hr1
          refine Wn.run (tab := tb_m_bows) rfl 3 (c' := (if (nI 64) ≤ (nI c) then 221 else 98, [(5, .int (nI c)), (4, .int (b2 (b = true))), (0, .ref 114), (1, .int (nI q)), (2, .int (nI x)), (3, .int (nI y))], [], N1)) (o := []) rfl trivial ?_
          by_cases ce : 64 ≤ c
          · rw [if_pos ((n_le rfl rfl (by omega) (by omega)).mpr ce)]
            have ec : c = 64 := by omega
            subst ec
            refine Wn.run (tab := tb_m_bows) rfl 1 (c' := (80, [(5, .int (nI 64)), (4, .int (b2 (b = true))), (0, .ref 114), (1, .int (nI q)), (2, .int (nI x)), (3, .int (nI y))], [], N1)) (o := []) rfl trivial ?_
            refine Wn.lvp [1, 2, 3, 4, 5] (lv' := [(4, .int (b2 (b = true))), (0, .ref 114), (1, .int (nI q)), (2, .int (nI x)), (3, .int (nI y))]) rfl ?_
            have fi1 : ∀ e, f e ≤ 1000000 := fun e => Nat.le_trans (hI.2.1 e) (fi e)
            cases b with
            | false => exact fin N1 f F1 g1 hr1 fi1 hI.1 (RR_no (xB_mono σ q) fi (by omega) hI 64)
            | true =>
              obtain ⟨k, k1, k2⟩ := hI.2.2.2.2 rfl
              have sl := smN_lt hI.2.1 k2 64 k1
              exact ih (smN f 64) (by omega) f N1 rfl hI.1 fi1 (by have := hI.2.1 (σ (160 + q)); omega) F1 g1 hr1
          · rw [if_neg (mt (n_le rfl rfl (by omega) (by omega)).mp ce)]
            refine Wn.run (tab := tb_m_bows) rfl 2 (c' := (101, [(6, .int (nI 0)), (5, .int (nI c)), (4, .int (b2 (b = true))), (0, .ref 114), (1, .int (nI q)), (2, .int (nI x)), (3, .int (nI y))], [], N1)) (o := []) rfl trivial ?_
            have sides : ∀ (m3 s : Nat) (b : Bool) (f : Nat → Nat) (N2 : Mm), 4 - s = m3 → s ≤ 4 → RI σ (okW σ q (σ (160 + q))) (σ (160 + q)) 0 (xB σ q) 1000000 f0 f c s b → Fr [114, 124] M N2 → N2.1 114 = upd g 0 (nI 0) → (∀ e, e < 64 → N2.1 124 e = nI (f e)) → Wn (d + 5) 111 (PMB M g 124 (LCo (EB σ (okW σ q (σ (160 + q)))) (σ (160 + q)) 0 (xB σ q) (8 * y + x))) (101, [(6, .int (nI s)), (5, .int (nI c)), (4, .int (b2 (b = true))), (0, .ref 114), (1, .int (nI q)), (2, .int (nI x)), (3, .int (nI y))], [], N2) := by
              intro m3
              induction m3 using Nat.strongRecOn with
              | _ m3 ih3 =>
                intro s b f N2 hm3 hs4 hI F2 g2 hr2
                have hMs2 : Ms N2 σ := Ms_fr F2 (by decide) hM
                have fc : f c ≤ 1000000 := Nat.le_trans (hI.2.1 c) (fi c)
                have rc : N2.1 124 ((nI c)).toNatClampNeg = nI (f c) := by rw [nI_clamp (by omega)]; exact hr2 c (by omega)
                have rq : N2.1 116 (((nI 78) + (nI q))).toNatClampNeg = nI (σ (78 + q)) := by rw [nI_add, nI_clamp (by omega)]; exact hMs2.1 _ (by omega)
                have z215 : (s = 4 ∨ ¬ f c < 1000000) → Wn (d + 5) 111 (PMB M g 124 (LCo (EB σ (okW σ q (σ (160 + q)))) (σ (160 + q)) 0 (xB σ q) (8 * y + x))) (215, [(6, .int (nI s)), (5, .int (nI c)), (4, .int (b2 (b = true))), (0, .ref 114), (1, .int (nI q)), (2, .int (nI x)), (3, .int (nI y))], [], N2) := by
                  intro h
                  refine Wn.run (tab := tb_m_bows) rfl 2 (c' := (91, [(5, .int ((nI c) + (nI 1))), (6, .int (nI s)), (4, .int (b2 (b = true))), (0, .ref 114), (1, .int (nI q)), (2, .int (nI x)), (3, .int (nI y))], [], N2)) (o := []) rfl trivial ?_
                  rw [nI_add]
                  refine Wn.lvp [0, 2, 3, 4, 5, 6] (lv' := [(5, .int (nI (c + 1))), (4, .int (b2 (b = true))), (0, .ref 114), (1, .int (nI q)), (2, .int (nI x)), (3, .int (nI y))]) rfl ?_
                  exact ih2 (64 - (c + 1)) (by omega) (c + 1) b f N2 rfl (by omega) (RI_cell hI h) F2 g2 hr2
                refine Wn.run (tab := tb_m_bows) rfl 3 (c' := (if (nI 4) ≤ (nI s) then 215 else 107, [(6, .int (nI s)), (5, .int (nI c)), (4, .int (b2 (b = true))), (0, .ref 114), (1, .int (nI q)), (2, .int (nI x)), (3, .int (nI y))], [], N2)) (o := []) rfl trivial ?_
                by_cases cs : 4 ≤ s
                · rw [if_pos ((n_le rfl rfl (by omega) (by omega)).mpr cs)]
                  exact z215 (Or.inl (by omega))
                rw [if_neg (mt (n_le rfl rfl (by omega) (by omega)).mp cs)]
                refine Wn.run (tab := tb_m_bows) rfl 6 (c' := (if (nI 1000000) ≤ (N2.1 124 ((nI c)).toNatClampNeg) then 215 else 120, [(6, .int (nI s)), (5, .int (nI c)), (4, .int (b2 (b = true))), (0, .ref 114), (1, .int (nI q)), (2, .int (nI x)), (3, .int (nI y))], [], N2)) (o := [shp 114 = (0, 10), aok shp 124 0 (nI c)]) rfl ⟨rfl, (ak1 (n := 64) rfl rfl rfl (by omega))⟩ ?_
                rw [rc]
                by_cases cf : f c < 1000000
                rotate_left
                · rw [if_pos ((n_le rfl rfl (by omega) (by omega)).mpr (by omega))]
                  exact z215 (Or.inr cf)
                rw [if_neg (mt (n_le rfl rfl (by omega) (by omega)).mp (by omega))]
                refine Wn.run (tab := tb_m_bows) rfl 3 (c' := (125, [(6, .int (nI s)), (5, .int (nI c)), (4, .int (b2 (b = true))), (0, .ref 114), (1, .int (nI q)), (2, .int (nI x)), (3, .int (nI y))], [.int (nI s), .int (nI c), .ref 114], N2)) (o := []) rfl trivial ?_
                refine Wn.callV (p := 114) (n := 3) (ix := 281) (ci := (10)) (fun r0 M1 => r0 = some (.int (oI (bes σ c s))) ∧ N2 = M1) [.int (nI c), .int (nI s)] [] rfl rfl rfl rfl (Nat.le_of_ble_eq_true rfl) (Nat.le_of_ble_eq_true rfl) (w_m_beside _ c s (by omega) (by omega) N2 σ hMs2 _ ⟨rfl, rfl⟩) ?_
                rintro _ _ ⟨rfl, rfl⟩
                show Wn _ 111 _ (128, [(6, .int (nI s)), (5, .int (nI c)), (4, .int (b2 (b = true))), (0, .ref 114), (1, .int (nI q)), (2, .int (nI x)), (3, .int (nI y))], [.int (oI (bes σ c s))], N2)
                refine Wn.run (tab := tb_m_bows) rfl 3 (c' := (if (oI (bes σ c s)) < 0 then 209 else 135, [(7, .int (oI (bes σ c s))), (6, .int (nI s)), (5, .int (nI c)), (4, .int (b2 (b = true))), (0, .ref 114), (1, .int (nI q)), (2, .int (nI x)), (3, .int (nI y))], [], N2)) (o := []) rfl trivial ?_
                have z209 : ∀ kk : Int32, (∀ k, bes σ c s = some k → okW σ q (σ (160 + q)) k → f0 c < 1000000 → f k ≤ xB σ q (f0 c) k) → Wn (d + 5) 111 (PMB M g 124 (LCo (EB σ (okW σ q (σ (160 + q)))) (σ (160 + q)) 0 (xB σ q) (8 * y + x))) (209, [(7, .int kk), (6, .int (nI s)), (5, .int (nI c)), (4, .int (b2 (b = true))), (0, .ref 114), (1, .int (nI q)), (2, .int (nI x)), (3, .int (nI y))], [], N2) := by
                  intro kk h
                  refine Wn.run (tab := tb_m_bows) rfl 2 (c' := (101, [(6, .int ((nI s) + (nI 1))), (7, .int kk), (5, .int (nI c)), (4, .int (b2 (b = true))), (0, .ref 114), (1, .int (nI q)), (2, .int (nI x)), (3, .int (nI y))], [], N2)) (o := []) rfl trivial ?_
                  rw [nI_add]
                  refine Wn.lvp [0, 2, 3, 4, 5, 6, 7] (lv' := [(6, .int (nI (s + 1))), (5, .int (nI c)), (4, .int (b2 (b = true))), (0, .ref 114), (1, .int (nI q)), (2, .int (nI x)), (3, .int (nI y))]) rfl ?_
                  exact ih3 (4 - (s + 1)) (by omega) (s + 1) b f N2 rfl (by omega) (RI_skip hI h) F2 g2 hr2
                cases hb : bes σ c s with
                | none =>
                  rw [hb] at z209
                  rw [if_pos (show oI none < 0 by decide)]
                  exact z209 _ (fun k e => by cases e)
                | some k =>
                  rw [hb] at z209
                  have k64 := bes_lt hM.2 (by omega) hb
                  have kc := bes_ne hM.2 (by omega) hb
                  have lk := ld_le hM.2 k
                  have ik := Bd_c hM.2 k k64
                  have rk : N2.1 124 ((nI k)).toNatClampNeg = nI (f k) := by rw [nI_clamp (by omega)]; exact hr2 k (by omega)
                  have fk : f k ≤ 1000000 := Nat.le_trans (hI.2.1 k) (fi k)
                  show Wn _ 111 _ (if nI k < 0 then _ else _, [(7, .int (nI k)), (6, .int (nI s)), (5, .int (nI c)), (4, .int (b2 (b = true))), (0, .ref 114), (1, .int (nI q)), (2, .int (nI x)), (3, .int (nI y))], [], N2)
                  rw [if_neg (show ¬ nI k < 0 from mt (n_lt rfl nI_0.symm (by omega) (by omega)).mp (Nat.not_lt_zero _))]
                  refine Wn.run (tab := tb_m_bows) rfl 2 (c' := (138, [(7, .int (nI k)), (6, .int (nI s)), (5, .int (nI c)), (4, .int (b2 (b = true))), (0, .ref 114), (1, .int (nI q)), (2, .int (nI x)), (3, .int (nI y))], [.int (nI k), .ref 114], N2)) (o := []) rfl trivial ?_
                  refine Wn.callV (p := 114) (n := 2) (ix := 269) (ci := (10)) (fun r0 M1 => r0 = some (.int (nI (ld σ k))) ∧ N2 = M1) [.int (nI k)] [] rfl rfl rfl rfl (Nat.le_of_ble_eq_true rfl) (Nat.le_of_ble_eq_true rfl) (w_m_loadsOn _ k (by omega) N2 σ hMs2 _ ⟨rfl, rfl⟩) ?_
                  rintro _ _ ⟨rfl, rfl⟩
                  show Wn _ 111 _ (141, [(7, .int (nI k)), (6, .int (nI s)), (5, .int (nI c)), (4, .int (b2 (b = true))), (0, .ref 114), (1, .int (nI q)), (2, .int (nI x)), (3, .int (nI y))], [.int (nI (ld σ k))], N2)
                  refine Wn.run (tab := tb_m_bows) rfl 9 (c' := (if (nI 9) < ((nI (ld σ k)) + (N2.1 116 (((nI 78) + (nI q))).toNatClampNeg)) then 209 else 156, [(7, .int (nI k)), (6, .int (nI s)), (5, .int (nI c)), (4, .int (b2 (b = true))), (0, .ref 114), (1, .int (nI q)), (2, .int (nI x)), (3, .int (nI y))], [], N2)) (o := [shp 114 = (0, 10), aok shp 116 0 ((nI 78) + (nI q))]) rfl ⟨rfl, (ak1 (n := 359) rfl rfl (nI_add 78 q) (by omega))⟩ ?_
                  rw [rq, nI_add]
                  by_cases cl : 9 < ld σ k + σ (78 + q)
                  · rw [if_pos ((n_lt rfl rfl (by omega) (by omega)).mpr cl)]
                    refine z209 _ (fun k2 e ho => ?_)
                    cases e
                    have := ho.1
                    omega
                  rw [if_neg (mt (n_lt rfl rfl (by omega) (by omega)).mp cl)]
                  refine Wn.run (tab := tb_m_bows) rfl 7 (c' := (167, [(7, .int (nI k)), (6, .int (nI s)), (5, .int (nI c)), (4, .int (b2 (b = true))), (0, .ref 114), (1, .int (nI q)), (2, .int (nI x)), (3, .int (nI y))], [.int (nI k), .int (nI q), .ref 114, .int (N2.1 124 ((nI c)).toNatClampNeg)], N2)) (o := [shp 114 = (0, 10), aok shp 124 0 (nI c)]) rfl ⟨rfl, (ak1 (n := 64) rfl rfl rfl (by omega))⟩ ?_
                  rw [rc]
                  refine Wn.callV (p := 114) (n := 3) (ix := 284) (ci := (10)) (fun r0 M1 => r0 = some (.int (nI (ld σ k + σ (78 + q) - σ (96 + k)))) ∧ N2 = M1) [.int (nI q), .int (nI k)] [.int (nI (f c))] rfl rfl rfl rfl (Nat.le_of_ble_eq_true rfl) (Nat.le_of_ble_eq_true rfl) (w_m_lacks _ q k (by omega) k64 N2 σ hMs2 _ ⟨rfl, rfl⟩) ?_
                  rintro _ _ ⟨rfl, rfl⟩
                  show Wn _ 111 _ (170, [(7, .int (nI k)), (6, .int (nI s)), (5, .int (nI c)), (4, .int (b2 (b = true))), (0, .ref 114), (1, .int (nI q)), (2, .int (nI x)), (3, .int (nI y))], [.int (nI (ld σ k + σ (78 + q) - σ (96 + k))), .int (nI (f c))], N2)
                  refine Wn.run (tab := tb_m_bows) rfl 6 (c' := (if ((nI (f c)) + (nI (ld σ k + σ (78 + q) - σ (96 + k)))) < (N2.1 124 ((nI k)).toNatClampNeg) then 184 else 181, [(7, .int (nI k)), (6, .int (nI s)), (5, .int (nI c)), (4, .int (b2 (b = true))), (0, .ref 114), (1, .int (nI q)), (2, .int (nI x)), (3, .int (nI y))], [], N2)) (o := [shp 114 = (0, 10), aok shp 124 0 (nI k)]) rfl ⟨rfl, (ak1 (n := 64) rfl rfl rfl (by omega))⟩ ?_
                  rw [rk, nI_add]
                  by_cases cx : xB σ q (f c) k < f k
                  rotate_left
                  · have cx2 : ¬ f c + (ld σ k + σ (78 + q) - σ (96 + k)) < f k := cx
                    rw [if_neg (mt (n_lt rfl rfl (by omega) (by omega)).mp cx2)]
                    refine Wn.run (tab := tb_m_bows) rfl 1 (c' := (209, [(7, .int (nI k)), (6, .int (nI s)), (5, .int (nI c)), (4, .int (b2 (b = true))), (0, .ref 114), (1, .int (nI q)), (2, .int (nI x)), (3, .int (nI y))], [], N2)) (o := []) rfl trivial ?_
                    refine z209 _ (fun k2 e ho _ => ?_)
                    cases e
                    have a := (xB_mono σ q).1 _ _ k (hI.2.1 c)
                    omega
                  have cx2 : f c + (ld σ k + σ (78 + q) - σ (96 + k)) < f k := cx
                  rw [if_pos ((n_lt rfl rfl (by omega) (by omega)).mpr cx2)]
                  refine Wn.run (tab := tb_m_bows) rfl 10 (c' := (201, [(7, .int (nI k)), (6, .int (nI s)), (5, .int (nI c)), (4, .int (b2 (b = true))), (0, .ref 114), (1, .int (nI q)), (2, .int (nI x)), (3, .int (nI y))], [.int (nI k), .int (nI q), .ref 114, .int (N2.1 124 ((nI c)).toNatClampNeg), .int (nI k), .ref 124], N2)) (o := [shp 114 = (0, 10), shp 114 = (0, 10), aok shp 124 0 (nI c)]) rfl ⟨rfl, rfl, (ak1 (n := 64) rfl rfl rfl (by omega))⟩ ?_
                  rw [rc]
                  refine Wn.callV (p := 114) (n := 3) (ix := 284) (ci := (10)) (fun r0 M1 => r0 = some (.int (nI (ld σ k + σ (78 + q) - σ (96 + k)))) ∧ N2 = M1) [.int (nI q), .int (nI k)] [.int (nI (f c)), .int (nI k), .ref 124] rfl rfl rfl rfl (Nat.le_of_ble_eq_true rfl) (Nat.le_of_ble_eq_true rfl) (w_m_lacks _ q k (by omega) k64 N2 σ hMs2 _ ⟨rfl, rfl⟩) ?_
                  rintro _ _ ⟨rfl, rfl⟩
                  show Wn _ 111 _ (204, [(7, .int (nI k)), (6, .int (nI s)), (5, .int (nI c)), (4, .int (b2 (b = true))), (0, .ref 114), (1, .int (nI q)), (2, .int (nI x)), (3, .int (nI y))], [.int (nI (ld σ k + σ (78 + q) - σ (96 + k))), .int (nI (f c)), .int (nI k), .ref 124], N2)
                  refine Wn.run (tab := tb_m_bows) rfl 2 (c' := (206, [(7, .int (nI k)), (6, .int (nI s)), (5, .int (nI c)), (4, .int (b2 (b = true))), (0, .ref 114), (1, .int (nI q)), (2, .int (nI x)), (3, .int (nI y))], [], (mI N2 124 (upd (N2.1 124) ((nI k)).toNatClampNeg ((nI (f c)) + (nI (ld σ k + σ (78 + q) - σ (96 + k)))))))) (o := [aok shp 124 0 (nI k)]) rfl (ak1 (n := 64) rfl rfl rfl (by omega)) ?_
                  rw [show ((nI k)).toNatClampNeg = k from nI_clamp (by omega), nI_add]
                  generalize hN3 : (mI N2 124 (upd (N2.1 124) k (nI (f c + (ld σ k + σ (78 + q) - σ (96 + k)))))) = N3
                  have r3 : ∀ e, e < 64 → N3.1 124 e = nI (su f k (xB σ q (f c) k) e) := rwo_up (v := f c + (ld σ k + σ (78 + q) - σ (96 + k))) hN3 hr2
                  have f3 := fr_1I hN3
                  refine Wn.run (tab := tb_m_bows) rfl 4 (c' := (101, [(6, .int ((nI s) + (nI 1))), (4, .int (nI 1)), (7, .int (nI k)), (5, .int (nI c)), (0, .ref 114), (1, .int (nI q)), (2, .int (nI x)), (3, .int (nI y))], [], N3)) (o := []) rfl trivial ?_
                  rw [nI_add]
                  refine Wn.lvp [0, 3, 1, 4, 5, 6, 7] (lv' := [(6, .int (nI (s + 1))), (5, .int (nI c)), (4, .int (b2 (true = true))), (0, .ref 114), (1, .int (nI q)), (2, .int (nI x)), (3, .int (nI y))]) rfl ?_
                  exact ih3 (4 - (s + 1)) (by omega) (s + 1) true _ N3 rfl (by omega) (RI_take (xB_mono σ q) hI (by omega) (by omega) k64 hb ⟨by omega, fun e => by rw [e] at cx2; have := hI.2.1 (σ (160 + q)); omega⟩ cf cx) (fr_tr F2 f3 (by decide)) (by rw [(f3 114 (by decide)).1]; exact g2) r3
            exact sides 4 0 b f N1 rfl (by omega) hI F1 g1 hr1
      exact cells 64 0 false f0 N rfl (by omega) (RI_0 hs) FN gN hr
  have init : ∀ (m z : Nat) (N : Mm), 64 - z = m → z ≤ 64 → Fr [114, 124] M N → N.1 114 = upd g 0 (nI 0) → (∀ e, e < z → N.1 124 e = nI (f0B (σ (160 + q)) 1000000 e)) → Wn (d + 5) 111 (PMB M g 124 (LCo (EB σ (okW σ q (σ (160 + q)))) (σ (160 + q)) 0 (xB σ q) (8 * y + x))) (35, [(4, .int (nI z)), (0, .ref 114), (1, .int (nI q)), (2, .int (nI x)), (3, .int (nI y))], [], N) := by
    intro m
    induction m using Nat.strongRecOn with
    | _ m ih =>
      intro z N hm hz FN gN hr
      have hMs2 : Ms N σ := Ms_fr FN (by decide) hM
      have rq : N.1 116 (((nI 160) + (nI q))).toNatClampNeg = nI (σ (160 + q)) := by rw [nI_add, nI_clamp (by omega)]; exact hMs2.1 _ (by omega)
      refine Wn.run (tab := tb_m_bows) rfl 3 (c' := (if (nI 64) ≤ (nI z) then 77 else 42, [(4, .int (nI z)), (0, .ref 114), (1, .int (nI q)), (2, .int (nI x)), (3, .int (nI y))], [], N)) (o := []) rfl trivial ?_
      by_cases ce : 64 ≤ z
      · rw [if_pos ((n_le rfl rfl (by omega) (by omega)).mpr ce)]
        refine Wn.run (tab := tb_m_bows) rfl 2 (c' := (80, [(4, .int (nI 1)), (0, .ref 114), (1, .int (nI q)), (2, .int (nI x)), (3, .int (nI y))], [], N)) (o := []) rfl trivial ?_
        exact main _ _ N rfl (f0B_snd hst) (fun e => f0B_le _ _ e) (if_pos rfl) FN gN (fun e he => hr e (by omega))
      · rw [if_neg (mt (n_le rfl rfl (by omega) (by omega)).mp ce)]
        refine Wn.run (tab := tb_m_bows) rfl 11 (c' := (if ¬ (nI z) = (N.1 116 (((nI 160) + (nI q))).toNatClampNeg) then 67 else 63, [(4, .int (nI z)), (0, .ref 114), (1, .int (nI q)), (2, .int (nI x)), (3, .int (nI y))], [.int (nI z), .ref 124], N)) (o := [shp 114 = (0, 10), shp 114 = (0, 10), aok shp 116 0 ((nI 160) + (nI q))]) rfl ⟨rfl, rfl, (ak1 (n := 359) rfl rfl (nI_add 160 q) (by omega))⟩ ?_
        rw [rq]
        have nx : ∀ v : Nat, v = f0B (σ (160 + q)) 1000000 z → Wn (d + 5) 111 (PMB M g 124 (LCo (EB σ (okW σ q (σ (160 + q)))) (σ (160 + q)) 0 (xB σ q) (8 * y + x))) (70, [(4, .int (nI z)), (0, .ref 114), (1, .int (nI q)), (2, .int (nI x)), (3, .int (nI y))], [.int (nI v), .int (nI z), .ref 124], N) := by
          intro v hv
          refine Wn.run (tab := tb_m_bows) rfl 1 (c' := (71, [(4, .int (nI z)), (0, .ref 114), (1, .int (nI q)), (2, .int (nI x)), (3, .int (nI y))], [], (mI N 124 (upd (N.1 124) ((nI z)).toNatClampNeg (nI v))))) (o := [aok shp 124 0 (nI z)]) rfl (ak1 (n := 64) rfl rfl rfl (by omega)) ?_
          rw [show ((nI z)).toNatClampNeg = z from nI_clamp (by omega)]
          generalize hN3 : (mI N 124 (upd (N.1 124) z (nI v))) = N3
          have f3 := fr_1I hN3
          refine Wn.run (tab := tb_m_bows) rfl 2 (c' := (35, [(4, .int ((nI z) + (nI 1))), (0, .ref 114), (1, .int (nI q)), (2, .int (nI x)), (3, .int (nI y))], [], N3)) (o := []) rfl trivial ?_
          rw [nI_add]
          refine ih (64 - (z + 1)) (by omega) (z + 1) N3 rfl (by omega) (fr_tr FN f3 (by decide)) (by rw [(f3 114 (by decide)).1]; exact gN) (fun e he => ?_)
          rw [mI_eq hN3]
          by_cases ez : e = z
          · rw [ez, pk_us, hv]
          · rw [pk_un ez]; exact hr e (by omega)
        by_cases cz : z = σ (160 + q)
        · rw [if_neg (fun e => e ((n_eq rfl rfl (by omega) (by omega)).mpr cz))]
          refine Wn.run (tab := tb_m_bows) rfl 2 (c' := (70, [(4, .int (nI z)), (0, .ref 114), (1, .int (nI q)), (2, .int (nI x)), (3, .int (nI y))], [.int (nI 0), .int (nI z), .ref 124], N)) (o := []) rfl trivial ?_
          exact nx 0 (by unfold f0B; rw [if_pos cz])
        · rw [if_pos (mt (n_eq rfl rfl (by omega) (by omega)).mp cz)]
          refine Wn.run (tab := tb_m_bows) rfl 1 (c' := (70, [(4, .int (nI z)), (0, .ref 114), (1, .int (nI q)), (2, .int (nI x)), (3, .int (nI y))], [.int (nI 1000000), .int (nI z), .ref 124], N)) (o := []) rfl trivial ?_
          exact nx 1000000 (by unfold f0B; rw [if_neg cz])
  exact init 64 0 M0 rfl (by omega) F0 g0 (fun e he => absurd he (Nat.not_lt_zero _))
