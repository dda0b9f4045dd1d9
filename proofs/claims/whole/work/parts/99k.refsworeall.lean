/-! Swore, by the reference: all of it. -/
def KW : List Nat := [0, 2, 3, 4, 5, 31, 32]
/-- the least so far, by the reference -/
def lF (o : Option (Nat × Nat)) : Nat := match o with
  | none => 1000000
  | some v => v.2
def PMW (M0 : Mm) (g : Nat → Int32) (σ T : Nat → Nat) (L : Nat) : Po := fun r0 M' => Fr [114] M0 M' ∧ M'.2 = M0.2 ∧ M'.1 114 0 = nI 0 ∧ M'.1 114 2 = nI 0 ∧ Gx KW g (M'.1 114) ∧ (tri σ T L → r0 = some (.int (nI (ssN σ T L (σ 2)))) ∧ (0 < ssN σ T L (σ 2) → M'.1 114 32 = nI 1 ∧ M'.1 114 31 = bI (bqN σ (ssN σ T L (σ 2)) (σ 2) 64))) ∧ ((¬ tri σ T L ∨ ¬ 0 < ssN σ T L (σ 2)) → (¬ tri σ T L → r0 = some (.int (-1))) ∧ M'.1 114 32 = g 32 ∧ M'.1 114 31 = g 31)
set_option maxRecDepth 20000 in
theorem c_m_swore (d : Nat) (M : Mm) (g : Nat → Int32) (hg : M.1 114 = g) (σ : Nat → Nat) (hM : Ms M σ) (T : Nat → Nat) (L : Nat) (h2 : g 2 = nI L) (hT : TM (M.1 115) T L) (hL : L ≤ 940) : Wn (d + 4) 119 (PMW M g σ T L) (0, lv_args 0 [.ref 114], [], M) := by
  have b6 := Bd_2 hM.2
  have w8 := hM.2.1
  have w9 := hM.2.2.1
  have h8 := hM.2.2.2.1
  have h9 := hM.2.2.2.2.1
  refine Wn.run (tab := tb_m_swore) rfl 3 (c' := (5, [(0, .ref 114)], [], (mI M 114 (upd (M.1 114) 0 (nI 0))))) (o := [shp 114 = (0, 10)]) rfl rfl ?_
  rw [hg]
  generalize hM0 : (mI M 114 (upd g 0 (nI 0))) = M0
  have f0 := fr_1I hM0
  have g0 : M0.1 114 = upd g 0 (nI 0) := mI_eq hM0
  have m0 : M0.2 = M.2 := by rw [← hM0]; rfl
  refine Wn.run (tab := tb_m_swore) rfl 2 (c' := (9, [(0, .ref 114)], [.int (nI 940), .ref 114], M0)) (o := []) rfl trivial ?_
  refine Wn.callV (p := 114) (n := 2) (ix := 241) (ci := (10)) (PTa M0 (upd g 0 (nI 0)) L (nI 940)) [.int (nI 940)] [] rfl rfl rfl rfl (Nat.le_of_ble_eq_true rfl) (Nat.le_of_ble_eq_true rfl) (c_m_taken _ M0 _ g0 L (by rw [pk_un (by decide)]; exact h2) (nI 940)) ?_
  rintro r0 M1 ⟨rfl, g1, m1, f1⟩
  have F1 : Fr [114] M M1 := fr_tr f0 f1 (by decide)
  have N1 : M1.2 = M.2 := m1.trans m0
  have hM1 : Ms M1 σ := Ms_fr F1 (by decide) hM
  have T1 : TM (M1.1 115) T L := by rw [(F1 115 (by decide)).1]; exact hT
  have e3 : M1.1 114 3 = nI L := by rw [g1]; rfl
  have e0 : M1.1 114 0 = nI 0 := by rw [g1]; rfl
  have e2 : M1.1 114 2 = nI 0 := by rw [g1]; rfl
  have e31 : M1.1 114 31 = g 31 := by rw [g1]; rfl
  have e32 : M1.1 114 32 = g 32 := by rw [g1]; rfl
  have X1 : Gx KW g (M1.1 114) := by rw [g1]; exact Gx_up (Gx_up (Gx_up (Gx_up (Gx_up (Gx_rf _ _) (by decide)) (by decide)) (by decide)) (by decide)) (by decide)
  have r2 : M1.1 116 2 = nI (σ 2) := hM1.1 2 (by decide)
  show Wn _ 119 _ (12, [(0, .ref 114)], [], M1)
  refine Wn.run (tab := tb_m_swore) rfl 4 (c' := (19, [(0, .ref 114)], [.int (nI 18), .int (nI 3), .int (M1.1 114 3)], M1)) (o := [shp 114 = (0, 10)]) rfl rfl ?_
  rw [e3]
  refine Wn.callS (n := 3) (ix := 194) (fun r0 M0 => r0 = some (.int (b2 (3 ≤ L ∧ L ≤ 18))) ∧ M1 = M0) [.int (nI L), .int (nI 3), .int (nI 18)] [] rfl rfl rfl (Nat.le_of_ble_eq_true rfl) (Nat.le_of_ble_eq_true rfl) (w_m_isInN _ _ _ _ (by omega) (by omega) (by omega) M1 _ ⟨rfl, rfl⟩) ?_
  rintro _ _ ⟨rfl, rfl⟩
  show Wn _ 119 _ (22, [(0, .ref 114)], [.int (b2 (3 ≤ L ∧ L ≤ 18))], M1)
  have z34 : ¬ tri σ T L → Wn (d + 4) 119 (PMW M g σ T L) (34, [(0, .ref 114)], [], M1) := by
    intro nt
    refine Wn.run (tab := tb_m_swore) rfl 1 (c' := (35, [(0, .ref 114)], [.int (-1 : Int32)], M1)) (o := []) rfl trivial ?_
    exact Wn.iret rfl ⟨F1, N1, e0, e2, X1, fun q => absurd q nt, fun _ => ⟨fun _ => rfl, e32, e31⟩⟩
  refine Wn.run (tab := tb_m_swore) rfl 1 (c' := (if (b2 (3 ≤ L ∧ L ≤ 18)) = 0 then 34 else 25, [(0, .ref 114)], [], M1)) (o := []) rfl trivial ?_
  by_cases c1 : 3 ≤ L ∧ L ≤ 18
  rotate_left
  · rw [if_pos (b2_e0.mpr c1)]
    exact z34 (fun q => c1 ⟨q.1.1, q.1.2.1⟩)
  rw [if_neg (b2_n0.mpr c1)]
  refine Wn.run (tab := tb_m_swore) rfl 5 (c' := (if ((M1.1 114 3) - (M1.1 114 3) / (nI 3) * (nI 3)) = 0 then 36 else 34, [(0, .ref 114)], [], M1)) (o := [shp 114 = (0, 10), ¬ (nI 3) = 0]) rfl ⟨rfl, (show ¬ (nI 3) = 0 by decide)⟩ ?_
  rw [e3, show ((nI L) - (nI L) / (nI 3) * (nI 3)) = nI (L % 3) from n_mod3 L (by omega)]
  by_cases c3 : L % 3 = 0
  rotate_left
  · rw [if_neg (mt (n_eq rfl nI_0.symm (by omega) (by omega)).mp c3)]
    exact z34 (fun q => c3 q.1.2.2)
  rw [if_pos ((n_eq rfl nI_0.symm (by omega) (by omega)).mpr c3)]
  have last : tri σ T L → ∀ st, st = ssN σ T L (σ 2) → 0 < st → st < 64 → ∀ (m c : Nat) (M3 : Mm), 64 - c = m → c ≤ 64 → Fr [114] M M3 → M3.2 = M.2 → Gx KW g (M3.1 114) → M3.1 114 0 = nI 0 → M3.1 114 2 = nI 0 → M3.1 114 32 = nI 1 → (∀ b l, bqN σ st (σ 2) c = some (b, l) → M3.1 114 31 = nI b) → Wn (d + 4) 119 (PMW M g σ T L) (128, [(3, .int (nI c)), (2, .int (nI (lF (bqN σ st (σ 2) c)))), (1, .int (nI st)), (0, .ref 114)], [], M3) := by
    intro ct st est s0 s6 m
    induction m using Nat.strongRecOn with
    | _ m ih =>
      intro c M3 hm hc F3 N3 X3 a0 a2 a32 a31
      have lb : lF (bqN σ st (σ 2) c) ≤ 1000000 := by
        cases hb : bqN σ st (σ 2) c with
        | none => exact Nat.le_refl _
        | some v => obtain ⟨b, l⟩ := v; have := bqN_lt hb; show l ≤ _; omega
      refine Wn.run (tab := tb_m_swore) rfl 3 (c' := (if (nI 64) ≤ (nI c) then 180 else 134, [(3, .int (nI c)), (2, .int (nI (lF (bqN σ st (σ 2) c)))), (1, .int (nI st)), (0, .ref 114)], [], M3)) (o := []) rfl trivial ?_
      by_cases ce : 64 ≤ c
      · rw [if_pos ((n_le rfl rfl (by omega) (by omega)).mpr ce)]
        have ec : c = 64 := by omega
        subst ec
        refine Wn.run (tab := tb_m_swore) rfl 1 (c' := (181, [(3, .int (nI 64)), (2, .int (nI (lF (bqN σ st (σ 2) 64)))), (1, .int (nI st)), (0, .ref 114)], [.int (nI st)], M3)) (o := []) rfl trivial ?_
        obtain ⟨b, l, hb⟩ := bqN_some (st := st) (m := σ 2) hM.2 64 (by decide)
        refine Wn.iret rfl ⟨F3, N3, a0, a2, X3, fun _ => ⟨by rw [est], fun _ => ⟨a32, ?_⟩⟩, fun q => ?_⟩
        · rw [← est, hb]; exact a31 b l hb
        · exfalso; rcases q with q | q
          · exact q ct
          · rw [← est] at q; exact q s0
      · rw [if_neg (mt (n_le rfl rfl (by omega) (by omega)).mp ce)]
        refine Wn.run (tab := tb_m_swore) rfl 7 (c' := (143, [(3, .int (nI c)), (2, .int (nI (lF (bqN σ st (σ 2) c)))), (1, .int (nI st)), (0, .ref 114)], [.int ((nI c) / (nI 8)), .int ((nI c) - (nI c) / (nI 8) * (nI 8)), .ref 114], M3)) (o := [¬ (nI 8) = 0, ¬ (nI 8) = 0]) rfl ⟨(show ¬ (nI 8) = 0 by decide), (show ¬ (nI 8) = 0 by decide)⟩ ?_
        rw [n_rem (a := c) (b := 8) rfl rfl (by omega) (by decide) (by decide), n_div (a := c) (b := 8) rfl rfl (by omega) (by decide) (by decide)]
        have hM3 : Ms M3 σ := Ms_fr F3 (by decide) hM
        refine Wn.callV (p := 114) (n := 3) (ix := 266) (ci := (10)) (fun r0 M0 => r0 = some (.int (b2 (c % 8 < σ 0 ∧ c / 8 < σ 1))) ∧ M3 = M0) [.int (nI (c % 8)), .int (nI (c / 8))] [] rfl rfl rfl rfl (Nat.le_of_ble_eq_true rfl) (Nat.le_of_ble_eq_true rfl) (w_m_isCellN _ _ _ (by omega) (by omega) M3 σ hM3 _ ⟨rfl, rfl⟩) ?_
        rintro _ _ ⟨rfl, rfl⟩
        show Wn _ 119 _ (146, [(3, .int (nI c)), (2, .int (nI (lF (bqN σ st (σ 2) c)))), (1, .int (nI st)), (0, .ref 114)], [.int (b2 (c % 8 < σ 0 ∧ c / 8 < σ 1))], M3)
        refine Wn.run (tab := tb_m_swore) rfl 1 (c' := (if (b2 (c % 8 < σ 0 ∧ c / 8 < σ 1)) = 0 then 174 else 149, [(3, .int (nI c)), (2, .int (nI (lF (bqN σ st (σ 2) c)))), (1, .int (nI st)), (0, .ref 114)], [], M3)) (o := []) rfl trivial ?_
        have nx : ∀ (l : Nat) (M4 : Mm), l = lF (bqN σ st (σ 2) (c + 1)) → Fr [114] M M4 → M4.2 = M.2 → Gx KW g (M4.1 114) → M4.1 114 0 = nI 0 → M4.1 114 2 = nI 0 → M4.1 114 32 = nI 1 → (∀ b l, bqN σ st (σ 2) (c + 1) = some (b, l) → M4.1 114 31 = nI b) → Wn (d + 4) 119 (PMW M g σ T L) (174, [(3, .int (nI c)), (2, .int (nI l)), (1, .int (nI st)), (0, .ref 114)], [], M4) := by
          intro l M4 hl q1 q2 q3 q4 q5 q6 q7
          refine Wn.run (tab := tb_m_swore) rfl 2 (c' := (128, [(3, .int ((nI c) + (nI 1))), (2, .int (nI l)), (1, .int (nI st)), (0, .ref 114)], [], M4)) (o := []) rfl trivial ?_
          rw [nI_add, hl]
          exact ih (64 - (c + 1)) (by omega) (c + 1) M4 rfl (by omega) q1 q2 q3 q4 q5 q6 q7
        have e1 : bqN σ st (σ 2) (c + 1) = if inL σ c then (match bqN σ st (σ 2) c with
          | none => some (c, mxA σ st c (σ 2) (σ 2))
          | some (b, l) => if mxA σ st c (σ 2) (σ 2) < l then some (c, mxA σ st c (σ 2) (σ 2)) else some (b, l)) else bqN σ st (σ 2) c := rfl
        by_cases ci : inL σ c
        rotate_left
        · rw [if_pos (b2_e0.mpr ci)]
          rw [if_neg ci] at e1
          exact nx _ M3 (by rw [e1]) F3 N3 X3 a0 a2 a32 (fun b l q => a31 b l (by rw [← e1]; exact q))
        rw [if_neg (b2_n0.mpr ci)]
        rw [if_pos ci] at e1
        have mm := mxA_m σ st c (σ 2)
        have me := mx_eq hM.2 (st := st) (m := σ 2) (c := c) (by omega)
        refine Wn.run (tab := tb_m_swore) rfl 3 (c' := (152, [(3, .int (nI c)), (2, .int (nI (lF (bqN σ st (σ 2) c)))), (1, .int (nI st)), (0, .ref 114)], [.int (nI c), .int (nI st), .ref 114], M3)) (o := []) rfl trivial ?_
        refine Wn.callV (p := 114) (n := 3) (ix := 367) (ci := (10)) (fun r0 M0 => r0 = some (.int (nI (mxA σ st c (σ 2) (σ 2)))) ∧ M3 = M0) [.int (nI st), .int (nI c)] [] rfl rfl rfl rfl (Nat.le_of_ble_eq_true rfl) (Nat.le_of_ble_eq_true rfl) (w_m_leftBy _ M3 σ hM3 st c s6 (by omega) _ ⟨by rw [← me], rfl⟩) ?_
        rintro _ _ ⟨rfl, rfl⟩
        show Wn _ 119 _ (155, [(3, .int (nI c)), (2, .int (nI (lF (bqN σ st (σ 2) c)))), (1, .int (nI st)), (0, .ref 114)], [.int (nI (mxA σ st c (σ 2) (σ 2)))], M3)
        refine Wn.run (tab := tb_m_swore) rfl 2 (c' := (if (nI (mxA σ st c (σ 2) (σ 2))) < (nI (lF (bqN σ st (σ 2) c))) then 162 else 159, [(3, .int (nI c)), (2, .int (nI (lF (bqN σ st (σ 2) c)))), (1, .int (nI st)), (0, .ref 114)], [], M3)) (o := []) rfl trivial ?_
        by_cases cl : mxA σ st c (σ 2) (σ 2) < lF (bqN σ st (σ 2) c)
        rotate_left
        · rw [if_neg (mt (n_lt rfl rfl (by omega) (by omega)).mp cl)]
          refine Wn.run (tab := tb_m_swore) rfl 1 (c' := (174, [(3, .int (nI c)), (2, .int (nI (lF (bqN σ st (σ 2) c)))), (1, .int (nI st)), (0, .ref 114)], [], M3)) (o := []) rfl trivial ?_
          have e2 : bqN σ st (σ 2) (c + 1) = bqN σ st (σ 2) c := by
            cases hb : bqN σ st (σ 2) c with
            | none => rw [hb] at cl; exact absurd (show _ < 1000000 by omega) cl
            | some v =>
              obtain ⟨b, l⟩ := v
              rw [hb] at cl e1
              rw [e1]
              show (if _ < l then _ else _) = _
              rw [if_neg (show ¬ _ < l from cl)]
          exact nx _ M3 (by rw [e2]) F3 N3 X3 a0 a2 a32 (fun b l q => a31 b l (by rw [← e2]; exact q))
        rw [if_pos ((n_lt rfl rfl (by omega) (by omega)).mpr cl)]
        have e2 : bqN σ st (σ 2) (c + 1) = some (c, mxA σ st c (σ 2) (σ 2)) := by
          cases hb : bqN σ st (σ 2) c with
          | none => rw [hb] at e1; exact e1
          | some v =>
            obtain ⟨b, l⟩ := v
            rw [hb] at cl e1
            rw [e1]
            show (if _ < l then _ else _) = _
            rw [if_pos (show _ < l from cl)]
        refine Wn.run (tab := tb_m_swore) rfl 3 (c' := (165, [(3, .int (nI c)), (2, .int (nI (lF (bqN σ st (σ 2) c)))), (1, .int (nI st)), (0, .ref 114)], [.int (nI c), .int (nI st), .ref 114], M3)) (o := []) rfl trivial ?_
        refine Wn.callV (p := 114) (n := 3) (ix := 367) (ci := (10)) (fun r0 M0 => r0 = some (.int (nI (mxA σ st c (σ 2) (σ 2)))) ∧ M3 = M0) [.int (nI st), .int (nI c)] [] rfl rfl rfl rfl (Nat.le_of_ble_eq_true rfl) (Nat.le_of_ble_eq_true rfl) (w_m_leftBy _ M3 σ hM3 st c s6 (by omega) _ ⟨by rw [← me], rfl⟩) ?_
        rintro _ _ ⟨rfl, rfl⟩
        show Wn _ 119 _ (168, [(3, .int (nI c)), (2, .int (nI (lF (bqN σ st (σ 2) c)))), (1, .int (nI st)), (0, .ref 114)], [.int (nI (mxA σ st c (σ 2) (σ 2)))], M3)
        refine Wn.run (tab := tb_m_swore) rfl 4 (c' := (174, [(2, .int (nI (mxA σ st c (σ 2) (σ 2)))), (3, .int (nI c)), (1, .int (nI st)), (0, .ref 114)], [], (mI M3 114 (upd (M3.1 114) 31 (nI c))))) (o := [shp 114 = (0, 10)]) rfl rfl ?_
        generalize hM4 : (mI M3 114 (upd (M3.1 114) 31 (nI c))) = M4
        have g4 : M4.1 114 = upd (M3.1 114) 31 (nI c) := mI_eq hM4
        refine Wn.lvp [1, 0, 2, 3] (lv' := [(3, .int (nI c)), (2, .int (nI (mxA σ st c (σ 2) (σ 2)))), (1, .int (nI st)), (0, .ref 114)]) rfl ?_
        refine nx _ M4 (by rw [e2]; rfl) (fr_tr F3 (fr_1I hM4) (by decide)) (by rw [← hM4]; exact N3) (by rw [g4]; exact Gx_up X3 (by decide)) (by rw [g4, pk_un (by decide)]; exact a0) (by rw [g4, pk_un (by decide)]; exact a2) (by rw [g4, pk_un (by decide)]; exact a32) (fun b l q => ?_)
        rw [e2] at q
        cases q
        rw [g4, pk_us]
  have sets : tri σ T L → ∀ (m p : Nat), σ 2 - p = m → p ≤ σ 2 → Wn (d + 4) 119 (PMW M g σ T L) (77, [(2, .int (nI p)), (1, .int (nI (ssN σ T L p))), (0, .ref 114)], [], M1) := by
    intro ct m
    induction m using Nat.strongRecOn with
    | _ m ih =>
      intro p hm hp
      have sl := ssN_lt σ T L p
      refine Wn.run (tab := tb_m_swore) rfl 6 (c' := (if (M1.1 116 2) ≤ (nI p) then 111 else 87, [(2, .int (nI p)), (1, .int (nI (ssN σ T L p))), (0, .ref 114)], [], M1)) (o := [shp 114 = (0, 10), aok shp 116 0 (nI 2)]) rfl ⟨rfl, ⟨rfl, vp_in_nI (by decide) (by decide)⟩⟩ ?_
      rw [r2]
      by_cases ce : σ 2 ≤ p
      · rw [if_pos ((n_le rfl rfl (by omega) (by omega)).mpr ce)]
        have ep : p = σ 2 := by omega
        subst ep
        have s6 : ssN σ T L (σ 2) < 64 := by
          have := Nat.pow_le_pow_right (show 0 < 2 by decide) b6
          omega
        refine Wn.run (tab := tb_m_swore) rfl 2 (c' := (if ¬ (nI (ssN σ T L (σ 2))) = 0 then 117 else 115, [(2, .int (nI (σ 2))), (1, .int (nI (ssN σ T L (σ 2)))), (0, .ref 114)], [], M1)) (o := []) rfl trivial ?_
        by_cases c0 : ssN σ T L (σ 2) = 0
        · rw [if_neg (fun q => q ((n_eq rfl nI_0.symm (by omega) (by omega)).mpr c0))]
          refine Wn.run (tab := tb_m_swore) rfl 1 (c' := (116, [(2, .int (nI (σ 2))), (1, .int (nI (ssN σ T L (σ 2)))), (0, .ref 114)], [.int (nI 0)], M1)) (o := []) rfl trivial ?_
          exact Wn.iret rfl ⟨F1, N1, e0, e2, X1, fun _ => ⟨by rw [c0], fun q => absurd q (by omega)⟩, fun _ => ⟨fun q => absurd ct q, e32, e31⟩⟩
        · rw [if_pos (mt (n_eq rfl nI_0.symm (by omega) (by omega)).mp c0)]
          refine Wn.run (tab := tb_m_swore) rfl 3 (c' := (122, [(2, .int (nI (σ 2))), (1, .int (nI (ssN σ T L (σ 2)))), (0, .ref 114)], [], (mI M1 114 (upd (M1.1 114) 32 (nI 1))))) (o := [shp 114 = (0, 10), is01 (nI 1)]) rfl ⟨rfl, (Or.inr rfl)⟩ ?_
          generalize hM2 : (mI M1 114 (upd (M1.1 114) 32 (nI 1))) = M2
          have g2 : M2.1 114 = upd (M1.1 114) 32 (nI 1) := mI_eq hM2
          refine Wn.run (tab := tb_m_swore) rfl 4 (c' := (128, [(3, .int (nI 0)), (2, .int (nI 1000000)), (1, .int (nI (ssN σ T L (σ 2)))), (0, .ref 114)], [], M2)) (o := []) rfl trivial ?_
          refine Wn.lvp [0, 1, 2, 3] (lv' := [(3, .int (nI 0)), (2, .int (nI (lF (bqN σ (ssN σ T L (σ 2)) (σ 2) 0)))), (1, .int (nI (ssN σ T L (σ 2)))), (0, .ref 114)]) rfl ?_
          exact last ct _ rfl (by omega) s6 64 0 M2 rfl (by omega) (fr_tr F1 (fr_1I hM2) (by decide)) (by rw [← hM2]; exact N1) (by rw [g2]; exact Gx_up X1 (by decide)) (by rw [g2, pk_un (by decide)]; exact e0) (by rw [g2, pk_un (by decide)]; exact e2) (by rw [g2, pk_us]) (fun b l q => by cases q)
      · rw [if_neg (mt (n_le rfl rfl (by omega) (by omega)).mp ce)]
        refine Wn.run (tab := tb_m_swore) rfl 3 (c' := (90, [(2, .int (nI p)), (1, .int (nI (ssN σ T L p))), (0, .ref 114)], [.int (nI p), .ref 114, .int (nI (ssN σ T L p))], M1)) (o := []) rfl trivial ?_
        refine Wn.callV (p := 114) (n := 2) (ix := 360) (ci := (10)) (fun r0 M0 => r0 = some (.int (b2 (swQ σ T L p = true))) ∧ M1 = M0) [.int (nI p)] [.int (nI (ssN σ T L p))] rfl rfl rfl rfl (Nat.le_of_ble_eq_true rfl) (Nat.le_of_ble_eq_true rfl) (w_m_isSwore d M1 σ hM1 T L e3 T1 hL c3 ct.2 p (by omega) _ ⟨rfl, rfl⟩) ?_
        rintro _ _ ⟨rfl, rfl⟩
        show Wn _ 119 _ (93, [(2, .int (nI p)), (1, .int (nI (ssN σ T L p))), (0, .ref 114)], [.int (b2 (swQ σ T L p = true)), .int (nI (ssN σ T L p))], M1)
        refine Wn.run (tab := tb_m_swore) rfl 1 (c' := (if (b2 (swQ σ T L p = true)) = 0 then 102 else 96, [(2, .int (nI p)), (1, .int (nI (ssN σ T L p))), (0, .ref 114)], [.int (nI (ssN σ T L p))], M1)) (o := []) rfl trivial ?_
        have e1 : ssN σ T L (p + 1) = ssN σ T L p + (if swQ σ T L p = true then 2 ^ p else 0) := rfl
        by_cases cs : swQ σ T L p = true
        · rw [if_neg (b2_n0.mpr cs)]
          rw [if_pos cs] at e1
          refine Wn.run (tab := tb_m_swore) rfl 8 (c' := (77, [(2, .int ((nI p) + (nI 1))), (1, .int ((nI (ssN σ T L p)) ||| ((nI 1) <<< ((nI p) &&& 31)))), (0, .ref 114)], [], M1)) (o := []) rfl trivial ?_
          rw [show (nI (ssN σ T L p)) ||| ((nI 1) <<< ((nI p) &&& 31)) = nI (ssN σ T L (p + 1)) from by rw [n_shl rfl (by omega), e1]; exact or_ok2 p (by omega) _ sl, nI_add]
          exact ih (σ 2 - (p + 1)) (by omega) (p + 1) rfl (by omega)
        · rw [if_pos (b2_e0.mpr cs)]
          rw [if_neg cs] at e1
          refine Wn.run (tab := tb_m_swore) rfl 5 (c' := (77, [(2, .int ((nI p) + (nI 1))), (1, .int ((nI (ssN σ T L p)) ||| (nI 0))), (0, .ref 114)], [], M1)) (o := []) rfl trivial ?_
          rw [show (nI (ssN σ T L p)) ||| (nI 0) = nI (ssN σ T L (p + 1)) from by rw [e1, show nI 0 = 0 from rfl, Int32.or_zero]; rfl, nI_add]
          exact ih (σ 2 - (p + 1)) (by omega) (p + 1) rfl (by omega)
  refine Wn.run (tab := tb_m_swore) rfl 2 (c' := (38, [(1, .int (nI 0)), (0, .ref 114)], [], M1)) (o := []) rfl trivial ?_
  have cells : ∀ (m z : Nat), L - z = m → z ≤ L → z % 3 = 0 → (∀ i, 3 * i < z → T (3 * i) < σ 0 ∧ T (3 * i + 1) < σ 1) → Wn (d + 4) 119 (PMW M g σ T L) (38, [(1, .int (nI z)), (0, .ref 114)], [], M1) := by
    intro m
    induction m using Nat.strongRecOn with
    | _ m ih =>
      intro z hm hz z3 hall
      refine Wn.run (tab := tb_m_swore) rfl 4 (c' := (if (M1.1 114 3) ≤ (nI z) then 73 else 46, [(1, .int (nI z)), (0, .ref 114)], [], M1)) (o := [shp 114 = (0, 10)]) rfl rfl ?_
      rw [e3]
      by_cases ce : L ≤ z
      · rw [if_pos ((n_le rfl rfl (by omega) (by omega)).mpr ce)]
        refine Wn.run (tab := tb_m_swore) rfl 4 (c' := (77, [(2, .int (nI 0)), (1, .int (nI 0)), (0, .ref 114)], [], M1)) (o := []) rfl trivial ?_
        exact sets ⟨⟨c1.1, c1.2, c3⟩, fun i hi => hall i (by omega)⟩ (σ 2) 0 rfl (by omega)
      · rw [if_neg (mt (n_le rfl rfl (by omega) (by omega)).mp ce)]
        refine Wn.run (tab := tb_m_swore) rfl 3 (c' := (49, [(1, .int (nI z)), (0, .ref 114)], [.int (nI z), .ref 114, .ref 114], M1)) (o := []) rfl trivial ?_
        refine Wn.callV (p := 114) (n := 2) (ix := 357) (ci := (10)) (fun r0 M0 => r0 = some (.int (nI (T (z)))) ∧ M1 = M0) [.int (nI (z))] [.ref 114] rfl rfl rfl rfl (Nat.le_of_ble_eq_true rfl) (Nat.le_of_ble_eq_true rfl) (w_m_octet _ M1 T L T1 hL (z) (by omega) _ ⟨rfl, rfl⟩) ?_
        rintro _ _ ⟨rfl, rfl⟩
        show Wn _ 119 _ (52, [(1, .int (nI z)), (0, .ref 114)], [.int (nI (T z)), .ref 114], M1)
        refine Wn.run (tab := tb_m_swore) rfl 4 (c' := (56, [(1, .int (nI z)), (0, .ref 114)], [.int ((nI z) + (nI 1)), .ref 114, .int (nI (T z)), .ref 114], M1)) (o := []) rfl trivial ?_
        rw [nI_add]
        refine Wn.callV (p := 114) (n := 2) (ix := 357) (ci := (10)) (fun r0 M0 => r0 = some (.int (nI (T (z + 1)))) ∧ M1 = M0) [.int (nI (z + 1))] [.int (nI (T z)), .ref 114] rfl rfl rfl rfl (Nat.le_of_ble_eq_true rfl) (Nat.le_of_ble_eq_true rfl) (w_m_octet _ M1 T L T1 hL (z + 1) (by omega) _ ⟨rfl, rfl⟩) ?_
        rintro _ _ ⟨rfl, rfl⟩
        have t0 := (hT z (by omega)).2
        have t1 := (hT (z + 1) (by omega)).2
        show Wn _ 119 _ (59, [(1, .int (nI z)), (0, .ref 114)], [.int (nI (T (z + 1))), .int (nI (T z)), .ref 114], M1)
        refine Wn.callV (p := 114) (n := 3) (ix := 266) (ci := (10)) (fun r0 M0 => r0 = some (.int (b2 (T z < σ 0 ∧ T (z + 1) < σ 1))) ∧ M1 = M0) [.int (nI (T z)), .int (nI (T (z + 1)))] [] rfl rfl rfl rfl (Nat.le_of_ble_eq_true rfl) (Nat.le_of_ble_eq_true rfl) (w_m_isCellN _ _ _ (by omega) (by omega) M1 σ hM1 _ ⟨rfl, rfl⟩) ?_
        rintro _ _ ⟨rfl, rfl⟩
        show Wn _ 119 _ (62, [(1, .int (nI z)), (0, .ref 114)], [.int (b2 (T z < σ 0 ∧ T (z + 1) < σ 1))], M1)
        refine Wn.run (tab := tb_m_swore) rfl 1 (c' := (if ¬ (b2 (T z < σ 0 ∧ T (z + 1) < σ 1)) = 0 then 67 else 65, [(1, .int (nI z)), (0, .ref 114)], [], M1)) (o := []) rfl trivial ?_
        by_cases cc : T z < σ 0 ∧ T (z + 1) < σ 1
        · rw [if_pos (b2_n0.mpr cc)]
          refine Wn.run (tab := tb_m_swore) rfl 2 (c' := (38, [(1, .int ((nI z) + (nI 3))), (0, .ref 114)], [], M1)) (o := []) rfl trivial ?_
          rw [nI_add]
          refine ih (L - (z + 3)) (by omega) (z + 3) rfl (by omega) (by omega) (fun i hi => ?_)
          by_cases ei : 3 * i < z
          · exact hall i ei
          · have : 3 * i = z := by omega
            rw [this]; exact cc
        · rw [if_neg (fun q => q (b2_e0.mpr cc))]
          refine Wn.run (tab := tb_m_swore) rfl 1 (c' := (66, [(1, .int (nI z)), (0, .ref 114)], [.int (-1 : Int32)], M1)) (o := []) rfl trivial ?_
          have nt : ¬ tri σ T L := fun q => cc (by have := q.2 (z / 3) (by omega); rw [show 3 * (z / 3) = z by omega] at this; exact this)
          exact Wn.iret rfl ⟨F1, N1, e0, e2, X1, fun q => absurd q nt, fun _ => ⟨fun _ => rfl, e32, e31⟩⟩
  exact cells L 0 rfl (by omega) rfl (fun i hi => absurd hi (by omega))
