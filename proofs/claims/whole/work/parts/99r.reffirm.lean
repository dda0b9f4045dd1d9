/-! Firm, by the reference. -/
def rv (st : Nat) (f : Nat → Nat) (e : Nat) : Int32 := if e = st then nI 1000000 else vI (f e)
theorem vI_lt : ∀ a, a < 11 → ∀ b, b < 11 → (vI b < vI a ↔ a < b) := by decide +kernel
theorem vI_mn4 : ∀ i, i < 10 → (if nI i ≤ nI 1000000 then nI i else nI 1000000) = vI (if 0 < 9 - i then 9 - i else 0) := by decide +kernel
theorem rv_lt {st : Nat} {f : Nat → Nat} {c : Nat} (h0 : f st = 0) (h : f c ≤ 10) : rv st f c < 0 ↔ ¬ f c < 10 := by
  unfold rv
  by_cases e : c = st
  · rw [if_pos e, e, h0]; decide
  · rw [if_neg e]; exact vI_lt0 _ (by omega)
theorem rv_mn {σ : Nat → Nat} {st : Nat} {f : Nat → Nat} {c k : Nat} (h0 : f st = 0) (h : f c < 10) (hi : σ (96 + k) ≤ 9) : (if nI (σ (96 + k)) ≤ rv st f c then nI (σ (96 + k)) else rv st f c) = vI (xF σ (f c) k) := by
  unfold rv xF
  by_cases e : c = st
  · rw [if_pos e, e, h0]; exact vI_mn4 _ (by omega)
  · rw [if_neg e]; exact vI_mn3 _ h _ (by omega)
theorem rwr_up {N N' : Mm} {p k v st : Nat} {f : Nat → Nat} (h : mI N p (upd (N.1 p) k (vI v)) = N') (hk : ¬ k = st) (hr : ∀ e, e < 64 → N.1 p e = rv st f e) : ∀ e, e < 64 → N'.1 p e = rv st (su f k v) e := by
  intro e he
  rw [mI_eq h]
  unfold rv su
  by_cases q : e = k
  · rw [q, pk_us, if_neg hk, if_pos rfl]
  · rw [pk_un q, if_neg q]; exact hr e he
def PMF (M0 : Mm) (g : Nat → Int32) (p : Nat) (P : Int32 → Prop) : Po := fun r0 M' => (∃ v, P v ∧ r0 = some (.int v)) ∧ M'.1 114 = upd g 0 (nI 0) ∧ Fr [114, p] M0 M'
set_option maxRecDepth 20000 in
theorem c_m_firm (d : Nat) (M : Mm) (g : Nat → Int32) (hg : M.1 114 = g) (σ : Nat → Nat) (hM : Ms M σ) (q x y : Nat) (hq : q < σ 2) (hx : x < σ 0) (hy : y < σ 1) (hf : ¬ fal σ q = true) : Wn (d + 5) 112 (PMF M g 125 (fiR σ q (8 * y + x))) (0, lv_args 0 [.ref 114, .int (nI q), .int (nI x), .int (nI y)], [], M) := by
  have b6 := Bd_2 hM.2
  have w9 := hM.2.2.1
  have h9 := hM.2.2.2.2.1
  have fq := Bd_q hM.2 q (by omega)
  have hst : σ (160 + q) < 64 := by omega
  refine Wn.run (tab := tb_m_firm) rfl 3 (c' := (5, [(0, .ref 114), (1, .int (nI q)), (2, .int (nI x)), (3, .int (nI y))], [], (mI M 114 (upd (M.1 114) 0 (nI 0))))) (o := [shp 114 = (0, 10)]) rfl rfl ?_
  rw [hg]
  generalize hM0 : (mI M 114 (upd g 0 (nI 0))) = M0
  have f0 := fr_1I hM0
  have g0 : M0.1 114 = upd g 0 (nI 0) := mI_eq hM0
  have hMs : Ms M0 σ := Ms_fr f0 (by decide) hM
  have F0 : Fr [114, 125] M M0 := fr_up f0 (by decide)
  refine Wn.run (tab := tb_m_firm) rfl 2 (c' := (7, [(0, .ref 114), (1, .int (nI q)), (2, .int (nI x)), (3, .int (nI y))], [.int (nI q), .ref 114], M0)) (o := []) rfl trivial ?_
  refine Wn.callV (p := 114) (n := 2) (ix := 290) (ci := (10)) (fun r0 M1 => r0 = some (.int (nI 1)) ∧ M0 = M1) [.int (nI q)] [] rfl rfl rfl rfl (Nat.le_of_ble_eq_true rfl) (Nat.le_of_ble_eq_true rfl) (w_m_isPersonT _ q hq M0 σ hMs _ ⟨rfl, rfl⟩) ?_
  rintro _ _ ⟨rfl, rfl⟩
  show Wn _ 112 _ (10, [(0, .ref 114), (1, .int (nI q)), (2, .int (nI x)), (3, .int (nI y))], [.int (nI 1)], M0)
  refine Wn.run (tab := tb_m_firm) rfl 1 (c' := (if (nI 1) = 0 then 30 else 13, [(0, .ref 114), (1, .int (nI q)), (2, .int (nI x)), (3, .int (nI y))], [], M0)) (o := []) rfl trivial ?_
  rw [if_neg (show ¬ nI 1 = 0 by decide)]
  refine Wn.run (tab := tb_m_firm) rfl 3 (c' := (16, [(0, .ref 114), (1, .int (nI q)), (2, .int (nI x)), (3, .int (nI y))], [.int (nI y), .int (nI x), .ref 114], M0)) (o := []) rfl trivial ?_
  refine Wn.callV (p := 114) (n := 3) (ix := 266) (ci := (10)) (fun r0 M1 => r0 = some (.int (b2 (x < σ 0 ∧ y < σ 1))) ∧ M0 = M1) [.int (nI x), .int (nI y)] [] rfl rfl rfl rfl (Nat.le_of_ble_eq_true rfl) (Nat.le_of_ble_eq_true rfl) (w_m_isCellN _ _ _ (by omega) (by omega) M0 σ hMs _ ⟨rfl, rfl⟩) ?_
  rintro _ _ ⟨rfl, rfl⟩
  show Wn _ 112 _ (19, [(0, .ref 114), (1, .int (nI q)), (2, .int (nI x)), (3, .int (nI y))], [.int (b2 (x < σ 0 ∧ y < σ 1))], M0)
  refine Wn.run (tab := tb_m_firm) rfl 1 (c' := (if (b2 (x < σ 0 ∧ y < σ 1)) = 0 then 30 else 22, [(0, .ref 114), (1, .int (nI q)), (2, .int (nI x)), (3, .int (nI y))], [], M0)) (o := []) rfl trivial ?_
  rw [if_neg (b2_n0.mpr ⟨hx, hy⟩)]
  refine Wn.run (tab := tb_m_firm) rfl 2 (c' := (24, [(0, .ref 114), (1, .int (nI q)), (2, .int (nI x)), (3, .int (nI y))], [.int (nI q), .ref 114], M0)) (o := []) rfl trivial ?_
  refine Wn.callV (p := 114) (n := 2) (ix := 260) (ci := (10)) (fun r0 M1 => r0 = some (.int (b2 (fal σ q = true))) ∧ M0 = M1) [.int (nI q)] [] rfl rfl rfl rfl (Nat.le_of_ble_eq_true rfl) (Nat.le_of_ble_eq_true rfl) (w_m_hasFallen _ q (by omega) M0 σ hMs _ ⟨rfl, rfl⟩) ?_
  rintro _ _ ⟨rfl, rfl⟩
  show Wn _ 112 _ (27, [(0, .ref 114), (1, .int (nI q)), (2, .int (nI x)), (3, .int (nI y))], [.int (b2 (fal σ q = true))], M0)
  refine Wn.run (tab := tb_m_firm) rfl 1 (c' := (if (b2 (fal σ q = true)) = 0 then 32 else 30, [(0, .ref 114), (1, .int (nI q)), (2, .int (nI x)), (3, .int (nI y))], [], M0)) (o := []) rfl trivial ?_
  rw [if_pos (b2_e0.mpr hf)]
  refine Wn.run (tab := tb_m_firm) rfl 7 (c' := (44, [(4, .int (M0.1 116 (((nI 160) + (nI q))).toNatClampNeg)), (0, .ref 114), (1, .int (nI q)), (2, .int (nI x)), (3, .int (nI y))], [], M0)) (o := [shp 114 = (0, 10), aok shp 116 0 ((nI 160) + (nI q))]) rfl ⟨rfl, (ak1 (n := 359) rfl rfl (nI_add 160 q) (by omega))⟩ ?_
  rw [show M0.1 116 (((nI 160) + (nI q))).toNatClampNeg = nI (σ (160 + q)) from by rw [nI_add, nI_clamp (by omega)]; exact hMs.1 _ (by omega)]
  refine Wn.run (tab := tb_m_firm) rfl 7 (c' := (if ¬ (nI (σ (160 + q))) = (((nI 8) * (nI y)) + (nI x)) then 66 else 55, [(4, .int (nI (σ (160 + q)))), (0, .ref 114), (1, .int (nI q)), (2, .int (nI x)), (3, .int (nI y))], [], M0)) (o := []) rfl trivial ?_
  rw [pk_mul, nI_add]
  by_cases cg : 8 * y + x = σ (160 + q)
  · rw [if_neg (fun e => e ((n_eq rfl rfl (by omega) (by omega)).mpr cg.symm))]
    refine Wn.run (tab := tb_m_firm) rfl 6 (c' := (65, [(4, .int (nI (σ (160 + q)))), (0, .ref 114), (1, .int (nI q)), (2, .int (nI x)), (3, .int (nI y))], [.int (M0.1 116 (((nI 96) + (nI (σ (160 + q))))).toNatClampNeg)], M0)) (o := [shp 114 = (0, 10), aok shp 116 0 ((nI 96) + (nI (σ (160 + q))))]) rfl ⟨rfl, (ak1 (n := 359) rfl rfl (nI_add 96 _) (by omega))⟩ ?_
    rw [show M0.1 116 (((nI 96) + (nI (σ (160 + q))))).toNatClampNeg = nI (σ (96 + (8 * y + x))) from by rw [nI_add, nI_clamp (by omega), cg]; exact hMs.1 _ (by omega)]
    exact Wn.iret rfl ⟨⟨_, ⟨fun _ => rfl, fun e => absurd cg e⟩, rfl⟩, g0, F0⟩
  rw [if_pos (mt (n_eq rfl rfl (by omega) (by omega)).mp (fun e => cg e.symm))]
  refine Wn.run (tab := tb_m_firm) rfl 2 (c' := (69, [(5, .int (nI 0)), (4, .int (nI (σ (160 + q)))), (0, .ref 114), (1, .int (nI q)), (2, .int (nI x)), (3, .int (nI y))], [], M0)) (o := []) rfl trivial ?_
  have fin : ∀ (N : Mm) (f : Nat → Nat), Fr [114, 125] M N → N.1 114 = upd g 0 (nI 0) → (∀ e, e < 64 → N.1 125 e = rv (σ (160 + q)) f e) → (∀ e, f e ≤ 10) → Snd (EB σ (okF σ q (σ (160 + q)))) (σ (160 + q)) 0 (xF σ) f 10 → RR (EB σ (okF σ q (σ (160 + q)))) (σ (160 + q)) 0 (xF σ) f 64 → Wn (d + 5) 112 (PMF M g 125 (fiR σ q (8 * y + x))) (106, [(5, .int (nI 0)), (4, .int (nI (σ (160 + q)))), (0, .ref 114), (1, .int (nI q)), (2, .int (nI x)), (3, .int (nI y))], [], N) := by
    intro N f FN gN hr fi hs hR
    have o := LCo_of (xF_mono σ) hst (EB_lt hM.2) hs (fun n w hn hw => hR n w (by omega) hw) (fun n w hn hw => xF_bd n hw) (8 * y + x) (by omega)
    have rg : N.1 125 ((((nI 8) * (nI y)) + (nI x))).toNatClampNeg = rF (ouN 10 (f (8 * y + x))) := by
      rw [pk_mul, nI_add, nI_clamp (by omega), ← rF_o (fi _), hr _ (by omega)]
      unfold rv
      rw [if_neg cg]
    refine Wn.run (tab := tb_m_firm) rfl 2 (c' := (if (nI 0) = 0 then 253 else 111, [(5, .int (nI 0)), (4, .int (nI (σ (160 + q)))), (0, .ref 114), (1, .int (nI q)), (2, .int (nI x)), (3, .int (nI y))], [], N)) (o := []) rfl trivial ?_
    rw [if_pos (show nI 0 = 0 by decide)]
    refine Wn.run (tab := tb_m_firm) rfl 8 (c' := (264, [(5, .int (nI 0)), (4, .int (nI (σ (160 + q)))), (0, .ref 114), (1, .int (nI q)), (2, .int (nI x)), (3, .int (nI y))], [.int (N.1 125 ((((nI 8) * (nI y)) + (nI x))).toNatClampNeg)], N)) (o := [shp 114 = (0, 10), aok shp 125 0 (((nI 8) * (nI y)) + (nI x))]) rfl ⟨rfl, (ak1 (n := 64) rfl rfl (by rw [pk_mul, nI_add]) (show 8 * y + x < 64 by omega))⟩ ?_
    rw [rg]
    exact Wn.iret rfl ⟨⟨_, ⟨fun e => absurd e cg, fun _ => ⟨_, o, rfl⟩⟩, rfl⟩, gN, FN⟩
  have main : ∀ (m : Nat) (f0 : Nat → Nat) (N : Mm), smN f0 64 = m → Snd (EB σ (okF σ q (σ (160 + q)))) (σ (160 + q)) 0 (xF σ) f0 10 → (∀ e, f0 e ≤ 10) → f0 (σ (160 + q)) = 0 → Fr [114, 125] M N → N.1 114 = upd g 0 (nI 0) → (∀ e, e < 64 → N.1 125 e = rv (σ (160 + q)) f0 e) → Wn (d + 5) 112 (PMF M g 125 (fiR σ q (8 * y + x))) (106, [(5, .int (nI 1)), (4, .int (nI (σ (160 + q)))), (0, .ref 114), (1, .int (nI q)), (2, .int (nI x)), (3, .int (nI y))], [], N) := by
    intro m
    induction m using Nat.strongRecOn with
    | _ m ih =>
      intro f0 N hm hs fi f00 FN gN hr
      refine Wn.run (tab := tb_m_firm) rfl 2 (c' := (if (nI 1) = 0 then 253 else 111, [(5, .int (nI 1)), (4, .int (nI (σ (160 + q)))), (0, .ref 114), (1, .int (nI q)), (2, .int (nI x)), (3, .int (nI y))], [], N)) (o := []) rfl trivial ?_
      rw [if_neg (show ¬ nI 1 = 0 by decide)]
      refine Wn.run (tab := tb_m_firm) rfl 4 (c' := (117, [(6, .int (nI 0)), (5, .int (nI 0)), (4, .int (nI (σ (160 + q)))), (0, .ref 114), (1, .int (nI q)), (2, .int (nI x)), (3, .int (nI y))], [], N)) (o := []) rfl trivial ?_
      have cells : ∀ (m2 c : Nat) (b : Bool) (f : Nat → Nat) (N1 : Mm), 64 - c = m2 → c ≤ 64 → RI σ (okF σ q (σ (160 + q))) (σ (160 + q)) 0 (xF σ) 10 f0 f c 0 b → Fr [114, 125] M N1 → N1.1 114 = upd g 0 (nI 0) → (∀ e, e < 64 → N1.1 125 e = rv (σ (160 + q)) f e) → Wn (d + 5) 112 (PMF M g 125 (fiR σ q (8 * y + x))) (117, [(6, .int (nI c)), (5, .int (b2 (b = true))), (4, .int (nI (σ (160 + q)))), (0, .ref 114), (1, .int (nI q)), (2, .int (nI x)), (3, .int (nI y))], [], N1) := by
        intro m2
        induction m2 using Nat.strongRecOn with
        | _ m2 ih2 =>
          intro c b f N1 hm2 hc hI F1 g1 hr1
          refine Wn.run (tab := tb_m_firm) rfl 3 (c' := (if (nI 64) ≤ (nI c) then 250 else 124, [(6, .int (nI c)), (5, .int (b2 (b = true))), (4, .int (nI (σ (160 + q)))), (0, .ref 114), (1, .int (nI q)), (2, .int (nI x)), (3, .int (nI y))], [], N1)) (o := []) rfl trivial ?_
          by_cases ce : 64 ≤ c
          · rw [if_pos ((n_le rfl rfl (by omega) (by omega)).mpr ce)]
            have ec : c = 64 := by omega
            subst ec
            refine Wn.run (tab := tb_m_firm) rfl 1 (c' := (106, [(6, .int (nI 64)), (5, .int (b2 (b = true))), (4, .int (nI (σ (160 + q)))), (0, .ref 114), (1, .int (nI q)), (2, .int (nI x)), (3, .int (nI y))], [], N1)) (o := []) rfl trivial ?_
            refine Wn.lvp [1, 2, 3, 4, 5, 6] (lv' := [(5, .int (b2 (b = true))), (4, .int (nI (σ (160 + q)))), (0, .ref 114), (1, .int (nI q)), (2, .int (nI x)), (3, .int (nI y))]) rfl ?_
            have fi1 : ∀ e, f e ≤ 10 := fun e => Nat.le_trans (hI.2.1 e) (fi e)
            cases b with
            | false => exact fin N1 f F1 g1 hr1 fi1 hI.1 (RR_no (xF_mono σ) fi (by omega) hI 64)
            | true =>
              obtain ⟨k, k1, k2⟩ := hI.2.2.2.2 rfl
              have sl := smN_lt hI.2.1 k2 64 k1
              exact ih (smN f 64) (by omega) f N1 rfl hI.1 fi1 (by have := hI.2.1 (σ (160 + q)); omega) F1 g1 hr1
          · rw [if_neg (mt (n_le rfl rfl (by omega) (by omega)).mp ce)]
            refine Wn.run (tab := tb_m_firm) rfl 2 (c' := (127, [(7, .int (nI 0)), (6, .int (nI c)), (5, .int (b2 (b = true))), (4, .int (nI (σ (160 + q)))), (0, .ref 114), (1, .int (nI q)), (2, .int (nI x)), (3, .int (nI y))], [], N1)) (o := []) rfl trivial ?_
            have sides : ∀ (m3 s : Nat) (b : Bool) (f : Nat → Nat) (N2 : Mm), 4 - s = m3 → s ≤ 4 → RI σ (okF σ q (σ (160 + q))) (σ (160 + q)) 0 (xF σ) 10 f0 f c s b → Fr [114, 125] M N2 → N2.1 114 = upd g 0 (nI 0) → (∀ e, e < 64 → N2.1 125 e = rv (σ (160 + q)) f e) → Wn (d + 5) 112 (PMF M g 125 (fiR σ q (8 * y + x))) (127, [(7, .int (nI s)), (6, .int (nI c)), (5, .int (b2 (b = true))), (4, .int (nI (σ (160 + q)))), (0, .ref 114), (1, .int (nI q)), (2, .int (nI x)), (3, .int (nI y))], [], N2) := by
              intro m3
              induction m3 using Nat.strongRecOn with
              | _ m3 ih3 =>
                intro s b f N2 hm3 hs4 hI F2 g2 hr2
                have hMs2 : Ms N2 σ := Ms_fr F2 (by decide) hM
                have fst : f (σ (160 + q)) = 0 := by have := hI.2.1 (σ (160 + q)); omega
                have fc : f c ≤ 10 := Nat.le_trans (hI.2.1 c) (fi c)
                have rc : N2.1 125 ((nI c)).toNatClampNeg = rv (σ (160 + q)) f c := by rw [nI_clamp (by omega)]; exact hr2 c (by omega)
                have z244 : (s = 4 ∨ ¬ f c < 10) → Wn (d + 5) 112 (PMF M g 125 (fiR σ q (8 * y + x))) (244, [(7, .int (nI s)), (6, .int (nI c)), (5, .int (b2 (b = true))), (4, .int (nI (σ (160 + q)))), (0, .ref 114), (1, .int (nI q)), (2, .int (nI x)), (3, .int (nI y))], [], N2) := by
                  intro h
                  refine Wn.run (tab := tb_m_firm) rfl 2 (c' := (117, [(6, .int ((nI c) + (nI 1))), (7, .int (nI s)), (5, .int (b2 (b = true))), (4, .int (nI (σ (160 + q)))), (0, .ref 114), (1, .int (nI q)), (2, .int (nI x)), (3, .int (nI y))], [], N2)) (o := []) rfl trivial ?_
                  rw [nI_add]
                  refine Wn.lvp [0, 2, 3, 4, 5, 6, 7] (lv' := [(6, .int (nI (c + 1))), (5, .int (b2 (b = true))), (4, .int (nI (σ (160 + q)))), (0, .ref 114), (1, .int (nI q)), (2, .int (nI x)), (3, .int (nI y))]) rfl ?_
                  exact ih2 (64 - (c + 1)) (by omega) (c + 1) b f N2 rfl (by omega) (RI_cell hI h) F2 g2 hr2
                refine Wn.run (tab := tb_m_firm) rfl 3 (c' := (if (nI 4) ≤ (nI s) then 244 else 133, [(7, .int (nI s)), (6, .int (nI c)), (5, .int (b2 (b = true))), (4, .int (nI (σ (160 + q)))), (0, .ref 114), (1, .int (nI q)), (2, .int (nI x)), (3, .int (nI y))], [], N2)) (o := []) rfl trivial ?_
                by_cases cs : 4 ≤ s
                · rw [if_pos ((n_le rfl rfl (by omega) (by omega)).mpr cs)]
                  exact z244 (Or.inl (by omega))
                rw [if_neg (mt (n_le rfl rfl (by omega) (by omega)).mp cs)]
                refine Wn.run (tab := tb_m_firm) rfl 5 (c' := (if (N2.1 125 ((nI c)).toNatClampNeg) < 0 then 244 else 143, [(7, .int (nI s)), (6, .int (nI c)), (5, .int (b2 (b = true))), (4, .int (nI (σ (160 + q)))), (0, .ref 114), (1, .int (nI q)), (2, .int (nI x)), (3, .int (nI y))], [], N2)) (o := [shp 114 = (0, 10), aok shp 125 0 (nI c)]) rfl ⟨rfl, (ak1 (n := 64) rfl rfl rfl (by omega))⟩ ?_
                rw [rc]
                by_cases cf : f c < 10
                rotate_left
                · rw [if_pos ((rv_lt fst fc).mpr cf)]
                  exact z244 (Or.inr cf)
                rw [if_neg (fun e => (rv_lt fst fc).mp e cf)]
                refine Wn.run (tab := tb_m_firm) rfl 3 (c' := (148, [(7, .int (nI s)), (6, .int (nI c)), (5, .int (b2 (b = true))), (4, .int (nI (σ (160 + q)))), (0, .ref 114), (1, .int (nI q)), (2, .int (nI x)), (3, .int (nI y))], [.int (nI s), .int (nI c), .ref 114], N2)) (o := []) rfl trivial ?_
                refine Wn.callV (p := 114) (n := 3) (ix := 281) (ci := (10)) (fun r0 M1 => r0 = some (.int (oI (bes σ c s))) ∧ N2 = M1) [.int (nI c), .int (nI s)] [] rfl rfl rfl rfl (Nat.le_of_ble_eq_true rfl) (Nat.le_of_ble_eq_true rfl) (w_m_beside _ c s (by omega) (by omega) N2 σ hMs2 _ ⟨rfl, rfl⟩) ?_
                rintro _ _ ⟨rfl, rfl⟩
                show Wn _ 112 _ (151, [(7, .int (nI s)), (6, .int (nI c)), (5, .int (b2 (b = true))), (4, .int (nI (σ (160 + q)))), (0, .ref 114), (1, .int (nI q)), (2, .int (nI x)), (3, .int (nI y))], [.int (oI (bes σ c s))], N2)
                refine Wn.run (tab := tb_m_firm) rfl 3 (c' := (if (oI (bes σ c s)) < 0 then 238 else 158, [(8, .int (oI (bes σ c s))), (7, .int (nI s)), (6, .int (nI c)), (5, .int (b2 (b = true))), (4, .int (nI (σ (160 + q)))), (0, .ref 114), (1, .int (nI q)), (2, .int (nI x)), (3, .int (nI y))], [], N2)) (o := []) rfl trivial ?_
                have z238 : ∀ kk : Int32, (∀ k, bes σ c s = some k → okF σ q (σ (160 + q)) k → f0 c < 10 → f k ≤ xF σ (f0 c) k) → Wn (d + 5) 112 (PMF M g 125 (fiR σ q (8 * y + x))) (238, [(8, .int kk), (7, .int (nI s)), (6, .int (nI c)), (5, .int (b2 (b = true))), (4, .int (nI (σ (160 + q)))), (0, .ref 114), (1, .int (nI q)), (2, .int (nI x)), (3, .int (nI y))], [], N2) := by
                  intro kk h
                  refine Wn.run (tab := tb_m_firm) rfl 2 (c' := (127, [(7, .int ((nI s) + (nI 1))), (8, .int kk), (6, .int (nI c)), (5, .int (b2 (b = true))), (4, .int (nI (σ (160 + q)))), (0, .ref 114), (1, .int (nI q)), (2, .int (nI x)), (3, .int (nI y))], [], N2)) (o := []) rfl trivial ?_
                  rw [nI_add]
                  refine Wn.lvp [0, 2, 3, 4, 5, 6, 7, 8] (lv' := [(7, .int (nI (s + 1))), (6, .int (nI c)), (5, .int (b2 (b = true))), (4, .int (nI (σ (160 + q)))), (0, .ref 114), (1, .int (nI q)), (2, .int (nI x)), (3, .int (nI y))]) rfl ?_
                  exact ih3 (4 - (s + 1)) (by omega) (s + 1) b f N2 rfl (by omega) (RI_skip hI h) F2 g2 hr2
                cases hb : bes σ c s with
                | none =>
                  rw [hb] at z238
                  rw [if_pos (show oI none < 0 by decide)]
                  exact z238 _ (fun k e => by cases e)
                | some k =>
                  rw [hb] at z238
                  have k64 := bes_lt hM.2 (by omega) hb
                  have kc := bes_ne hM.2 (by omega) hb
                  have lk := ld_le hM.2 k
                  have ik := Bd_c hM.2 k k64
                  have fk : f k ≤ 10 := Nat.le_trans (hI.2.1 k) (fi k)
                  have ri : N2.1 116 (((nI 96) + (nI k))).toNatClampNeg = nI (σ (96 + k)) := by rw [nI_add, nI_clamp (by omega)]; exact hMs2.1 _ (by omega)
                  show Wn _ 112 _ (if nI k < 0 then _ else _, [(8, .int (nI k)), (7, .int (nI s)), (6, .int (nI c)), (5, .int (b2 (b = true))), (4, .int (nI (σ (160 + q)))), (0, .ref 114), (1, .int (nI q)), (2, .int (nI x)), (3, .int (nI y))], [], N2)
                  rw [if_neg (show ¬ nI k < 0 from mt (n_lt rfl nI_0.symm (by omega) (by omega)).mp (Nat.not_lt_zero _))]
                  refine Wn.run (tab := tb_m_firm) rfl 3 (c' := (if (nI k) = (nI (σ (160 + q))) then 238 else 165, [(8, .int (nI k)), (7, .int (nI s)), (6, .int (nI c)), (5, .int (b2 (b = true))), (4, .int (nI (σ (160 + q)))), (0, .ref 114), (1, .int (nI q)), (2, .int (nI x)), (3, .int (nI y))], [], N2)) (o := []) rfl trivial ?_
                  by_cases ck : k = σ (160 + q)
                  · rw [if_pos ((n_eq rfl rfl (by omega) (by omega)).mpr ck)]
                    refine z238 _ (fun k2 e ho => ?_)
                    cases e
                    exact absurd ck ho.2
                  rw [if_neg (mt (n_eq rfl rfl (by omega) (by omega)).mp ck)]
                  have rk : N2.1 125 ((nI k)).toNatClampNeg = vI (f k) := by rw [nI_clamp (by omega), hr2 k (by omega)]; exact if_neg ck
                  refine Wn.run (tab := tb_m_firm) rfl 3 (c' := (169, [(8, .int (nI k)), (7, .int (nI s)), (6, .int (nI c)), (5, .int (b2 (b = true))), (4, .int (nI (σ (160 + q)))), (0, .ref 114), (1, .int (nI q)), (2, .int (nI x)), (3, .int (nI y))], [.int (nI k), .int (nI q), .ref 114], N2)) (o := []) rfl trivial ?_
                  refine Wn.callV (p := 114) (n := 3) (ix := 284) (ci := (10)) (fun r0 M1 => r0 = some (.int (nI (ld σ k + σ (78 + q) - σ (96 + k)))) ∧ N2 = M1) [.int (nI q), .int (nI k)] [] rfl rfl rfl rfl (Nat.le_of_ble_eq_true rfl) (Nat.le_of_ble_eq_true rfl) (w_m_lacks _ q k (by omega) k64 N2 σ hMs2 _ ⟨rfl, rfl⟩) ?_
                  rintro _ _ ⟨rfl, rfl⟩
                  show Wn _ 112 _ (172, [(8, .int (nI k)), (7, .int (nI s)), (6, .int (nI c)), (5, .int (b2 (b = true))), (4, .int (nI (σ (160 + q)))), (0, .ref 114), (1, .int (nI q)), (2, .int (nI x)), (3, .int (nI y))], [.int (nI (ld σ k + σ (78 + q) - σ (96 + k)))], N2)
                  refine Wn.run (tab := tb_m_firm) rfl 1 (c' := (if 0 < (nI (ld σ k + σ (78 + q) - σ (96 + k))) then 238 else 175, [(8, .int (nI k)), (7, .int (nI s)), (6, .int (nI c)), (5, .int (b2 (b = true))), (4, .int (nI (σ (160 + q)))), (0, .ref 114), (1, .int (nI q)), (2, .int (nI x)), (3, .int (nI y))], [], N2)) (o := []) rfl trivial ?_
                  by_cases cl : 0 < ld σ k + σ (78 + q) - σ (96 + k)
                  · rw [if_pos ((n_lt nI_0.symm rfl (by omega) (by omega)).mpr cl)]
                    refine z238 _ (fun k2 e ho => ?_)
                    cases e
                    have := ho.1
                    omega
                  rw [if_neg (mt (n_lt nI_0.symm rfl (by omega) (by omega)).mp cl)]
                  refine Wn.run (tab := tb_m_firm) rfl 10 (c' := (192, [(8, .int (nI k)), (7, .int (nI s)), (6, .int (nI c)), (5, .int (b2 (b = true))), (4, .int (nI (σ (160 + q)))), (0, .ref 114), (1, .int (nI q)), (2, .int (nI x)), (3, .int (nI y))], [.int (N2.1 116 (((nI 96) + (nI k))).toNatClampNeg), .int (N2.1 125 ((nI c)).toNatClampNeg)], N2)) (o := [shp 114 = (0, 10), aok shp 125 0 (nI c), shp 114 = (0, 10), aok shp 116 0 ((nI 96) + (nI k))]) rfl ⟨rfl, (ak1 (n := 64) rfl rfl rfl (by omega)), rfl, (ak1 (n := 359) rfl rfl (nI_add 96 k) (by omega))⟩ ?_
                  rw [rc, ri]
                  refine Wn.callS (n := 2) (ix := 306) (fun r0 M1 => r0 = some (.int (vI (xF σ (f c) k))) ∧ N2 = M1) [.int (rv (σ (160 + q)) f c), .int (nI (σ (96 + k)))] [] rfl rfl rfl (Nat.le_of_ble_eq_true rfl) (Nat.le_of_ble_eq_true rfl) (w_m_lesser _ _ _ N2 _ ⟨by rw [rv_mn fst cf (by omega)], rfl⟩) ?_
                  rintro _ _ ⟨rfl, rfl⟩
                  have xl : xF σ (f c) k < 10 := by unfold xF; split <;> omega
                  show Wn _ 112 _ (195, [(8, .int (nI k)), (7, .int (nI s)), (6, .int (nI c)), (5, .int (b2 (b = true))), (4, .int (nI (σ (160 + q)))), (0, .ref 114), (1, .int (nI q)), (2, .int (nI x)), (3, .int (nI y))], [.int (vI (xF σ (f c) k))], N2)
                  refine Wn.run (tab := tb_m_firm) rfl 5 (c' := (if (N2.1 125 ((nI k)).toNatClampNeg) < (vI (xF σ (f c) k)) then 208 else 205, [(8, .int (nI k)), (7, .int (nI s)), (6, .int (nI c)), (5, .int (b2 (b = true))), (4, .int (nI (σ (160 + q)))), (0, .ref 114), (1, .int (nI q)), (2, .int (nI x)), (3, .int (nI y))], [], N2)) (o := [shp 114 = (0, 10), aok shp 125 0 (nI k)]) rfl ⟨rfl, (ak1 (n := 64) rfl rfl rfl (by omega))⟩ ?_
                  rw [rk]
                  by_cases cx : xF σ (f c) k < f k
                  rotate_left
                  · rw [if_neg (mt (vI_lt _ (by omega) _ (by omega)).mp cx)]
                    refine Wn.run (tab := tb_m_firm) rfl 1 (c' := (238, [(8, .int (nI k)), (7, .int (nI s)), (6, .int (nI c)), (5, .int (b2 (b = true))), (4, .int (nI (σ (160 + q)))), (0, .ref 114), (1, .int (nI q)), (2, .int (nI x)), (3, .int (nI y))], [], N2)) (o := []) rfl trivial ?_
                    refine z238 _ (fun k2 e ho _ => ?_)
                    cases e
                    have a := (xF_mono σ).1 _ _ k (hI.2.1 c)
                    omega
                  rw [if_pos ((vI_lt _ (by omega) _ (by omega)).mpr cx)]
                  refine Wn.run (tab := tb_m_firm) rfl 13 (c' := (231, [(8, .int (nI k)), (7, .int (nI s)), (6, .int (nI c)), (5, .int (b2 (b = true))), (4, .int (nI (σ (160 + q)))), (0, .ref 114), (1, .int (nI q)), (2, .int (nI x)), (3, .int (nI y))], [.int (N2.1 116 (((nI 96) + (nI k))).toNatClampNeg), .int (N2.1 125 ((nI c)).toNatClampNeg), .int (nI k), .ref 125], N2)) (o := [shp 114 = (0, 10), shp 114 = (0, 10), aok shp 125 0 (nI c), shp 114 = (0, 10), aok shp 116 0 ((nI 96) + (nI k))]) rfl ⟨rfl, rfl, (ak1 (n := 64) rfl rfl rfl (by omega)), rfl, (ak1 (n := 359) rfl rfl (nI_add 96 k) (by omega))⟩ ?_
                  rw [rc, ri]
                  refine Wn.callS (n := 2) (ix := 306) (fun r0 M1 => r0 = some (.int (vI (xF σ (f c) k))) ∧ N2 = M1) [.int (rv (σ (160 + q)) f c), .int (nI (σ (96 + k)))] [.int (nI k), .ref 125] rfl rfl rfl (Nat.le_of_ble_eq_true rfl) (Nat.le_of_ble_eq_true rfl) (w_m_lesser _ _ _ N2 _ ⟨by rw [rv_mn fst cf (by omega)], rfl⟩) ?_
                  rintro _ _ ⟨rfl, rfl⟩
                  show Wn _ 112 _ (234, [(8, .int (nI k)), (7, .int (nI s)), (6, .int (nI c)), (5, .int (b2 (b = true))), (4, .int (nI (σ (160 + q)))), (0, .ref 114), (1, .int (nI q)), (2, .int (nI x)), (3, .int (nI y))], [.int (vI (xF σ (f c) k)), .int (nI k), .ref 125], N2)
                  refine Wn.run (tab := tb_m_firm) rfl 1 (c' := (235, [(8, .int (nI k)), (7, .int (nI s)), (6, .int (nI c)), (5, .int (b2 (b = true))), (4, .int (nI (σ (160 + q)))), (0, .ref 114), (1, .int (nI q)), (2, .int (nI x)), (3, .int (nI y))], [], (mI N2 125 (upd (N2.1 125) ((nI k)).toNatClampNeg (vI (xF σ (f c) k)))))) (o := [aok shp 125 0 (nI k)]) rfl (ak1 (n := 64) rfl rfl rfl (by omega)) ?_
                  rw [show ((nI k)).toNatClampNeg = k from nI_clamp (by omega)]
                  generalize hN3 : (mI N2 125 (upd (N2.1 125) k (vI (xF σ (f c) k)))) = N3
                  have r3 : ∀ e, e < 64 → N3.1 125 e = rv (σ (160 + q)) (su f k (xF σ (f c) k)) e := rwr_up hN3 ck hr2
                  have f3 := fr_1I hN3
                  refine Wn.run (tab := tb_m_firm) rfl 4 (c' := (127, [(7, .int ((nI s) + (nI 1))), (5, .int (nI 1)), (8, .int (nI k)), (6, .int (nI c)), (4, .int (nI (σ (160 + q)))), (0, .ref 114), (1, .int (nI q)), (2, .int (nI x)), (3, .int (nI y))], [], N3)) (o := []) rfl trivial ?_
                  rw [nI_add]
                  refine Wn.lvp [0, 3, 1, 4, 5, 6, 7, 8] (lv' := [(7, .int (nI (s + 1))), (6, .int (nI c)), (5, .int (b2 (true = true))), (4, .int (nI (σ (160 + q)))), (0, .ref 114), (1, .int (nI q)), (2, .int (nI x)), (3, .int (nI y))]) rfl ?_
                  exact ih3 (4 - (s + 1)) (by omega) (s + 1) true _ N3 rfl (by omega) (RI_take (xF_mono σ) hI (by omega) (by omega) k64 hb ⟨by omega, ck⟩ cf cx) (fr_tr F2 f3 (by decide)) (by rw [(f3 114 (by decide)).1]; exact g2) r3
            exact sides 4 0 b f N1 rfl (by omega) hI F1 g1 hr1
      exact cells 64 0 false f0 N rfl (by omega) (RI_0 hs) FN gN hr
  have init : ∀ (m z : Nat) (N : Mm), 64 - z = m → z ≤ 64 → Fr [114, 125] M N → N.1 114 = upd g 0 (nI 0) → (∀ e, e < z → N.1 125 e = rv (σ (160 + q)) (f0B (σ (160 + q)) 10) e) → Wn (d + 5) 112 (PMF M g 125 (fiR σ q (8 * y + x))) (69, [(5, .int (nI z)), (4, .int (nI (σ (160 + q)))), (0, .ref 114), (1, .int (nI q)), (2, .int (nI x)), (3, .int (nI y))], [], N) := by
    intro m
    induction m using Nat.strongRecOn with
    | _ m ih =>
      intro z N hm hz FN gN hr
      refine Wn.run (tab := tb_m_firm) rfl 3 (c' := (if (nI 64) ≤ (nI z) then 103 else 76, [(5, .int (nI z)), (4, .int (nI (σ (160 + q)))), (0, .ref 114), (1, .int (nI q)), (2, .int (nI x)), (3, .int (nI y))], [], N)) (o := []) rfl trivial ?_
      by_cases ce : 64 ≤ z
      · rw [if_pos ((n_le rfl rfl (by omega) (by omega)).mpr ce)]
        refine Wn.run (tab := tb_m_firm) rfl 2 (c' := (106, [(5, .int (nI 1)), (4, .int (nI (σ (160 + q)))), (0, .ref 114), (1, .int (nI q)), (2, .int (nI x)), (3, .int (nI y))], [], N)) (o := []) rfl trivial ?_
        exact main _ _ N rfl (f0B_snd hst) (fun e => f0B_le _ _ e) (if_pos rfl) FN gN (fun e he => hr e (by omega))
      · rw [if_neg (mt (n_le rfl rfl (by omega) (by omega)).mp ce)]
        refine Wn.run (tab := tb_m_firm) rfl 6 (c' := (if ¬ (nI z) = (nI (σ (160 + q))) then 95 else 89, [(5, .int (nI z)), (4, .int (nI (σ (160 + q)))), (0, .ref 114), (1, .int (nI q)), (2, .int (nI x)), (3, .int (nI y))], [.int (nI z), .ref 125], N)) (o := [shp 114 = (0, 10)]) rfl rfl ?_
        have nx : ∀ v : Int32, v = rv (σ (160 + q)) (f0B (σ (160 + q)) 10) z → Wn (d + 5) 112 (PMF M g 125 (fiR σ q (8 * y + x))) (96, [(5, .int (nI z)), (4, .int (nI (σ (160 + q)))), (0, .ref 114), (1, .int (nI q)), (2, .int (nI x)), (3, .int (nI y))], [.int v, .int (nI z), .ref 125], N) := by
          intro v hv
          refine Wn.run (tab := tb_m_firm) rfl 1 (c' := (97, [(5, .int (nI z)), (4, .int (nI (σ (160 + q)))), (0, .ref 114), (1, .int (nI q)), (2, .int (nI x)), (3, .int (nI y))], [], (mI N 125 (upd (N.1 125) ((nI z)).toNatClampNeg v)))) (o := [aok shp 125 0 (nI z)]) rfl (ak1 (n := 64) rfl rfl rfl (by omega)) ?_
          rw [show ((nI z)).toNatClampNeg = z from nI_clamp (by omega)]
          generalize hN3 : (mI N 125 (upd (N.1 125) z v)) = N3
          have f3 := fr_1I hN3
          refine Wn.run (tab := tb_m_firm) rfl 2 (c' := (69, [(5, .int ((nI z) + (nI 1))), (4, .int (nI (σ (160 + q)))), (0, .ref 114), (1, .int (nI q)), (2, .int (nI x)), (3, .int (nI y))], [], N3)) (o := []) rfl trivial ?_
          rw [nI_add]
          refine ih (64 - (z + 1)) (by omega) (z + 1) N3 rfl (by omega) (fr_tr FN f3 (by decide)) (by rw [(f3 114 (by decide)).1]; exact gN) (fun e he => ?_)
          rw [mI_eq hN3]
          by_cases ez : e = z
          · rw [ez, pk_us, hv]
          · rw [pk_un ez]; exact hr e (by omega)
        by_cases cz : z = σ (160 + q)
        · rw [if_neg (fun e => e ((n_eq rfl rfl (by omega) (by omega)).mpr cz))]
          refine Wn.run (tab := tb_m_firm) rfl 2 (c' := (96, [(5, .int (nI z)), (4, .int (nI (σ (160 + q)))), (0, .ref 114), (1, .int (nI q)), (2, .int (nI x)), (3, .int (nI y))], [.int (nI 1000000), .int (nI z), .ref 125], N)) (o := []) rfl trivial ?_
          exact nx _ (by unfold rv; rw [if_pos cz])
        · rw [if_pos (mt (n_eq rfl rfl (by omega) (by omega)).mp cz)]
          refine Wn.run (tab := tb_m_firm) rfl 1 (c' := (96, [(5, .int (nI z)), (4, .int (nI (σ (160 + q)))), (0, .ref 114), (1, .int (nI q)), (2, .int (nI x)), (3, .int (nI y))], [.int (-1 : Int32), .int (nI z), .ref 125], N)) (o := []) rfl trivial ?_
          exact nx _ (by unfold rv f0B; rw [if_neg cz, if_neg cz]; rfl)
  exact init 64 0 M0 rfl (by omega) F0 g0 (fun e he => absurd he (Nat.not_lt_zero _))
