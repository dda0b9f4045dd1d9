/-! Swore, by the reference. -/
theorem w_m_octet (d : Nat) (M : Mm) (T : Nat → Nat) (L : Nat) (hT : TM (M.1 115) T L) (hL : L ≤ 940) (k : Nat) (hk : k < L) (Q : Po) (hQ : Q (some (.int (nI (T k)))) M) : Wn (d + 0) 51 Q (0, lv_args 0 [.ref 114, .int (nI k)], [], M) := by
  refine Wn.run (tab := tb_m_octet) rfl 6 (c' := (10, [(0, .ref 114), (1, .int (nI k))], [.int ((M.1 115 ((nI k)).toNatClampNeg) &&& (nI 255))], M)) (o := [shp 114 = (0, 10), aok shp 115 1 (nI k)]) rfl ⟨rfl, (ak1 (n := 940) rfl rfl rfl (by omega))⟩ ?_
  rw [show (M.1 115 ((nI k)).toNatClampNeg) &&& (nI 255) = nI (T k) from by rw [nI_clamp (by omega)]; exact (hT k hk).1]
  exact Wn.iret rfl hQ
set_option maxRecDepth 20000 in
theorem w_m_isSwore (d : Nat) (M : Mm) (σ : Nat → Nat) (hM : Ms M σ) (T : Nat → Nat) (L : Nat) (h3 : M.1 114 3 = nI L) (hT : TM (M.1 115) T L) (hL : L ≤ 940) (hd : L % 3 = 0) (ht : trO σ T L) (q : Nat) (hq : q < σ 2) (Q : Po) (hQ : Q (some (.int (b2 (swQ σ T L q = true)))) M) : Wn (d + 3) 117 Q (0, lv_args 0 [.ref 114, .int (nI q)], [], M) := by
  have b6 := Bd_2 hM.2
  have w9 := hM.2.2.1
  have h9 := hM.2.2.2.2.1
  have sw := swQ_iff (σ := σ) (T := T) (L := L) (q := q) hd
  have zero : ¬ swQ σ T L q = true → ∀ (m z : Nat), L - z = m → z ≤ L → z % 3 = 0 → Wn (d + 3) 117 Q (16, [(3, .int (nI z)), (2, .int (nI 0)), (0, .ref 114), (1, .int (nI q))], [], M) := by
    intro hn m
    induction m using Nat.strongRecOn with
    | _ m ih =>
      intro z hm hz z3
      refine Wn.run (tab := tb_m_isSwore) rfl 4 (c' := (if (M.1 114 3) ≤ (nI z) then 71 else 24, [(3, .int (nI z)), (2, .int (nI 0)), (0, .ref 114), (1, .int (nI q))], [], M)) (o := [shp 114 = (0, 10)]) rfl rfl ?_
      rw [h3]
      by_cases ce : L ≤ z
      · rw [if_pos ((n_le rfl rfl (by omega) (by omega)).mpr ce)]
        refine Wn.run (tab := tb_m_isSwore) rfl 1 (c' := (72, [(3, .int (nI z)), (2, .int (nI 0)), (0, .ref 114), (1, .int (nI q))], [.int (nI 0)], M)) (o := []) rfl trivial ?_
        rw [b2_f hn] at hQ
        exact Wn.zret rfl (Or.inl rfl) hQ
      · rw [if_neg (mt (n_le rfl rfl (by omega) (by omega)).mp ce)]
        refine Wn.run (tab := tb_m_isSwore) rfl 2 (c' := (if (nI 0) = 0 then 63 else 28, [(3, .int (nI z)), (2, .int (nI 0)), (0, .ref 114), (1, .int (nI q))], [], M)) (o := []) rfl trivial ?_
        rw [if_pos (show nI 0 = 0 by decide)]
        refine Wn.run (tab := tb_m_isSwore) rfl 4 (c' := (16, [(3, .int ((nI z) + (nI 3))), (2, .int (nI 0)), (0, .ref 114), (1, .int (nI q))], [], M)) (o := []) rfl trivial ?_
        rw [nI_add]
        exact ih (L - (z + 3)) (by omega) (z + 3) rfl (by omega) (by omega)
  have one : ¬ fal σ q = true → ∀ (m z : Nat), L - z = m → z ≤ L → z % 3 = 0 → (∀ i, 3 * i < z → ifs σ q (8 * T (3 * i + 1) + T (3 * i)) = T (3 * i + 2)) → Wn (d + 3) 117 Q (16, [(3, .int (nI z)), (2, .int (nI 1)), (0, .ref 114), (1, .int (nI q))], [], M) := by
    intro hf m
    induction m using Nat.strongRecOn with
    | _ m ih =>
      intro z hm hz z3 hall
      refine Wn.run (tab := tb_m_isSwore) rfl 4 (c' := (if (M.1 114 3) ≤ (nI z) then 71 else 24, [(3, .int (nI z)), (2, .int (nI 1)), (0, .ref 114), (1, .int (nI q))], [], M)) (o := [shp 114 = (0, 10)]) rfl rfl ?_
      rw [h3]
      by_cases ce : L ≤ z
      · rw [if_pos ((n_le rfl rfl (by omega) (by omega)).mpr ce)]
        refine Wn.run (tab := tb_m_isSwore) rfl 1 (c' := (72, [(3, .int (nI z)), (2, .int (nI 1)), (0, .ref 114), (1, .int (nI q))], [.int (nI 1)], M)) (o := []) rfl trivial ?_
        rw [b2_t (sw.mpr ⟨hf, fun i hi => hall i (by omega)⟩)] at hQ
        exact Wn.zret rfl (Or.inr rfl) hQ
      · rw [if_neg (mt (n_le rfl rfl (by omega) (by omega)).mp ce)]
        refine Wn.run (tab := tb_m_isSwore) rfl 2 (c' := (if (nI 1) = 0 then 63 else 28, [(3, .int (nI z)), (2, .int (nI 1)), (0, .ref 114), (1, .int (nI q))], [], M)) (o := []) rfl trivial ?_
        rw [if_neg (show ¬ nI 1 = 0 by decide)]
        have tc := ht (z / 3) (by omega)
        rw [show 3 * (z / 3) = z by omega] at tc
        refine Wn.run (tab := tb_m_isSwore) rfl 7 (c' := (36, [(3, .int (nI z)), (2, .int (nI 1)), (0, .ref 114), (1, .int (nI q))], [.int ((nI z) + (nI 1)), .ref 114, .int (nI 8), .int (nI q), .ref 114], M)) (o := []) rfl trivial ?_
        rw [nI_add]
        refine Wn.callV (p := 114) (n := 2) (ix := 357) (ci := (10)) (fun r0 M0 => r0 = some (.int (nI (T (z + 1)))) ∧ M = M0) [.int (nI (z + 1))] [.int (nI 8), .int (nI q), .ref 114] rfl rfl rfl rfl (Nat.le_of_ble_eq_true rfl) (Nat.le_of_ble_eq_true rfl) (w_m_octet _ M T L hT hL (z + 1) (by omega) _ ⟨rfl, rfl⟩) ?_
        rintro _ _ ⟨rfl, rfl⟩
        show Wn _ 117 _ (39, [(3, .int (nI z)), (2, .int (nI 1)), (0, .ref 114), (1, .int (nI q))], [.int (nI (T (z + 1))), .int (nI 8), .int (nI q), .ref 114], M)
        refine Wn.run (tab := tb_m_isSwore) rfl 3 (c' := (42, [(3, .int (nI z)), (2, .int (nI 1)), (0, .ref 114), (1, .int (nI q))], [.int (nI z), .ref 114, .int ((nI 8) * (nI (T (z + 1)))), .int (nI q), .ref 114], M)) (o := []) rfl trivial ?_
        rw [pk_mul]
        refine Wn.callV (p := 114) (n := 2) (ix := 357) (ci := (10)) (fun r0 M0 => r0 = some (.int (nI (T (z)))) ∧ M = M0) [.int (nI (z))] [.int (nI (8 * T (z + 1))), .int (nI q), .ref 114] rfl rfl rfl rfl (Nat.le_of_ble_eq_true rfl) (Nat.le_of_ble_eq_true rfl) (w_m_octet _ M T L hT hL (z) (by omega) _ ⟨rfl, rfl⟩) ?_
        rintro _ _ ⟨rfl, rfl⟩
        show Wn _ 117 _ (45, [(3, .int (nI z)), (2, .int (nI 1)), (0, .ref 114), (1, .int (nI q))], [.int (nI (T z)), .int (nI (8 * T (z + 1))), .int (nI q), .ref 114], M)
        refine Wn.run (tab := tb_m_isSwore) rfl 1 (c' := (46, [(3, .int (nI z)), (2, .int (nI 1)), (0, .ref 114), (1, .int (nI q))], [.int ((nI (8 * T (z + 1))) + (nI (T z))), .int (nI q), .ref 114], M)) (o := []) rfl trivial ?_
        rw [nI_add]
        refine Wn.callV (p := 114) (n := 3) (ix := 278) (ci := (10)) (fun r0 M0 => r0 = some (.int (nI (ifs σ q (8 * T (z + 1) + T z)))) ∧ M = M0) [.int (nI q), .int (nI (8 * T (z + 1) + T z))] [] rfl rfl rfl rfl (Nat.le_of_ble_eq_true rfl) (Nat.le_of_ble_eq_true rfl) (w_m_iceIfSworn d q _ (by omega) (by omega) M σ hM _ ⟨rfl, rfl⟩) ?_
        rintro _ _ ⟨rfl, rfl⟩
        show Wn _ 117 _ (49, [(3, .int (nI z)), (2, .int (nI 1)), (0, .ref 114), (1, .int (nI q))], [.int (nI (ifs σ q (8 * T (z + 1) + T z)))], M)
        refine Wn.run (tab := tb_m_isSwore) rfl 4 (c' := (53, [(3, .int (nI z)), (2, .int (nI 1)), (0, .ref 114), (1, .int (nI q))], [.int ((nI z) + (nI 2)), .ref 114, .int (nI (ifs σ q (8 * T (z + 1) + T z)))], M)) (o := []) rfl trivial ?_
        rw [nI_add]
        refine Wn.callV (p := 114) (n := 2) (ix := 357) (ci := (10)) (fun r0 M0 => r0 = some (.int (nI (T (z + 2)))) ∧ M = M0) [.int (nI (z + 2))] [.int (nI (ifs σ q (8 * T (z + 1) + T z)))] rfl rfl rfl rfl (Nat.le_of_ble_eq_true rfl) (Nat.le_of_ble_eq_true rfl) (w_m_octet _ M T L hT hL (z + 2) (by omega) _ ⟨rfl, rfl⟩) ?_
        rintro _ _ ⟨rfl, rfl⟩
        have t2 := (hT (z + 2) (by omega)).2
        have i9 := ifs_9 hM.2 q (c := 8 * T (z + 1) + T z) (by omega)
        show Wn _ 117 _ (56, [(3, .int (nI z)), (2, .int (nI 1)), (0, .ref 114), (1, .int (nI q))], [.int (nI (T (z + 2))), .int (nI (ifs σ q (8 * T (z + 1) + T z)))], M)
        refine Wn.run (tab := tb_m_isSwore) rfl 1 (c' := (if ¬ (nI (ifs σ q (8 * T (z + 1) + T z))) = (nI (T (z + 2))) then 63 else 59, [(3, .int (nI z)), (2, .int (nI 1)), (0, .ref 114), (1, .int (nI q))], [], M)) (o := []) rfl trivial ?_
        by_cases cc : ifs σ q (8 * T (z + 1) + T z) = T (z + 2)
        · rw [if_neg (fun q9 => q9 ((n_eq rfl rfl (by omega) (by omega)).mpr cc))]
          refine Wn.run (tab := tb_m_isSwore) rfl 5 (c' := (16, [(3, .int ((nI z) + (nI 3))), (2, .int (nI 1)), (0, .ref 114), (1, .int (nI q))], [], M)) (o := []) rfl trivial ?_
          rw [nI_add]
          refine ih (L - (z + 3)) (by omega) (z + 3) rfl (by omega) (by omega) (fun i hi => ?_)
          by_cases ei : 3 * i < z
          · exact hall i ei
          · have : 3 * i = z := by omega
            rw [this]; exact cc
        · rw [if_pos (mt (n_eq rfl rfl (by omega) (by omega)).mp cc)]
          refine Wn.run (tab := tb_m_isSwore) rfl 4 (c' := (16, [(3, .int ((nI z) + (nI 3))), (2, .int (nI 0)), (0, .ref 114), (1, .int (nI q))], [], M)) (o := []) rfl trivial ?_
          rw [nI_add]
          refine zero (fun q9 => cc ?_) (L - (z + 3)) (z + 3) rfl (by omega) (by omega)
          have := (sw.mp q9).2 (z / 3) (by omega)
          rw [show 3 * (z / 3) = z by omega] at this
          exact this
  refine Wn.run (tab := tb_m_isSwore) rfl 2 (c' := (2, [(0, .ref 114), (1, .int (nI q))], [.int (nI q), .ref 114], M)) (o := []) rfl trivial ?_
  refine Wn.callV (p := 114) (n := 2) (ix := 260) (ci := (10)) (fun r0 M0 => r0 = some (.int (b2 (fal σ q = true))) ∧ M = M0) [.int (nI q)] [] rfl rfl rfl rfl (Nat.le_of_ble_eq_true rfl) (Nat.le_of_ble_eq_true rfl) (w_m_hasFallen (d + 1) q (by omega) M σ hM _ ⟨rfl, rfl⟩) ?_
  rintro _ _ ⟨rfl, rfl⟩
  show Wn _ 117 _ (5, [(0, .ref 114), (1, .int (nI q))], [.int (b2 (fal σ q = true))], M)
  refine Wn.run (tab := tb_m_isSwore) rfl 1 (c' := (if ¬ (b2 (fal σ q = true)) = 0 then 12 else 8, [(0, .ref 114), (1, .int (nI q))], [], M)) (o := []) rfl trivial ?_
  by_cases cf : fal σ q = true
  · rw [if_pos (b2_n0.mpr cf)]
    refine Wn.run (tab := tb_m_isSwore) rfl 4 (c' := (16, [(3, .int (nI 0)), (2, .int (nI 0)), (0, .ref 114), (1, .int (nI q))], [], M)) (o := []) rfl trivial ?_
    exact zero (fun q9 => (sw.mp q9).1 cf) L 0 rfl (by omega) rfl
  · rw [if_neg (fun q9 => q9 (b2_e0.mpr cf))]
    refine Wn.run (tab := tb_m_isSwore) rfl 5 (c' := (16, [(3, .int (nI 0)), (2, .int (nI 1)), (0, .ref 114), (1, .int (nI q))], [], M)) (o := []) rfl trivial ?_
    exact one cf L 0 rfl (by omega) rfl (fun i hi => absurd hi (by omega))
theorem mxV_m (σ : Nat → Nat) (st c m n : Nat) : mxV σ st c m n ≤ m := mxV_le (fun v _ => cnA_le σ st c v m)
set_option maxRecDepth 20000 in
theorem w_m_leftBy (d : Nat) (M : Mm) (σ : Nat → Nat) (hM : Ms M σ) (st c : Nat) (hst : st < 64) (hc : c < 64) (Q : Po) (hQ : Q (some (.int (nI (mxV σ st c (σ 2) 10)))) M) : Wn (d + 3) 118 Q (0, lv_args 0 [.ref 114, .int (nI st), .int (nI c)], [], M) := by
  have b6 := Bd_2 hM.2
  have r2 : M.1 116 2 = nI (σ 2) := hM.1 2 (by decide)
  refine Wn.run (tab := tb_m_leftBy) rfl 4 (c' := (5, [(4, .int (nI 0)), (3, .int (nI 0)), (0, .ref 114), (1, .int (nI st)), (2, .int (nI c))], [], M)) (o := []) rfl trivial ?_
  have outer : ∀ (m v : Nat), 10 - v = m → v ≤ 10 → Wn (d + 3) 118 Q (5, [(4, .int (nI v)), (3, .int (nI (mxV σ st c (σ 2) v))), (0, .ref 114), (1, .int (nI st)), (2, .int (nI c))], [], M) := by
    intro m
    induction m using Nat.strongRecOn with
    | _ m ih =>
      intro v hm hv
      have mm := mxV_m σ st c (σ 2) v
      refine Wn.run (tab := tb_m_leftBy) rfl 3 (c' := (if (nI 9) < (nI v) then 79 else 12, [(4, .int (nI v)), (3, .int (nI (mxV σ st c (σ 2) v))), (0, .ref 114), (1, .int (nI st)), (2, .int (nI c))], [], M)) (o := []) rfl trivial ?_
      by_cases ce : 9 < v
      · rw [if_pos ((n_lt rfl rfl (by omega) (by omega)).mpr ce)]
        have ep : v = 10 := by omega
        refine Wn.run (tab := tb_m_leftBy) rfl 1 (c' := (80, [(4, .int (nI v)), (3, .int (nI (mxV σ st c (σ 2) v))), (0, .ref 114), (1, .int (nI st)), (2, .int (nI c))], [.int (nI (mxV σ st c (σ 2) v))], M)) (o := []) rfl trivial ?_
        rw [ep]
        exact Wn.iret rfl hQ
      · rw [if_neg (mt (n_lt rfl rfl (by omega) (by omega)).mp ce)]
        refine Wn.run (tab := tb_m_leftBy) rfl 4 (c' := (18, [(6, .int (nI 0)), (5, .int (nI 0)), (4, .int (nI v)), (3, .int (nI (mxV σ st c (σ 2) v))), (0, .ref 114), (1, .int (nI st)), (2, .int (nI c))], [], M)) (o := []) rfl trivial ?_
        have inner : ∀ (m2 q : Nat), σ 2 - q = m2 → q ≤ σ 2 → Wn (d + 3) 118 Q (18, [(6, .int (nI q)), (5, .int (nI (cnA σ st c v q))), (4, .int (nI v)), (3, .int (nI (mxV σ st c (σ 2) v))), (0, .ref 114), (1, .int (nI st)), (2, .int (nI c))], [], M) := by
          intro m2
          induction m2 using Nat.strongRecOn with
          | _ m2 ih2 =>
            intro q hm2 hq
            have cl := cnA_le σ st c v q
            refine Wn.run (tab := tb_m_leftBy) rfl 6 (c' := (if (M.1 116 2) ≤ (nI q) then 66 else 29, [(6, .int (nI q)), (5, .int (nI (cnA σ st c v q))), (4, .int (nI v)), (3, .int (nI (mxV σ st c (σ 2) v))), (0, .ref 114), (1, .int (nI st)), (2, .int (nI c))], [], M)) (o := [shp 114 = (0, 10), aok shp 116 0 (nI 2)]) rfl ⟨rfl, ⟨rfl, vp_in_nI (by decide) (by decide)⟩⟩ ?_
            rw [r2]
            by_cases cq : σ 2 ≤ q
            · rw [if_pos ((n_le rfl rfl (by omega) (by omega)).mpr cq)]
              have eq : q = σ 2 := by omega
              refine Wn.run (tab := tb_m_leftBy) rfl 2 (c' := (69, [(6, .int (nI q)), (5, .int (nI (cnA σ st c v q))), (4, .int (nI v)), (3, .int (nI (mxV σ st c (σ 2) v))), (0, .ref 114), (1, .int (nI st)), (2, .int (nI c))], [.int (nI (cnA σ st c v q)), .int (nI (mxV σ st c (σ 2) v))], M)) (o := []) rfl trivial ?_
              refine Wn.callS (n := 2) (ix := 272) (fun r0 M0 => r0 = some (.int (nI (mxV σ st c (σ 2) (v + 1)))) ∧ M = M0) [.int (nI (mxV σ st c (σ 2) v)), .int (nI (cnA σ st c v q))] [] rfl rfl rfl (Nat.le_of_ble_eq_true rfl) (Nat.le_of_ble_eq_true rfl) (w_m_greater _ _ _ M _ ⟨?_, rfl⟩) ?_
              rotate_left
              · rintro _ _ ⟨rfl, rfl⟩
                show Wn _ 118 _ (72, [(6, .int (nI q)), (5, .int (nI (cnA σ st c v q))), (4, .int (nI v)), (3, .int (nI (mxV σ st c (σ 2) v))), (0, .ref 114), (1, .int (nI st)), (2, .int (nI c))], [.int (nI (mxV σ st c (σ 2) (v + 1)))], M)
                refine Wn.run (tab := tb_m_leftBy) rfl 3 (c' := (5, [(4, .int ((nI v) + (nI 1))), (3, .int (nI (mxV σ st c (σ 2) (v + 1)))), (6, .int (nI q)), (5, .int (nI (cnA σ st c v q))), (0, .ref 114), (1, .int (nI st)), (2, .int (nI c))], [], M)) (o := []) rfl trivial ?_
                rw [nI_add]
                refine Wn.lvp [0, 1, 4, 5, 6] (lv' := [(4, .int (nI (v + 1))), (3, .int (nI (mxV σ st c (σ 2) (v + 1)))), (0, .ref 114), (1, .int (nI st)), (2, .int (nI c))]) rfl ?_
                exact ih (10 - (v + 1)) (by omega) (v + 1) rfl (by omega)
              · rw [eq]
                have c9 := cnA_le σ st c v (σ 2)
                show _ = some (Value.int (nI (if mxV σ st c (σ 2) v < cnA σ st c v (σ 2) then cnA σ st c v (σ 2) else mxV σ st c (σ 2) v)))
                by_cases k : mxV σ st c (σ 2) v ≤ cnA σ st c v (σ 2)
                · rw [if_pos ((n_le rfl rfl (by omega) (by omega)).mpr k)]
                  by_cases k2 : mxV σ st c (σ 2) v < cnA σ st c v (σ 2)
                  · rw [if_pos k2]
                  · rw [if_neg k2, show cnA σ st c v (σ 2) = mxV σ st c (σ 2) v by omega]
                · rw [if_neg (mt (n_le rfl rfl (by omega) (by omega)).mp k), if_neg (by omega)]
            · rw [if_neg (mt (n_le rfl rfl (by omega) (by omega)).mp cq)]
              refine Wn.run (tab := tb_m_leftBy) rfl 3 (c' := (34, [(6, .int (nI q)), (5, .int (nI (cnA σ st c v q))), (4, .int (nI v)), (3, .int (nI (mxV σ st c (σ 2) v))), (0, .ref 114), (1, .int (nI st)), (2, .int (nI c))], [.int (nI q), .int (nI st), .int (nI (cnA σ st c v q))], M)) (o := []) rfl trivial ?_
              refine Wn.callS (n := 2) (ix := 216) (fun r0 M0 => r0 = some (.int (b2 (st.testBit q = true))) ∧ M = M0) [.int (nI st), .int (nI q)] [.int (nI (cnA σ st c v q))] rfl rfl rfl (Nat.le_of_ble_eq_true rfl) (Nat.le_of_ble_eq_true rfl) (w_m_bitN _ _ _ hst (by omega) M _ ⟨rfl, rfl⟩) ?_
              rintro _ _ ⟨rfl, rfl⟩
              show Wn _ 118 _ (37, [(6, .int (nI q)), (5, .int (nI (cnA σ st c v q))), (4, .int (nI v)), (3, .int (nI (mxV σ st c (σ 2) v))), (0, .ref 114), (1, .int (nI st)), (2, .int (nI c))], [.int (b2 (st.testBit q = true)), .int (nI (cnA σ st c v q))], M)
              refine Wn.run (tab := tb_m_leftBy) rfl 1 (c' := (if (b2 (st.testBit q = true)) = 0 then 56 else 40, [(6, .int (nI q)), (5, .int (nI (cnA σ st c v q))), (4, .int (nI v)), (3, .int (nI (mxV σ st c (σ 2) v))), (0, .ref 114), (1, .int (nI st)), (2, .int (nI c))], [.int (nI (cnA σ st c v q))], M)) (o := []) rfl trivial ?_
              have nx : ∀ a : Nat, cnA σ st c v q + a = cnA σ st c v (q + 1) → Wn (d + 3) 118 Q (57, [(6, .int (nI q)), (5, .int (nI (cnA σ st c v q))), (4, .int (nI v)), (3, .int (nI (mxV σ st c (σ 2) v))), (0, .ref 114), (1, .int (nI st)), (2, .int (nI c))], [.int (nI a), .int (nI (cnA σ st c v q))], M) := by
                intro a ha
                refine Wn.run (tab := tb_m_leftBy) rfl 4 (c' := (18, [(6, .int ((nI q) + (nI 1))), (5, .int ((nI (cnA σ st c v q)) + (nI a))), (4, .int (nI v)), (3, .int (nI (mxV σ st c (σ 2) v))), (0, .ref 114), (1, .int (nI st)), (2, .int (nI c))], [], M)) (o := []) rfl trivial ?_
                rw [nI_add, nI_add, ha]
                exact ih2 (σ 2 - (q + 1)) (by omega) (q + 1) rfl (by omega)
              by_cases cb : st.testBit q = true
              · rw [if_neg (b2_n0.mpr cb)]
                have i9 := ifs_9 hM.2 q hc
                refine Wn.run (tab := tb_m_leftBy) rfl 3 (c' := (44, [(6, .int (nI q)), (5, .int (nI (cnA σ st c v q))), (4, .int (nI v)), (3, .int (nI (mxV σ st c (σ 2) v))), (0, .ref 114), (1, .int (nI st)), (2, .int (nI c))], [.int (nI c), .int (nI q), .ref 114, .int (nI (cnA σ st c v q))], M)) (o := []) rfl trivial ?_
                refine Wn.callV (p := 114) (n := 3) (ix := 278) (ci := (10)) (fun r0 M0 => r0 = some (.int (nI (ifs σ q c))) ∧ M = M0) [.int (nI q), .int (nI c)] [.int (nI (cnA σ st c v q))] rfl rfl rfl rfl (Nat.le_of_ble_eq_true rfl) (Nat.le_of_ble_eq_true rfl) (w_m_iceIfSworn d q c (by omega) hc M σ hM _ ⟨rfl, rfl⟩) ?_
                rintro _ _ ⟨rfl, rfl⟩
                show Wn _ 118 _ (47, [(6, .int (nI q)), (5, .int (nI (cnA σ st c v q))), (4, .int (nI v)), (3, .int (nI (mxV σ st c (σ 2) v))), (0, .ref 114), (1, .int (nI st)), (2, .int (nI c))], [.int (nI (ifs σ q c)), .int (nI (cnA σ st c v q))], M)
                refine Wn.run (tab := tb_m_leftBy) rfl 2 (c' := (if ¬ (nI (ifs σ q c)) = (nI v) then 56 else 52, [(6, .int (nI q)), (5, .int (nI (cnA σ st c v q))), (4, .int (nI v)), (3, .int (nI (mxV σ st c (σ 2) v))), (0, .ref 114), (1, .int (nI st)), (2, .int (nI c))], [.int (nI (cnA σ st c v q))], M)) (o := []) rfl trivial ?_
                by_cases cv : ifs σ q c = v
                · rw [if_neg (fun q9 => q9 ((n_eq rfl rfl (by omega) (by omega)).mpr cv))]
                  refine Wn.run (tab := tb_m_leftBy) rfl 2 (c' := (57, [(6, .int (nI q)), (5, .int (nI (cnA σ st c v q))), (4, .int (nI v)), (3, .int (nI (mxV σ st c (σ 2) v))), (0, .ref 114), (1, .int (nI st)), (2, .int (nI c))], [.int (nI 1), .int (nI (cnA σ st c v q))], M)) (o := []) rfl trivial ?_
                  exact nx 1 (by show _ = cnA σ st c v q + _; rw [if_pos ⟨cb, cv⟩])
                · rw [if_pos (mt (n_eq rfl rfl (by omega) (by omega)).mp cv)]
                  refine Wn.run (tab := tb_m_leftBy) rfl 1 (c' := (57, [(6, .int (nI q)), (5, .int (nI (cnA σ st c v q))), (4, .int (nI v)), (3, .int (nI (mxV σ st c (σ 2) v))), (0, .ref 114), (1, .int (nI st)), (2, .int (nI c))], [.int (nI 0), .int (nI (cnA σ st c v q))], M)) (o := []) rfl trivial ?_
                  exact nx 0 (by show _ = cnA σ st c v q + _; rw [if_neg (fun q9 => cv q9.2)])
              · rw [if_pos (b2_e0.mpr cb)]
                refine Wn.run (tab := tb_m_leftBy) rfl 1 (c' := (57, [(6, .int (nI q)), (5, .int (nI (cnA σ st c v q))), (4, .int (nI v)), (3, .int (nI (mxV σ st c (σ 2) v))), (0, .ref 114), (1, .int (nI st)), (2, .int (nI c))], [.int (nI 0), .int (nI (cnA σ st c v q))], M)) (o := []) rfl trivial ?_
                exact nx 0 (by show _ = cnA σ st c v q + _; rw [if_neg (fun q9 => cb q9.1)])
        exact inner (σ 2) 0 rfl (by omega)
  exact outer 10 0 rfl (by omega)
