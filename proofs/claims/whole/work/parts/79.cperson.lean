/-! 'person' lines of the class. -/
theorem CD_st {M : Mm} {δ : Nat → Nat} {ν : Nat → Int64} (h : CD M δ ν) (h6 : δ 2 ≤ 6) : StC M 19 (lkS δ) := by
  obtain ⟨a0, a1, a2, a3, a4, a5, a6, a7⟩ := h
  have e2 := lkS_lo δ (k := 2) (by decide)
  refine ⟨⟨rfl, rfl, rfl, rfl, rfl, rfl, rfl, rfl, by decide⟩, ⟨rfl, rfl, rfl, fun k hk => ?_, fun q hq => ?_⟩, ⟨?_, ?_, ?_, ?_, ?_, ?_, ?_⟩, fun c hc hi => ?_, fun q hq => ?_, fun q hq => ?_, fun q hq => ?_⟩
  · rw [lkS_lo δ (by omega)]; exact a0 k hk
  · rw [e2] at hq; rw [lkS_lo δ (by omega)]; exact a2 q hq
  · rw [lkS_0 δ (by decide) (by decide)]; exact a6 5 (by decide) (by decide)
  · rw [lkS_0 δ (by decide) (by decide)]; exact a6 6 (by decide) (by decide)
  · rw [lkS_0 δ (by decide) (by decide)]; exact a6 7 (by decide) (by decide)
  · rw [lkS_0 δ (by decide) (by decide)]; exact a6 8 (by decide) (by decide)
  · rw [lkS_0 δ (by decide) (by decide)]; exact a6 9 (by decide) (by decide)
  · rw [lkS_0 δ (by decide) (by decide)]; exact a6 10 (by decide) (by decide)
  · rw [e2]; exact h6
  · rw [lkS_ic δ hc]
    refine a3 c hc ?_
    unfold inL at hi ⊢; rw [lkS_lo δ (by decide), lkS_lo δ (by decide)] at hi; exact hi
  · rw [e2] at hq; rw [lkS_at δ (by omega)]; exact a4 q hq
  · rw [e2] at hq; rw [lkS_te δ (by omega)]; exact a5 q hq
  · rw [e2] at hq; rw [lkS_hi δ (by omega)]; exact a7 q (by omega)
theorem CD_x {gl : Nat → Int32} {J : Nat → Int64} {lo ice at_ te f pr : Nat → Int32} {δ : Nat → Nat} {ν : Nat → Int64} {n : Int64} {l a : Int32} (h : CDf gl J lo ice at_ te f pr δ ν) : CDf gl (vp_updL J (δ 2) n) (upd lo (δ 2) l) ice (upd at_ (δ 2) a) te f pr δ ν := by
  obtain ⟨a0, a1, a2, a3, a4, a5, a6, a7⟩ := h
  refine ⟨a0, fun q hq => ?_, fun q hq => ?_, a3, fun q hq => ?_, a5, a6, a7⟩
  · rw [pk_uLn (by omega)]; exact a1 q hq
  · rw [pk_un (by omega)]; exact a2 q hq
  · rw [pk_un (by omega)]; exact a4 q hq
theorem CD_pe {gl : Nat → Int32} {J : Nat → Int64} {lo ice at_ te f pr : Nat → Int32} {δ : Nat → Nat} {ν : Nat → Int64} {n : Int64} {l c t : Nat} (h : CDf gl J lo ice at_ te f pr δ ν) (h6 : δ 2 < 6) : CDf (upd gl 2 (nI (δ 2 + 1))) (vp_updL J (δ 2) n) (upd lo (δ 2) (nI l)) ice (upd at_ (δ 2) (nI c)) (upd te (δ 2) (nI t)) f pr (su (su (su (su δ (72 + δ 2) c) (78 + δ 2) l) (84 + δ 2) t) 2 (δ 2 + 1)) (vp_updL ν (δ 2) n) := by
  obtain ⟨a0, a1, a2, a3, a4, a5, a6, a7⟩ := h
  generalize hn : δ 2 = m at *
  have e : ∀ x, su (su (su (su δ (72 + m) c) (78 + m) l) (84 + m) t) 2 (m + 1) x = if x = 2 then m + 1 else if x = 84 + m then t else if x = 78 + m then l else if x = 72 + m then c else δ x := fun _ => rfl
  have e9 : ∀ x, ¬ x = 2 → ¬ x = 84 + m → ¬ x = 78 + m → ¬ x = 72 + m → su (su (su (su δ (72 + m) c) (78 + m) l) (84 + m) t) 2 (m + 1) x = δ x := fun x h1 h2 h3 h4 => by rw [e, if_neg h1, if_neg h2, if_neg h3, if_neg h4]
  have e2 : su (su (su (su δ (72 + m) c) (78 + m) l) (84 + m) t) 2 (m + 1) 2 = m + 1 := rfl
  have ea : su (su (su (su δ (72 + m) c) (78 + m) l) (84 + m) t) 2 (m + 1) (72 + m) = c := by rw [e, if_neg (by omega), if_neg (by omega), if_neg (by omega), if_pos rfl]
  have el : su (su (su (su δ (72 + m) c) (78 + m) l) (84 + m) t) 2 (m + 1) (78 + m) = l := by rw [e, if_neg (by omega), if_neg (by omega), if_pos rfl]
  have et : su (su (su (su δ (72 + m) c) (78 + m) l) (84 + m) t) 2 (m + 1) (84 + m) = t := by rw [e, if_neg (by omega), if_pos rfl]
  generalize su (su (su (su δ (72 + m) c) (78 + m) l) (84 + m) t) 2 (m + 1) = ε at *
  have f0 : ε 0 = δ 0 := e9 0 (by omega) (by omega) (by omega) (by omega)
  have f1 : ε 1 = δ 1 := e9 1 (by omega) (by omega) (by omega) (by omega)
  refine ⟨fun x hx => ?_, fun q hq => ?_, fun q hq => ?_, fun x hx hi => ?_, fun q hq => ?_, fun q hq => ?_, a6, a7⟩
  · by_cases q : x = 2
    · rw [q, pk_us, e2]
    · rw [pk_un q, e9 x q (by omega) (by omega) (by omega)]; exact a0 x hx
  · rw [e2] at hq
    by_cases k : q = m
    · rw [k, pk_uLs, pk_uLs]
    · rw [pk_uLn k, pk_uLn k]; exact a1 q (by omega)
  · rw [e2] at hq
    by_cases k : q = m
    · rw [k, pk_us, el]
    · rw [pk_un k, e9 _ (by omega) (by omega) (by omega) (by omega)]; exact a2 q (by omega)
  · rw [e9 _ (by omega) (by omega) (by omega) (by omega)]
    refine a3 x hx ?_
    unfold inL at hi ⊢; rw [f0, f1] at hi; exact hi
  · rw [e2] at hq
    by_cases k : q = m
    · rw [k, pk_us, ea]
    · rw [pk_un k, e9 _ (by omega) (by omega) (by omega) (by omega)]; exact a4 q (by omega)
  · rw [e2] at hq
    by_cases k : q = m
    · rw [k, pk_us, et]
    · rw [pk_un k, e9 _ (by omega) (by omega) (by omega) (by omega)]; exact a5 q (by omega)
theorem CF_pe {g : Nat → Int32} {I : Int64} {δ ε : Nat → Nat} {o : Nat} {ic : Int64} (h : CFf g I δ o ic) (hε : 0 < ε 2) : CFf (upd g 7 (nI 1)) I ε o ic :=
  ⟨by rw [pk_un (by decide)]; exact h.1, by rw [pk_un (by decide)]; exact h.2.1, by rw [pk_un (by decide)]; exact h.2.2.1, by rw [pk_un (by decide)]; exact h.2.2.2.1, by rw [pk_un (by decide)]; exact h.2.2.2.2.1, by rw [pk_us]; exact (b2_t (Or.inr hε)).symm, h.2.2.2.2.2.2⟩
set_option maxRecDepth 20000 in
theorem w_st_loadWith19 (d : Nat) (M : Mm) (δ : Nat → Nat) (ν : Nat → Int64) (hD : CD M δ ν) (hδ : DW δ) (c l : Nat) (hc : c < 64) (hl : M.1 18 (δ 2) = nI l) (h6 : δ 2 < 6) (Q : Po) (hQ : Q (some (.int (nI (dlN δ c (δ 2) + l)))) M) : Wn (d + 2) 204 Q (0, lv_args 0 [.ref 19, .int (nI (δ 2)), .int (nI c)], [], M) := by
  have hS := CD_st hD (by omega)
  have hB := (lkS_inv hδ).1
  have e2 := lkS_lo δ (k := 2) (by decide)
  have ex : ldX (lkS δ) c (nI (δ 2)) (lkS δ 2) = dlN δ c (δ 2) := by rw [e2]; exact lkS_ldX δ c (δ 2) (by omega) _ (Nat.le_refl _)
  refine Wn.run (tab := tb_st_loadWith) rfl 3 (c' := (3, [(0, .ref 19), (1, .int (nI (δ 2))), (2, .int (nI c))], [.int (nI (δ 2)), .int (nI c), .ref 19], M)) (o := []) rfl trivial ?_
  refine Wn.callV (p := 19) (n := 3) (ix := 77) (ci := (5)) (fun r0 M0 => r0 = some (.int (nI (dlN δ c (δ 2)))) ∧ M = M0) [.int (nI c), .int (nI (δ 2))] [] rfl rfl rfl rfl (Nat.le_of_ble_eq_true rfl) (Nat.le_of_ble_eq_true rfl) (w_st_loadOn _ M 19 (lkS δ) hS hB c (by omega) (nI (δ 2)) _ ⟨by rw [ex], rfl⟩) ?_
  rintro _ _ ⟨rfl, rfl⟩
  show Wn _ 204 _ (6, [(0, .ref 19), (1, .int (nI (δ 2))), (2, .int (nI c))], [.int (nI (dlN δ c (δ 2)))], M)
  refine Wn.run (tab := tb_st_loadWith) rfl 6 (c' := (16, [(0, .ref 19), (1, .int (nI (δ 2))), (2, .int (nI c))], [.int ((nI (dlN δ c (δ 2))) + (M.1 18 ((nI (δ 2))).toNatClampNeg))], M)) (o := [shp 19 = (0, 5), shp 16 = (0, 2), aok shp 18 0 (nI (δ 2))]) rfl ⟨rfl, rfl, (ak1 (n := 6) rfl rfl rfl (by omega))⟩ ?_
  rw [show (M.1 18 ((nI (δ 2))).toNatClampNeg) = nI l from by rw [nI_clamp (by omega)]; exact hl, nI_add]
  exact Wn.iret rfl hQ
set_option maxRecDepth 20000 in
theorem c_tl_readPerson (d : Nat) (M : Mm) (T : Nat → Nat) (L mo p ta : Nat) (hR : RdL M T L mo p ta) (δ : Nat → Nat) (ν : Nat → Int64) (o : Nat) (ic : Int64) (hD : CD M δ ν) (hC : CF M δ o ic) (hδ : DW δ) (ho5 : o < 32) (hk : tKd T L mo p = 12) : Wn (d + 4) 234 (PRc M T L mo (rdPe T L mo p δ ν o ic)) (0, lv_args 0 [.ref 78], [], M) := by
  have hF := fr_rf [16, 17, 18, 20, 21, 22, 77, 78] M
  obtain ⟨g, ht⟩ : ∃ g, M.1 78 = g := ⟨_, rfl⟩
  obtain ⟨j, hj⟩ : ∃ j, M.2.1 78 = j := ⟨_, rfl⟩
  obtain ⟨gl, hl⟩ : ∃ g, M.1 16 = g := ⟨_, rfl⟩
  obtain ⟨J, hJ⟩ : ∃ g, M.2.1 17 = g := ⟨_, rfl⟩
  obtain ⟨lo, hlo⟩ : ∃ g, M.1 18 = g := ⟨_, rfl⟩
  obtain ⟨ice, hi⟩ : ∃ g, M.1 20 = g := ⟨_, rfl⟩
  obtain ⟨at_, ha⟩ : ∃ g, M.1 21 = g := ⟨_, rfl⟩
  obtain ⟨te, hte⟩ : ∃ g, M.1 22 = g := ⟨_, rfl⟩
  obtain ⟨f19, h19⟩ : ∃ g, M.1 19 = g := ⟨_, rfl⟩
  obtain ⟨pr, h23⟩ : ∃ g, M.1 23 = g := ⟨_, rfl⟩
  have hd : CDf gl J lo ice at_ te f19 pr δ ν := by rw [← hl, ← hJ, ← hlo, ← hi, ← ha, ← hte, ← h19, ← h23]; exact hD
  have hf : CFf g (j 8) δ o ic := by rw [← ht, ← hj]; exact hC
  obtain ⟨b0, b1, b2_9, bq, bc⟩ := id hδ.1
  refine Wn.run (tab := tb_tl_readPerson) rfl 10 (c' := (if (M.1 16 2) < (nI 6) then 28 else 19, [(2, .int (M.1 16 2)), (1, .ref 16), (0, .ref 78)], [], M)) (o := [shp 78 = (0, 6), shp 15 = (0, 8), shp 16 = (0, 2)]) rfl ⟨rfl, rfl, rfl⟩ ?_
  refine Wn.br (fun h1 => ?_) (fun h1 => ?_)
  · show Wn _ 234 _ (28, [(2, .int (M.1 16 2)), (1, .ref 16), (0, .ref 78)], [], M)
    have h1 := (n_lt (fr_eq hl (show gl 2 = (nI (δ 2)) from (hd.1 2 (by decide)))) rfl (by omega) (by omega)).mp h1
    rw [show (M.1 16 2) = (nI (δ 2)) from (fr_eq hl (show gl 2 = (nI (δ 2)) from (hd.1 2 (by decide))))]
    refine Wn.run (tab := tb_tl_readPerson) rfl 2 (c' := (32, [(2, .int (nI (δ 2))), (1, .ref 16), (0, .ref 78)], [.ref 77], M)) (o := [shp 78 = (0, 6)]) rfl rfl ?_
    refine Wn.callV (p := 77) (n := 1) (ix := 125) (ci := (3)) (PLv M T L mo (tNx T L p) (tAt T L mo p) none) [] [] rfl rfl rfl rfl (Nat.le_of_ble_eq_true rfl) (Nat.le_of_ble_eq_true rfl) (c_rd_adv _ M T L mo p ta hR (by omega) (by omega)) ?_
    rintro _ M1 ⟨rfl, hq2, hF3⟩
    show Wn _ 234 _ (35, [(2, .int (nI (δ 2))), (1, .ref 16), (0, .ref 78)], [], M1)
    have hk4 := frI_fun hF3 (by decide) ht
    have hk5 := frJ_fun hF3 (by decide) hj
    have hk6 := frI_fun hF3 (by decide) hl
    have hk7 := frJ_fun hF3 (by decide) hJ
    have hk8 := frI_fun hF3 (by decide) hlo
    have hk9 := frI_fun hF3 (by decide) hi
    have hk10 := frI_fun hF3 (by decide) ha
    have hk11 := frI_fun hF3 (by decide) hte
    have hk12 := frI_fun hF3 (by decide) h19
    have hk13 := frI_fun hF3 (by decide) h23
    have hF14 := fr_tr hF hF3 (by decide)
    refine Wn.run (tab := tb_tl_readPerson) rfl 6 (c' := (45, [(2, .int (nI (δ 2))), (1, .ref 16), (0, .ref 78)], [.ref 16, .ref 77, .int (nI (δ 2)), .ref 17], M1)) (o := [shp 16 = (0, 2), shp 78 = (0, 6)]) rfl ⟨rfl, rfl⟩ ?_
    by_cases hk3 : tKd T L mo (tNx T L p) = 3
    · cases hpc : pcl ν (tNm T L (tNx T L p)) (δ 2) with
      | none =>
        refine Wn.callV (p := 77) (n := 2) (ix := 162) (ci := (3)) (PLv M1 T L mo (tNx T L (tNx T L p)) (tAt T L mo (tNx T L p)) (some (.long (tNm T L (tNx T L p))))) [.ref 16] [.int (nI (δ 2)), .ref 17] rfl rfl rfl rfl (Nat.le_of_ble_eq_true rfl) (Nat.le_of_ble_eq_true rfl) (c_rd_takeNewName_ok _ M1 T L mo (tNx T L p) (tAt T L mo p) hq2 16 δ (show LkC M1 16 δ from ⟨rfl, rfl, rfl, (by rw [hk6]; exact hd.1), (by rw [hk8]; exact hd.2.2.1)⟩) b2_9 ν (show NmC M1 16 ν (δ 2) from (by unfold NmC; rw [hk7]; exact hd.2.1)) (by decide) hk3 hpc) ?_
        rintro _ M17 ⟨rfl, hq15, hF16⟩
        show Wn _ 234 _ (48, [(2, .int (nI (δ 2))), (1, .ref 16), (0, .ref 78)], [.long (tNm T L (tNx T L p)), .int (nI (δ 2)), .ref 17], M17)
        have hk18 := frI_fun hF16 (by decide) hk4
        have hk19 := frJ_fun hF16 (by decide) hk5
        have hk20 := frI_fun hF16 (by decide) hk6
        have hk21 := frJ_fun hF16 (by decide) hk7
        have hk22 := frI_fun hF16 (by decide) hk8
        have hk23 := frI_fun hF16 (by decide) hk9
        have hk24 := frI_fun hF16 (by decide) hk10
        have hk25 := frI_fun hF16 (by decide) hk11
        have hk26 := frI_fun hF16 (by decide) hk12
        have hk27 := frI_fun hF16 (by decide) hk13
        have hF28 := fr_tr hF14 hF16 (by decide)
        refine Wn.run (tab := tb_tl_readPerson) rfl 1 (c' := (49, [(2, .int (nI (δ 2))), (1, .ref 16), (0, .ref 78)], [], (mJ M17 17 (vp_updL (M17.2.1 17) ((nI (δ 2))).toNatClampNeg (tNm T L (tNx T L p)))))) (o := [aok shp 17 3 (nI (δ 2))]) rfl (ak1 (n := 6) rfl rfl rfl (by omega)) ?_
        generalize hM30 : (mJ M17 17 (vp_updL (M17.2.1 17) ((nI (δ 2))).toNatClampNeg (tNm T L (tNx T L p)))) = M29
        have hq31 := RdL_fr (fr_1J hM30) (by decide) hq15
        have hk32 := fI_oJ hM30 hk18
        have hk33 := fJ_ne hM30 (by decide) hk19
        have hk34 := fI_oJ hM30 hk20
        have hk35 := fJ_upx hM30 hk21 (cl1 rfl (by omega))
        have hk36 := fI_oJ hM30 hk22
        have hk37 := fI_oJ hM30 hk23
        have hk38 := fI_oJ hM30 hk24
        have hk39 := fI_oJ hM30 hk25
        have hk40 := fI_oJ hM30 hk26
        have hk41 := fI_oJ hM30 hk27
        have hF42 := fr_sJ hF28 hM30 (by decide)
        show Wn _ 234 _ (49, [(2, .int (nI (δ 2))), (1, .ref 16), (0, .ref 78)], [], M29)
        refine Wn.run (tab := tb_tl_readPerson) rfl 6 (c' := (61, [(2, .int (nI (δ 2))), (1, .ref 16), (0, .ref 78)], [.ref 78, .int (nI (δ 2)), .ref 21], M29)) (o := [shp 78 = (0, 6), shp 15 = (0, 8), shp 19 = (0, 5)]) rfl ⟨rfl, rfl, rfl⟩ ?_
        cases hc1 : tkN T L mo (tNx T L (tNx T L p)) 0 (δ 0 - 1) with
        | inl f1 =>
          refine Wn.callV (p := 78) (n := 1) (ix := 152) (ci := (6)) (PCe M29 g 0 (fun M9 => RdD M9 f1.1 f1.2)) [] [.int (nI (δ 2)), .ref 21] rfl rfl rfl rfl (Nat.le_of_ble_eq_true rfl) (Nat.le_of_ble_eq_true rfl) (c_tl_takeCell_e1 _ M29 T L mo (tNx T L (tNx T L p)) (tAt T L mo (tNx T L p)) hq31 g gl hk32 hk34 (δ 0) (δ 1) (show gl 0 = (nI (δ 0)) from (hd.1 0 (by decide))) (show gl 1 = (nI (δ 1)) from (hd.1 1 (by decide))) b0 b1 f1 hc1) ?_
          rintro _ M47 ⟨rfl, hK43, hg44, hj45, hF46⟩
          show Wn _ 234 _ (64, [(2, .int (nI (δ 2))), (1, .ref 16), (0, .ref 78)], [.int (nI 0), .int (nI (δ 2)), .ref 21], M47)
          have hq48 : RdD M47 f1.1 f1.2 := hK43
          have hj49 := hj45.trans hk33
          have hk50 := frI_fun hF46 (by decide) hk34
          have hk51 := frJ_fun hF46 (by decide) hk35
          have hk52 := frI_fun hF46 (by decide) hk36
          have hk53 := frI_fun hF46 (by decide) hk37
          have hk54 := frI_fun hF46 (by decide) hk38
          have hk55 := frI_fun hF46 (by decide) hk39
          have hk56 := frI_fun hF46 (by decide) hk40
          have hk57 := frI_fun hF46 (by decide) hk41
          have hF58 := fr_tr hF42 hF46 (by decide)
          refine Wn.run (tab := tb_tl_readPerson) rfl 1 (c' := (65, [(2, .int (nI (δ 2))), (1, .ref 16), (0, .ref 78)], [], (mI M47 21 (upd (M47.1 21) ((nI (δ 2))).toNatClampNeg (nI 0))))) (o := [aok shp 21 0 (nI (δ 2))]) rfl (ak1 (n := 6) rfl rfl rfl (by omega)) ?_
          generalize hM60 : (mI M47 21 (upd (M47.1 21) ((nI (δ 2))).toNatClampNeg (nI 0))) = M59
          have hq61 := RdD_fr (fr_1I hM60) (by decide) hq48
          have hk62 := fI_ne hM60 (by decide) hg44
          have hk63 := fJ_oI hM60 hj49
          have hk64 := fI_ne hM60 (by decide) hk50
          have hk65 := fJ_oI hM60 hk51
          have hk66 := fI_ne hM60 (by decide) hk52
          have hk67 := fI_ne hM60 (by decide) hk53
          have hk68 := fI_upx hM60 hk54 (cl1 rfl (by omega))
          have hk69 := fI_ne hM60 (by decide) hk55
          have hk70 := fI_ne hM60 (by decide) hk56
          have hk71 := fI_ne hM60 (by decide) hk57
          have hF72 := fr_sI hF58 hM60 (by decide)
          show Wn _ 234 _ (65, [(2, .int (nI (δ 2))), (1, .ref 16), (0, .ref 78)], [], M59)
          refine Wn.run (tab := tb_tl_readPerson) rfl 7 (c' := (76, [(2, .int (nI (δ 2))), (1, .ref 16), (0, .ref 78)], [.int (nI 5), .int (nI 1), .ref 77, .int (nI (δ 2)), .ref 18], M59)) (o := [shp 16 = (0, 2), shp 78 = (0, 6)]) rfl ⟨rfl, rfl⟩ ?_
          refine Wn.callV (p := 77) (n := 3) (ix := 99) (ci := (3)) (fun r0 M9 => r0 = some (.int (nI 1)) ∧ M9 = M59) [.int (nI 1), .int (nI 5)] [.int (nI (δ 2)), .ref 18] rfl rfl rfl rfl (Nat.le_of_ble_eq_true rfl) (Nat.le_of_ble_eq_true rfl) (c_rd_takeNumberD _ M59 f1.1 f1.2 hq61 (nI 1) (nI 5)) ?_
          rintro _ M9 ⟨rfl, hsm⟩
          obtain rfl := hsm.symm
          show Wn _ 234 _ (79, [(2, .int (nI (δ 2))), (1, .ref 16), (0, .ref 78)], [.int (nI 1), .int (nI (δ 2)), .ref 18], M59)
          refine Wn.run (tab := tb_tl_readPerson) rfl 1 (c' := (80, [(2, .int (nI (δ 2))), (1, .ref 16), (0, .ref 78)], [], (mI M59 18 (upd (M59.1 18) ((nI (δ 2))).toNatClampNeg (nI 1))))) (o := [aok shp 18 0 (nI (δ 2))]) rfl (ak1 (n := 6) rfl rfl rfl (by omega)) ?_
          generalize hM74 : (mI M59 18 (upd (M59.1 18) ((nI (δ 2))).toNatClampNeg (nI 1))) = M73
          have hq75 := RdD_fr (fr_1I hM74) (by decide) hq61
          have hk76 := fI_ne hM74 (by decide) hk62
          have hk77 := fJ_oI hM74 hk63
          have hk78 := fI_ne hM74 (by decide) hk64
          have hk79 := fJ_oI hM74 hk65
          have hk80 := fI_upx hM74 hk66 (cl1 rfl (by omega))
          have hk81 := fI_ne hM74 (by decide) hk67
          have hk82 := fI_ne hM74 (by decide) hk68
          have hk83 := fI_ne hM74 (by decide) hk69
          have hk84 := fI_ne hM74 (by decide) hk70
          have hk85 := fI_ne hM74 (by decide) hk71
          have hF86 := fr_sI hF72 hM74 (by decide)
          show Wn _ 234 _ (80, [(2, .int (nI (δ 2))), (1, .ref 16), (0, .ref 78)], [], M73)
          refine Wn.run (tab := tb_tl_readPerson) rfl 10 (c' := (100, [(2, .int (nI (δ 2))), (1, .ref 16), (0, .ref 78)], [.int (M73.1 21 ((nI (δ 2))).toNatClampNeg), .int (nI (δ 2)), .ref 19], M73)) (o := [shp 78 = (0, 6), shp 15 = (0, 8), shp 78 = (0, 6), shp 15 = (0, 8), shp 19 = (0, 5), aok shp 21 0 (nI (δ 2))]) rfl ⟨rfl, rfl, rfl, rfl, rfl, (ak1 (n := 6) rfl rfl rfl (by omega))⟩ ?_
          rw [show (M73.1 21 ((nI (δ 2))).toNatClampNeg) = (nI 0) from ((fr_rdx hk82 rfl (by omega)).trans pk_us)]
          have dl9 := dlN_le hδ.1.2.2.2.1 0 (δ 2) (Nat.le_refl _)
          have bc9 := bc 0 (by omega)
          refine Wn.callV (p := 19) (n := 3) (ix := 172) (ci := (5)) (fun r0 M0 => r0 = some (.int (nI (dlN δ 0 (δ 2) + 1))) ∧ M73 = M0) [.int (nI (δ 2)), .int (nI 0)] [] rfl rfl rfl rfl (Nat.le_of_ble_eq_true rfl) (Nat.le_of_ble_eq_true rfl) (w_st_loadWith19 _ M73 δ ν (by unfold CD; rw [hk78, hk79, hk80, hk81, hk82, hk83, hk84, hk85]; exact CD_x hd) hδ 0 1 (by omega) (by rw [hk80]; exact pk_us) (by omega) _ ⟨rfl, rfl⟩) ?_
          rintro _ _ ⟨rfl, rfl⟩
          show Wn _ 234 _ (103, [(2, .int (nI (δ 2))), (1, .ref 16), (0, .ref 78)], [.int (nI (dlN δ 0 (δ 2) + 1))], M73)
          refine Wn.run (tab := tb_tl_readPerson) rfl 12 (c' := (if (nI (dlN δ 0 (δ 2) + 1)) ≤ (M73.1 20 ((M73.1 21 ((nI (δ 2))).toNatClampNeg)).toNatClampNeg) then 137 else 129, [(2, .int (nI (δ 2))), (1, .ref 16), (0, .ref 78)], [], M73)) (o := [shp 78 = (0, 6), shp 15 = (0, 8), shp 19 = (0, 5), shp 78 = (0, 6), shp 15 = (0, 8), shp 19 = (0, 5), aok shp 21 0 (nI (δ 2)), aok shp 20 0 (M73.1 21 ((nI (δ 2))).toNatClampNeg)]) rfl ⟨rfl, rfl, rfl, rfl, rfl, rfl, (ak1 (n := 6) rfl rfl rfl (by omega)), (ak1 (n := 64) rfl rfl ((fr_rdx hk82 rfl (by omega)).trans pk_us) (by omega))⟩ ?_
          refine Wn.br (fun h2 => ?_) (fun h2 => ?_)
          · show Wn _ 234 _ (137, [(2, .int (nI (δ 2))), (1, .ref 16), (0, .ref 78)], [], M73)
            rw [show (M73.1 20 ((M73.1 21 ((nI (δ 2))).toNatClampNeg)).toNatClampNeg) = (ice 0) from (fr_rdx hk81 ((fr_rdx hk82 rfl (by omega)).trans pk_us) (by omega))] at h2
            refine Wn.run (tab := tb_tl_readPerson) rfl 9 (c' := (155, [(2, .int (nI (δ 2))), (1, .ref 16), (0, .ref 78)], [.int (nI 8), .int (nI 0), .ref 77, .int (nI (δ 2)), .ref 22], M73)) (o := [shp 78 = (0, 6), shp 15 = (0, 8), shp 19 = (0, 5), shp 78 = (0, 6)]) rfl ⟨rfl, rfl, rfl, rfl⟩ ?_
            refine Wn.callV (p := 77) (n := 3) (ix := 99) (ci := (3)) (fun r0 M9 => r0 = some (.int (nI 0)) ∧ M9 = M73) [.int (nI 0), .int (nI 8)] [.int (nI (δ 2)), .ref 22] rfl rfl rfl rfl (Nat.le_of_ble_eq_true rfl) (Nat.le_of_ble_eq_true rfl) (c_rd_takeNumberD _ M73 f1.1 f1.2 hq75 (nI 0) (nI 8)) ?_
            rintro _ M9 ⟨rfl, hsm⟩
            obtain rfl := hsm.symm
            show Wn _ 234 _ (158, [(2, .int (nI (δ 2))), (1, .ref 16), (0, .ref 78)], [.int (nI 0), .int (nI (δ 2)), .ref 22], M73)
            refine Wn.run (tab := tb_tl_readPerson) rfl 1 (c' := (159, [(2, .int (nI (δ 2))), (1, .ref 16), (0, .ref 78)], [], (mI M73 22 (upd (M73.1 22) ((nI (δ 2))).toNatClampNeg (nI 0))))) (o := [aok shp 22 0 (nI (δ 2))]) rfl (ak1 (n := 6) rfl rfl rfl (by omega)) ?_
            generalize hM88 : (mI M73 22 (upd (M73.1 22) ((nI (δ 2))).toNatClampNeg (nI 0))) = M87
            have hq89 := RdD_fr (fr_1I hM88) (by decide) hq75
            have hk90 := fI_ne hM88 (by decide) hk76
            have hk91 := fJ_oI hM88 hk77
            have hk92 := fI_ne hM88 (by decide) hk78
            have hk93 := fJ_oI hM88 hk79
            have hk94 := fI_ne hM88 (by decide) hk80
            have hk95 := fI_ne hM88 (by decide) hk81
            have hk96 := fI_ne hM88 (by decide) hk82
            have hk97 := fI_upx hM88 hk83 (cl1 rfl (by omega))
            have hk98 := fI_ne hM88 (by decide) hk84
            have hk99 := fI_ne hM88 (by decide) hk85
            have hF100 := fr_sI hF86 hM88 (by decide)
            show Wn _ 234 _ (159, [(2, .int (nI (δ 2))), (1, .ref 16), (0, .ref 78)], [], M87)
            refine Wn.run (tab := tb_tl_readPerson) rfl 5 (c' := (166, [(2, .int (nI (δ 2))), (1, .ref 16), (0, .ref 78)], [], (mI M87 16 (upd (M87.1 16) 2 ((nI (δ 2)) + (nI 1)))))) (o := [shp 16 = (0, 2)]) rfl rfl ?_
            rw [show ((nI (δ 2)) + (nI 1)) = (nI ((δ 2) + 1)) from (n_add rfl rfl)]
            generalize hM102 : (mI M87 16 (upd (M87.1 16) 2 (nI ((δ 2) + 1)))) = M101
            have hq103 := RdD_fr (fr_1I hM102) (by decide) hq89
            have hk104 := fI_ne hM102 (by decide) hk90
            have hk105 := fJ_oI hM102 hk91
            have hk106 := fI_up hM102 hk92
            have hk107 := fJ_oI hM102 hk93
            have hk108 := fI_ne hM102 (by decide) hk94
            have hk109 := fI_ne hM102 (by decide) hk95
            have hk110 := fI_ne hM102 (by decide) hk96
            have hk111 := fI_ne hM102 (by decide) hk97
            have hk112 := fI_ne hM102 (by decide) hk98
            have hk113 := fI_ne hM102 (by decide) hk99
            have hF114 := fr_sI hF100 hM102 (by decide)
            show Wn _ 234 _ (166, [(2, .int (nI (δ 2))), (1, .ref 16), (0, .ref 78)], [], M101)
            have e9 : rdPe T L mo p δ ν o ic = .inl f1 := by unfold rdPe; rw [if_neg (show ¬ δ 2 = 6 by omega), if_neg (fun q9 => q9 hk3)]; simp only [hpc, hc1]
            rw [e9]
            exact Wn.vret rfl ⟨rfl, hF114, hq103⟩
          · show Wn _ 234 _ (129, [(2, .int (nI (δ 2))), (1, .ref 16), (0, .ref 78)], [], M73)
            rw [show (M73.1 20 ((M73.1 21 ((nI (δ 2))).toNatClampNeg)).toNatClampNeg) = (ice 0) from (fr_rdx hk81 ((fr_rdx hk82 rfl (by omega)).trans pk_us) (by omega))] at h2
            refine Wn.run (tab := tb_tl_readPerson) rfl 3 (c' := (134, [(2, .int (nI (δ 2))), (1, .ref 16), (0, .ref 78)], [.int (nI 3), .ref 77], M73)) (o := [shp 78 = (0, 6)]) rfl rfl ?_
            refine Wn.callV (p := 77) (n := 2) (ix := 155) (ci := (3)) (fun r0 M9 => r0 = none ∧ M9 = M73) [.int (nI 3)] [] rfl rfl rfl rfl (Nat.le_of_ble_eq_true rfl) (Nat.le_of_ble_eq_true rfl) (c_rd_failTakenD _ M73 f1.1 f1.2 hq75 (nI 3)) ?_
            rintro _ M9 ⟨rfl, hsm⟩
            obtain rfl := hsm.symm
            show Wn _ 234 _ (137, [(2, .int (nI (δ 2))), (1, .ref 16), (0, .ref 78)], [], M73)
            refine Wn.run (tab := tb_tl_readPerson) rfl 9 (c' := (155, [(2, .int (nI (δ 2))), (1, .ref 16), (0, .ref 78)], [.int (nI 8), .int (nI 0), .ref 77, .int (nI (δ 2)), .ref 22], M73)) (o := [shp 78 = (0, 6), shp 15 = (0, 8), shp 19 = (0, 5), shp 78 = (0, 6)]) rfl ⟨rfl, rfl, rfl, rfl⟩ ?_
            refine Wn.callV (p := 77) (n := 3) (ix := 99) (ci := (3)) (fun r0 M9 => r0 = some (.int (nI 0)) ∧ M9 = M73) [.int (nI 0), .int (nI 8)] [.int (nI (δ 2)), .ref 22] rfl rfl rfl rfl (Nat.le_of_ble_eq_true rfl) (Nat.le_of_ble_eq_true rfl) (c_rd_takeNumberD _ M73 f1.1 f1.2 hq75 (nI 0) (nI 8)) ?_
            rintro _ M9 ⟨rfl, hsm⟩
            obtain rfl := hsm.symm
            show Wn _ 234 _ (158, [(2, .int (nI (δ 2))), (1, .ref 16), (0, .ref 78)], [.int (nI 0), .int (nI (δ 2)), .ref 22], M73)
            refine Wn.run (tab := tb_tl_readPerson) rfl 1 (c' := (159, [(2, .int (nI (δ 2))), (1, .ref 16), (0, .ref 78)], [], (mI M73 22 (upd (M73.1 22) ((nI (δ 2))).toNatClampNeg (nI 0))))) (o := [aok shp 22 0 (nI (δ 2))]) rfl (ak1 (n := 6) rfl rfl rfl (by omega)) ?_
            generalize hM116 : (mI M73 22 (upd (M73.1 22) ((nI (δ 2))).toNatClampNeg (nI 0))) = M115
            have hq117 := RdD_fr (fr_1I hM116) (by decide) hq75
            have hk118 := fI_ne hM116 (by decide) hk76
            have hk119 := fJ_oI hM116 hk77
            have hk120 := fI_ne hM116 (by decide) hk78
            have hk121 := fJ_oI hM116 hk79
            have hk122 := fI_ne hM116 (by decide) hk80
            have hk123 := fI_ne hM116 (by decide) hk81
            have hk124 := fI_ne hM116 (by decide) hk82
            have hk125 := fI_upx hM116 hk83 (cl1 rfl (by omega))
            have hk126 := fI_ne hM116 (by decide) hk84
            have hk127 := fI_ne hM116 (by decide) hk85
            have hF128 := fr_sI hF86 hM116 (by decide)
            show Wn _ 234 _ (159, [(2, .int (nI (δ 2))), (1, .ref 16), (0, .ref 78)], [], M115)
            refine Wn.run (tab := tb_tl_readPerson) rfl 5 (c' := (166, [(2, .int (nI (δ 2))), (1, .ref 16), (0, .ref 78)], [], (mI M115 16 (upd (M115.1 16) 2 ((nI (δ 2)) + (nI 1)))))) (o := [shp 16 = (0, 2)]) rfl rfl ?_
            rw [show ((nI (δ 2)) + (nI 1)) = (nI ((δ 2) + 1)) from (n_add rfl rfl)]
            generalize hM130 : (mI M115 16 (upd (M115.1 16) 2 (nI ((δ 2) + 1)))) = M129
            have hq131 := RdD_fr (fr_1I hM130) (by decide) hq117
            have hk132 := fI_ne hM130 (by decide) hk118
            have hk133 := fJ_oI hM130 hk119
            have hk134 := fI_up hM130 hk120
            have hk135 := fJ_oI hM130 hk121
            have hk136 := fI_ne hM130 (by decide) hk122
            have hk137 := fI_ne hM130 (by decide) hk123
            have hk138 := fI_ne hM130 (by decide) hk124
            have hk139 := fI_ne hM130 (by decide) hk125
            have hk140 := fI_ne hM130 (by decide) hk126
            have hk141 := fI_ne hM130 (by decide) hk127
            have hF142 := fr_sI hF128 hM130 (by decide)
            show Wn _ 234 _ (166, [(2, .int (nI (δ 2))), (1, .ref 16), (0, .ref 78)], [], M129)
            have e9 : rdPe T L mo p δ ν o ic = .inl f1 := by unfold rdPe; rw [if_neg (show ¬ δ 2 = 6 by omega), if_neg (fun q9 => q9 hk3)]; simp only [hpc, hc1]
            rw [e9]
            exact Wn.vret rfl ⟨rfl, hF142, hq131⟩
        | inr v1 =>
          obtain ⟨x1, p1⟩ := v1
          have bd1 : 0 ≤ x1 ∧ x1 ≤ δ 0 - 1 := by obtain ⟨q1, q2, q3⟩ := tkN_inr hc1; cases q3; exact q2
          cases hc2 : tkN T L mo p1 0 (δ 1 - 1) with
          | inl f2 =>
            refine Wn.callV (p := 78) (n := 1) (ix := 152) (ci := (6)) (PCe M29 g x1 (fun M9 => RdD M9 f2.1 f2.2)) [] [.int (nI (δ 2)), .ref 21] rfl rfl rfl rfl (Nat.le_of_ble_eq_true rfl) (Nat.le_of_ble_eq_true rfl) (c_tl_takeCell_e2 _ M29 T L mo (tNx T L (tNx T L p)) (tAt T L mo (tNx T L p)) hq31 g gl hk32 hk34 (δ 0) (δ 1) (show gl 0 = (nI (δ 0)) from (hd.1 0 (by decide))) (show gl 1 = (nI (δ 1)) from (hd.1 1 (by decide))) b0 b1 x1 p1 hc1 (by omega) f2 hc2) ?_
            rintro _ M147 ⟨rfl, hK143, hg144, hj145, hF146⟩
            show Wn _ 234 _ (64, [(2, .int (nI (δ 2))), (1, .ref 16), (0, .ref 78)], [.int (nI x1), .int (nI (δ 2)), .ref 21], M147)
            have hq148 : RdD M147 f2.1 f2.2 := hK143
            have hj149 := hj145.trans hk33
            have hk150 := frI_fun hF146 (by decide) hk34
            have hk151 := frJ_fun hF146 (by decide) hk35
            have hk152 := frI_fun hF146 (by decide) hk36
            have hk153 := frI_fun hF146 (by decide) hk37
            have hk154 := frI_fun hF146 (by decide) hk38
            have hk155 := frI_fun hF146 (by decide) hk39
            have hk156 := frI_fun hF146 (by decide) hk40
            have hk157 := frI_fun hF146 (by decide) hk41
            have hF158 := fr_tr hF42 hF146 (by decide)
            refine Wn.run (tab := tb_tl_readPerson) rfl 1 (c' := (65, [(2, .int (nI (δ 2))), (1, .ref 16), (0, .ref 78)], [], (mI M147 21 (upd (M147.1 21) ((nI (δ 2))).toNatClampNeg (nI x1))))) (o := [aok shp 21 0 (nI (δ 2))]) rfl (ak1 (n := 6) rfl rfl rfl (by omega)) ?_
            generalize hM160 : (mI M147 21 (upd (M147.1 21) ((nI (δ 2))).toNatClampNeg (nI x1))) = M159
            have hq161 := RdD_fr (fr_1I hM160) (by decide) hq148
            have hk162 := fI_ne hM160 (by decide) hg144
            have hk163 := fJ_oI hM160 hj149
            have hk164 := fI_ne hM160 (by decide) hk150
            have hk165 := fJ_oI hM160 hk151
            have hk166 := fI_ne hM160 (by decide) hk152
            have hk167 := fI_ne hM160 (by decide) hk153
            have hk168 := fI_upx hM160 hk154 (cl1 rfl (by omega))
            have hk169 := fI_ne hM160 (by decide) hk155
            have hk170 := fI_ne hM160 (by decide) hk156
            have hk171 := fI_ne hM160 (by decide) hk157
            have hF172 := fr_sI hF158 hM160 (by decide)
            show Wn _ 234 _ (65, [(2, .int (nI (δ 2))), (1, .ref 16), (0, .ref 78)], [], M159)
            refine Wn.run (tab := tb_tl_readPerson) rfl 7 (c' := (76, [(2, .int (nI (δ 2))), (1, .ref 16), (0, .ref 78)], [.int (nI 5), .int (nI 1), .ref 77, .int (nI (δ 2)), .ref 18], M159)) (o := [shp 16 = (0, 2), shp 78 = (0, 6)]) rfl ⟨rfl, rfl⟩ ?_
            refine Wn.callV (p := 77) (n := 3) (ix := 99) (ci := (3)) (fun r0 M9 => r0 = some (.int (nI 1)) ∧ M9 = M159) [.int (nI 1), .int (nI 5)] [.int (nI (δ 2)), .ref 18] rfl rfl rfl rfl (Nat.le_of_ble_eq_true rfl) (Nat.le_of_ble_eq_true rfl) (c_rd_takeNumberD _ M159 f2.1 f2.2 hq161 (nI 1) (nI 5)) ?_
            rintro _ M9 ⟨rfl, hsm⟩
            obtain rfl := hsm.symm
            show Wn _ 234 _ (79, [(2, .int (nI (δ 2))), (1, .ref 16), (0, .ref 78)], [.int (nI 1), .int (nI (δ 2)), .ref 18], M159)
            refine Wn.run (tab := tb_tl_readPerson) rfl 1 (c' := (80, [(2, .int (nI (δ 2))), (1, .ref 16), (0, .ref 78)], [], (mI M159 18 (upd (M159.1 18) ((nI (δ 2))).toNatClampNeg (nI 1))))) (o := [aok shp 18 0 (nI (δ 2))]) rfl (ak1 (n := 6) rfl rfl rfl (by omega)) ?_
            generalize hM174 : (mI M159 18 (upd (M159.1 18) ((nI (δ 2))).toNatClampNeg (nI 1))) = M173
            have hq175 := RdD_fr (fr_1I hM174) (by decide) hq161
            have hk176 := fI_ne hM174 (by decide) hk162
            have hk177 := fJ_oI hM174 hk163
            have hk178 := fI_ne hM174 (by decide) hk164
            have hk179 := fJ_oI hM174 hk165
            have hk180 := fI_upx hM174 hk166 (cl1 rfl (by omega))
            have hk181 := fI_ne hM174 (by decide) hk167
            have hk182 := fI_ne hM174 (by decide) hk168
            have hk183 := fI_ne hM174 (by decide) hk169
            have hk184 := fI_ne hM174 (by decide) hk170
            have hk185 := fI_ne hM174 (by decide) hk171
            have hF186 := fr_sI hF172 hM174 (by decide)
            show Wn _ 234 _ (80, [(2, .int (nI (δ 2))), (1, .ref 16), (0, .ref 78)], [], M173)
            refine Wn.run (tab := tb_tl_readPerson) rfl 10 (c' := (100, [(2, .int (nI (δ 2))), (1, .ref 16), (0, .ref 78)], [.int (M173.1 21 ((nI (δ 2))).toNatClampNeg), .int (nI (δ 2)), .ref 19], M173)) (o := [shp 78 = (0, 6), shp 15 = (0, 8), shp 78 = (0, 6), shp 15 = (0, 8), shp 19 = (0, 5), aok shp 21 0 (nI (δ 2))]) rfl ⟨rfl, rfl, rfl, rfl, rfl, (ak1 (n := 6) rfl rfl rfl (by omega))⟩ ?_
            rw [show (M173.1 21 ((nI (δ 2))).toNatClampNeg) = (nI x1) from ((fr_rdx hk182 rfl (by omega)).trans pk_us)]
            have dl9 := dlN_le hδ.1.2.2.2.1 x1 (δ 2) (Nat.le_refl _)
            have bc9 := bc x1 (by omega)
            refine Wn.callV (p := 19) (n := 3) (ix := 172) (ci := (5)) (fun r0 M0 => r0 = some (.int (nI (dlN δ x1 (δ 2) + 1))) ∧ M173 = M0) [.int (nI (δ 2)), .int (nI x1)] [] rfl rfl rfl rfl (Nat.le_of_ble_eq_true rfl) (Nat.le_of_ble_eq_true rfl) (w_st_loadWith19 _ M173 δ ν (by unfold CD; rw [hk178, hk179, hk180, hk181, hk182, hk183, hk184, hk185]; exact CD_x hd) hδ x1 1 (by omega) (by rw [hk180]; exact pk_us) (by omega) _ ⟨rfl, rfl⟩) ?_
            rintro _ _ ⟨rfl, rfl⟩
            show Wn _ 234 _ (103, [(2, .int (nI (δ 2))), (1, .ref 16), (0, .ref 78)], [.int (nI (dlN δ x1 (δ 2) + 1))], M173)
            refine Wn.run (tab := tb_tl_readPerson) rfl 12 (c' := (if (nI (dlN δ x1 (δ 2) + 1)) ≤ (M173.1 20 ((M173.1 21 ((nI (δ 2))).toNatClampNeg)).toNatClampNeg) then 137 else 129, [(2, .int (nI (δ 2))), (1, .ref 16), (0, .ref 78)], [], M173)) (o := [shp 78 = (0, 6), shp 15 = (0, 8), shp 19 = (0, 5), shp 78 = (0, 6), shp 15 = (0, 8), shp 19 = (0, 5), aok shp 21 0 (nI (δ 2)), aok shp 20 0 (M173.1 21 ((nI (δ 2))).toNatClampNeg)]) rfl ⟨rfl, rfl, rfl, rfl, rfl, rfl, (ak1 (n := 6) rfl rfl rfl (by omega)), (ak1 (n := 64) rfl rfl ((fr_rdx hk182 rfl (by omega)).trans pk_us) (by omega))⟩ ?_
            refine Wn.br (fun h3 => ?_) (fun h3 => ?_)
            · show Wn _ 234 _ (137, [(2, .int (nI (δ 2))), (1, .ref 16), (0, .ref 78)], [], M173)
              rw [show (M173.1 20 ((M173.1 21 ((nI (δ 2))).toNatClampNeg)).toNatClampNeg) = (ice x1) from (fr_rdx hk181 ((fr_rdx hk182 rfl (by omega)).trans pk_us) (by omega))] at h3
              refine Wn.run (tab := tb_tl_readPerson) rfl 9 (c' := (155, [(2, .int (nI (δ 2))), (1, .ref 16), (0, .ref 78)], [.int (nI 8), .int (nI 0), .ref 77, .int (nI (δ 2)), .ref 22], M173)) (o := [shp 78 = (0, 6), shp 15 = (0, 8), shp 19 = (0, 5), shp 78 = (0, 6)]) rfl ⟨rfl, rfl, rfl, rfl⟩ ?_
              refine Wn.callV (p := 77) (n := 3) (ix := 99) (ci := (3)) (fun r0 M9 => r0 = some (.int (nI 0)) ∧ M9 = M173) [.int (nI 0), .int (nI 8)] [.int (nI (δ 2)), .ref 22] rfl rfl rfl rfl (Nat.le_of_ble_eq_true rfl) (Nat.le_of_ble_eq_true rfl) (c_rd_takeNumberD _ M173 f2.1 f2.2 hq175 (nI 0) (nI 8)) ?_
              rintro _ M9 ⟨rfl, hsm⟩
              obtain rfl := hsm.symm
              show Wn _ 234 _ (158, [(2, .int (nI (δ 2))), (1, .ref 16), (0, .ref 78)], [.int (nI 0), .int (nI (δ 2)), .ref 22], M173)
              refine Wn.run (tab := tb_tl_readPerson) rfl 1 (c' := (159, [(2, .int (nI (δ 2))), (1, .ref 16), (0, .ref 78)], [], (mI M173 22 (upd (M173.1 22) ((nI (δ 2))).toNatClampNeg (nI 0))))) (o := [aok shp 22 0 (nI (δ 2))]) rfl (ak1 (n := 6) rfl rfl rfl (by omega)) ?_
              generalize hM188 : (mI M173 22 (upd (M173.1 22) ((nI (δ 2))).toNatClampNeg (nI 0))) = M187
              have hq189 := RdD_fr (fr_1I hM188) (by decide) hq175
              have hk190 := fI_ne hM188 (by decide) hk176
              have hk191 := fJ_oI hM188 hk177
              have hk192 := fI_ne hM188 (by decide) hk178
              have hk193 := fJ_oI hM188 hk179
              have hk194 := fI_ne hM188 (by decide) hk180
              have hk195 := fI_ne hM188 (by decide) hk181
              have hk196 := fI_ne hM188 (by decide) hk182
              have hk197 := fI_upx hM188 hk183 (cl1 rfl (by omega))
              have hk198 := fI_ne hM188 (by decide) hk184
              have hk199 := fI_ne hM188 (by decide) hk185
              have hF200 := fr_sI hF186 hM188 (by decide)
              show Wn _ 234 _ (159, [(2, .int (nI (δ 2))), (1, .ref 16), (0, .ref 78)], [], M187)
              refine Wn.run (tab := tb_tl_readPerson) rfl 5 (c' := (166, [(2, .int (nI (δ 2))), (1, .ref 16), (0, .ref 78)], [], (mI M187 16 (upd (M187.1 16) 2 ((nI (δ 2)) + (nI 1)))))) (o := [shp 16 = (0, 2)]) rfl rfl ?_
              rw [show ((nI (δ 2)) + (nI 1)) = (nI ((δ 2) + 1)) from (n_add rfl rfl)]
              generalize hM202 : (mI M187 16 (upd (M187.1 16) 2 (nI ((δ 2) + 1)))) = M201
              have hq203 := RdD_fr (fr_1I hM202) (by decide) hq189
              have hk204 := fI_ne hM202 (by decide) hk190
              have hk205 := fJ_oI hM202 hk191
              have hk206 := fI_up hM202 hk192
              have hk207 := fJ_oI hM202 hk193
              have hk208 := fI_ne hM202 (by decide) hk194
              have hk209 := fI_ne hM202 (by decide) hk195
              have hk210 := fI_ne hM202 (by decide) hk196
              have hk211 := fI_ne hM202 (by decide) hk197
              have hk212 := fI_ne hM202 (by decide) hk198
              have hk213 := fI_ne hM202 (by decide) hk199
              have hF214 := fr_sI hF200 hM202 (by decide)
              show Wn _ 234 _ (166, [(2, .int (nI (δ 2))), (1, .ref 16), (0, .ref 78)], [], M201)
              have e9 : rdPe T L mo p δ ν o ic = .inl f2 := by unfold rdPe; rw [if_neg (show ¬ δ 2 = 6 by omega), if_neg (fun q9 => q9 hk3)]; simp only [hpc, hc1, hc2]
              rw [e9]
              exact Wn.vret rfl ⟨rfl, hF214, hq203⟩
            · show Wn _ 234 _ (129, [(2, .int (nI (δ 2))), (1, .ref 16), (0, .ref 78)], [], M173)
              rw [show (M173.1 20 ((M173.1 21 ((nI (δ 2))).toNatClampNeg)).toNatClampNeg) = (ice x1) from (fr_rdx hk181 ((fr_rdx hk182 rfl (by omega)).trans pk_us) (by omega))] at h3
              refine Wn.run (tab := tb_tl_readPerson) rfl 3 (c' := (134, [(2, .int (nI (δ 2))), (1, .ref 16), (0, .ref 78)], [.int (nI 3), .ref 77], M173)) (o := [shp 78 = (0, 6)]) rfl rfl ?_
              refine Wn.callV (p := 77) (n := 2) (ix := 155) (ci := (3)) (fun r0 M9 => r0 = none ∧ M9 = M173) [.int (nI 3)] [] rfl rfl rfl rfl (Nat.le_of_ble_eq_true rfl) (Nat.le_of_ble_eq_true rfl) (c_rd_failTakenD _ M173 f2.1 f2.2 hq175 (nI 3)) ?_
              rintro _ M9 ⟨rfl, hsm⟩
              obtain rfl := hsm.symm
              show Wn _ 234 _ (137, [(2, .int (nI (δ 2))), (1, .ref 16), (0, .ref 78)], [], M173)
              refine Wn.run (tab := tb_tl_readPerson) rfl 9 (c' := (155, [(2, .int (nI (δ 2))), (1, .ref 16), (0, .ref 78)], [.int (nI 8), .int (nI 0), .ref 77, .int (nI (δ 2)), .ref 22], M173)) (o := [shp 78 = (0, 6), shp 15 = (0, 8), shp 19 = (0, 5), shp 78 = (0, 6)]) rfl ⟨rfl, rfl, rfl, rfl⟩ ?_
              refine Wn.callV (p := 77) (n := 3) (ix := 99) (ci := (3)) (fun r0 M9 => r0 = some (.int (nI 0)) ∧ M9 = M173) [.int (nI 0), .int (nI 8)] [.int (nI (δ 2)), .ref 22] rfl rfl rfl rfl (Nat.le_of_ble_eq_true rfl) (Nat.le_of_ble_eq_true rfl) (c_rd_takeNumberD _ M173 f2.1 f2.2 hq175 (nI 0) (nI 8)) ?_
              rintro _ M9 ⟨rfl, hsm⟩
              obtain rfl := hsm.symm
              show Wn _ 234 _ (158, [(2, .int (nI (δ 2))), (1, .ref 16), (0, .ref 78)], [.int (nI 0), .int (nI (δ 2)), .ref 22], M173)
              refine Wn.run (tab := tb_tl_readPerson) rfl 1 (c' := (159, [(2, .int (nI (δ 2))), (1, .ref 16), (0, .ref 78)], [], (mI M173 22 (upd (M173.1 22) ((nI (δ 2))).toNatClampNeg (nI 0))))) (o := [aok shp 22 0 (nI (δ 2))]) rfl (ak1 (n := 6) rfl rfl rfl (by omega)) ?_
              generalize hM216 : (mI M173 22 (upd (M173.1 22) ((nI (δ 2))).toNatClampNeg (nI 0))) = M215
              have hq217 := RdD_fr (fr_1I hM216) (by decide) hq175
              have hk218 := fI_ne hM216 (by decide) hk176
              have hk219 := fJ_oI hM216 hk177
              have hk220 := fI_ne hM216 (by decide) hk178
              have hk221 := fJ_oI hM216 hk179
              have hk222 := fI_ne hM216 (by decide) hk180
              have hk223 := fI_ne hM216 (by decide) hk181
              have hk224 := fI_ne hM216 (by decide) hk182
              have hk225 := fI_upx hM216 hk183 (cl1 rfl (by omega))
              have hk226 := fI_ne hM216 (by decide) hk184
              have hk227 := fI_ne hM216 (by decide) hk185
              have hF228 := fr_sI hF186 hM216 (by decide)
              show Wn _ 234 _ (159, [(2, .int (nI (δ 2))), (1, .ref 16), (0, .ref 78)], [], M215)
              refine Wn.run (tab := tb_tl_readPerson) rfl 5 (c' := (166, [(2, .int (nI (δ 2))), (1, .ref 16), (0, .ref 78)], [], (mI M215 16 (upd (M215.1 16) 2 ((nI (δ 2)) + (nI 1)))))) (o := [shp 16 = (0, 2)]) rfl rfl ?_
              rw [show ((nI (δ 2)) + (nI 1)) = (nI ((δ 2) + 1)) from (n_add rfl rfl)]
              generalize hM230 : (mI M215 16 (upd (M215.1 16) 2 (nI ((δ 2) + 1)))) = M229
              have hq231 := RdD_fr (fr_1I hM230) (by decide) hq217
              have hk232 := fI_ne hM230 (by decide) hk218
              have hk233 := fJ_oI hM230 hk219
              have hk234 := fI_up hM230 hk220
              have hk235 := fJ_oI hM230 hk221
              have hk236 := fI_ne hM230 (by decide) hk222
              have hk237 := fI_ne hM230 (by decide) hk223
              have hk238 := fI_ne hM230 (by decide) hk224
              have hk239 := fI_ne hM230 (by decide) hk225
              have hk240 := fI_ne hM230 (by decide) hk226
              have hk241 := fI_ne hM230 (by decide) hk227
              have hF242 := fr_sI hF228 hM230 (by decide)
              show Wn _ 234 _ (166, [(2, .int (nI (δ 2))), (1, .ref 16), (0, .ref 78)], [], M229)
              have e9 : rdPe T L mo p δ ν o ic = .inl f2 := by unfold rdPe; rw [if_neg (show ¬ δ 2 = 6 by omega), if_neg (fun q9 => q9 hk3)]; simp only [hpc, hc1, hc2]
              rw [e9]
              exact Wn.vret rfl ⟨rfl, hF242, hq231⟩
          | inr v2 =>
            obtain ⟨x2, p2⟩ := v2
            have bd2 : 0 ≤ x2 ∧ x2 ≤ δ 1 - 1 := by obtain ⟨q1, q2, q3⟩ := tkN_inr hc2; cases q3; exact q2
            refine Wn.callV (p := 78) (n := 1) (ix := 152) (ci := (6)) (PCe M29 g (8 * x2 + x1) (fun M9 => RdL M9 T L mo p2 (tAt T L mo p1))) [] [.int (nI (δ 2)), .ref 21] rfl rfl rfl rfl (Nat.le_of_ble_eq_true rfl) (Nat.le_of_ble_eq_true rfl) (c_tl_takeCell_ok _ M29 T L mo (tNx T L (tNx T L p)) (tAt T L mo (tNx T L p)) hq31 g gl hk32 hk34 (δ 0) (δ 1) (show gl 0 = (nI (δ 0)) from (hd.1 0 (by decide))) (show gl 1 = (nI (δ 1)) from (hd.1 1 (by decide))) b0 b1 x1 p1 hc1 (by omega) x2 p2 hc2 (by omega)) ?_
            rintro _ M247 ⟨rfl, hK243, hg244, hj245, hF246⟩
            show Wn _ 234 _ (64, [(2, .int (nI (δ 2))), (1, .ref 16), (0, .ref 78)], [.int (nI (8 * x2 + x1)), .int (nI (δ 2)), .ref 21], M247)
            have hq248 : RdL M247 T L mo p2 (tAt T L mo p1) := hK243
            have hj249 := hj245.trans hk33
            have hk250 := frI_fun hF246 (by decide) hk34
            have hk251 := frJ_fun hF246 (by decide) hk35
            have hk252 := frI_fun hF246 (by decide) hk36
            have hk253 := frI_fun hF246 (by decide) hk37
            have hk254 := frI_fun hF246 (by decide) hk38
            have hk255 := frI_fun hF246 (by decide) hk39
            have hk256 := frI_fun hF246 (by decide) hk40
            have hk257 := frI_fun hF246 (by decide) hk41
            have hF258 := fr_tr hF42 hF246 (by decide)
            refine Wn.run (tab := tb_tl_readPerson) rfl 1 (c' := (65, [(2, .int (nI (δ 2))), (1, .ref 16), (0, .ref 78)], [], (mI M247 21 (upd (M247.1 21) ((nI (δ 2))).toNatClampNeg (nI (8 * x2 + x1)))))) (o := [aok shp 21 0 (nI (δ 2))]) rfl (ak1 (n := 6) rfl rfl rfl (by omega)) ?_
            generalize hM260 : (mI M247 21 (upd (M247.1 21) ((nI (δ 2))).toNatClampNeg (nI (8 * x2 + x1)))) = M259
            have hq261 := RdL_fr (fr_1I hM260) (by decide) hq248
            have hk262 := fI_ne hM260 (by decide) hg244
            have hk263 := fJ_oI hM260 hj249
            have hk264 := fI_ne hM260 (by decide) hk250
            have hk265 := fJ_oI hM260 hk251
            have hk266 := fI_ne hM260 (by decide) hk252
            have hk267 := fI_ne hM260 (by decide) hk253
            have hk268 := fI_upx hM260 hk254 (cl1 rfl (by omega))
            have hk269 := fI_ne hM260 (by decide) hk255
            have hk270 := fI_ne hM260 (by decide) hk256
            have hk271 := fI_ne hM260 (by decide) hk257
            have hF272 := fr_sI hF258 hM260 (by decide)
            show Wn _ 234 _ (65, [(2, .int (nI (δ 2))), (1, .ref 16), (0, .ref 78)], [], M259)
            refine Wn.run (tab := tb_tl_readPerson) rfl 7 (c' := (76, [(2, .int (nI (δ 2))), (1, .ref 16), (0, .ref 78)], [.int (nI 5), .int (nI 1), .ref 77, .int (nI (δ 2)), .ref 18], M259)) (o := [shp 16 = (0, 2), shp 78 = (0, 6)]) rfl ⟨rfl, rfl⟩ ?_
            cases hc3 : tkN T L mo p2 1 5 with
            | inl f3 =>
              refine Wn.callV (p := 77) (n := 3) (ix := 99) (ci := (3)) (PFl M259 f3.1 f3.2 (some (.int (nI 1)))) [.int (nI 1), .int (nI 5)] [.int (nI (δ 2)), .ref 18] rfl rfl rfl rfl (Nat.le_of_ble_eq_true rfl) (Nat.le_of_ble_eq_true rfl) (c_rd_takeE _ M259 T L mo p2 (tAt T L mo p1) hq261 1 5 (by omega) (by omega) f3 hc3) ?_
              rintro _ M273 ⟨rfl, hq274, hF275⟩
              show Wn _ 234 _ (79, [(2, .int (nI (δ 2))), (1, .ref 16), (0, .ref 78)], [.int (nI 1), .int (nI (δ 2)), .ref 18], M273)
              have hk276 := frI_fun hF275 (by decide) hk262
              have hk277 := frJ_fun hF275 (by decide) hk263
              have hk278 := frI_fun hF275 (by decide) hk264
              have hk279 := frJ_fun hF275 (by decide) hk265
              have hk280 := frI_fun hF275 (by decide) hk266
              have hk281 := frI_fun hF275 (by decide) hk267
              have hk282 := frI_fun hF275 (by decide) hk268
              have hk283 := frI_fun hF275 (by decide) hk269
              have hk284 := frI_fun hF275 (by decide) hk270
              have hk285 := frI_fun hF275 (by decide) hk271
              have hF286 := fr_tr hF272 hF275 (by decide)
              refine Wn.run (tab := tb_tl_readPerson) rfl 1 (c' := (80, [(2, .int (nI (δ 2))), (1, .ref 16), (0, .ref 78)], [], (mI M273 18 (upd (M273.1 18) ((nI (δ 2))).toNatClampNeg (nI 1))))) (o := [aok shp 18 0 (nI (δ 2))]) rfl (ak1 (n := 6) rfl rfl rfl (by omega)) ?_
              generalize hM288 : (mI M273 18 (upd (M273.1 18) ((nI (δ 2))).toNatClampNeg (nI 1))) = M287
              have hq289 := RdD_fr (fr_1I hM288) (by decide) hq274
              have hk290 := fI_ne hM288 (by decide) hk276
              have hk291 := fJ_oI hM288 hk277
              have hk292 := fI_ne hM288 (by decide) hk278
              have hk293 := fJ_oI hM288 hk279
              have hk294 := fI_upx hM288 hk280 (cl1 rfl (by omega))
              have hk295 := fI_ne hM288 (by decide) hk281
              have hk296 := fI_ne hM288 (by decide) hk282
              have hk297 := fI_ne hM288 (by decide) hk283
              have hk298 := fI_ne hM288 (by decide) hk284
              have hk299 := fI_ne hM288 (by decide) hk285
              have hF300 := fr_sI hF286 hM288 (by decide)
              show Wn _ 234 _ (80, [(2, .int (nI (δ 2))), (1, .ref 16), (0, .ref 78)], [], M287)
              refine Wn.run (tab := tb_tl_readPerson) rfl 10 (c' := (100, [(2, .int (nI (δ 2))), (1, .ref 16), (0, .ref 78)], [.int (M287.1 21 ((nI (δ 2))).toNatClampNeg), .int (nI (δ 2)), .ref 19], M287)) (o := [shp 78 = (0, 6), shp 15 = (0, 8), shp 78 = (0, 6), shp 15 = (0, 8), shp 19 = (0, 5), aok shp 21 0 (nI (δ 2))]) rfl ⟨rfl, rfl, rfl, rfl, rfl, (ak1 (n := 6) rfl rfl rfl (by omega))⟩ ?_
              rw [show (M287.1 21 ((nI (δ 2))).toNatClampNeg) = (nI (8 * x2 + x1)) from ((fr_rdx hk296 rfl (by omega)).trans pk_us)]
              have dl9 := dlN_le hδ.1.2.2.2.1 (8 * x2 + x1) (δ 2) (Nat.le_refl _)
              have bc9 := bc (8 * x2 + x1) (by omega)
              refine Wn.callV (p := 19) (n := 3) (ix := 172) (ci := (5)) (fun r0 M0 => r0 = some (.int (nI (dlN δ (8 * x2 + x1) (δ 2) + 1))) ∧ M287 = M0) [.int (nI (δ 2)), .int (nI (8 * x2 + x1))] [] rfl rfl rfl rfl (Nat.le_of_ble_eq_true rfl) (Nat.le_of_ble_eq_true rfl) (w_st_loadWith19 _ M287 δ ν (by unfold CD; rw [hk292, hk293, hk294, hk295, hk296, hk297, hk298, hk299]; exact CD_x hd) hδ (8 * x2 + x1) 1 (by omega) (by rw [hk294]; exact pk_us) (by omega) _ ⟨rfl, rfl⟩) ?_
              rintro _ _ ⟨rfl, rfl⟩
              show Wn _ 234 _ (103, [(2, .int (nI (δ 2))), (1, .ref 16), (0, .ref 78)], [.int (nI (dlN δ (8 * x2 + x1) (δ 2) + 1))], M287)
              refine Wn.run (tab := tb_tl_readPerson) rfl 12 (c' := (if (nI (dlN δ (8 * x2 + x1) (δ 2) + 1)) ≤ (M287.1 20 ((M287.1 21 ((nI (δ 2))).toNatClampNeg)).toNatClampNeg) then 137 else 129, [(2, .int (nI (δ 2))), (1, .ref 16), (0, .ref 78)], [], M287)) (o := [shp 78 = (0, 6), shp 15 = (0, 8), shp 19 = (0, 5), shp 78 = (0, 6), shp 15 = (0, 8), shp 19 = (0, 5), aok shp 21 0 (nI (δ 2)), aok shp 20 0 (M287.1 21 ((nI (δ 2))).toNatClampNeg)]) rfl ⟨rfl, rfl, rfl, rfl, rfl, rfl, (ak1 (n := 6) rfl rfl rfl (by omega)), (ak1 (n := 64) rfl rfl ((fr_rdx hk296 rfl (by omega)).trans pk_us) (by omega))⟩ ?_
              refine Wn.br (fun h4 => ?_) (fun h4 => ?_)
              · show Wn _ 234 _ (137, [(2, .int (nI (δ 2))), (1, .ref 16), (0, .ref 78)], [], M287)
                rw [show (M287.1 20 ((M287.1 21 ((nI (δ 2))).toNatClampNeg)).toNatClampNeg) = (ice (8 * x2 + x1)) from (fr_rdx hk295 ((fr_rdx hk296 rfl (by omega)).trans pk_us) (by omega))] at h4
                refine Wn.run (tab := tb_tl_readPerson) rfl 9 (c' := (155, [(2, .int (nI (δ 2))), (1, .ref 16), (0, .ref 78)], [.int (nI 8), .int (nI 0), .ref 77, .int (nI (δ 2)), .ref 22], M287)) (o := [shp 78 = (0, 6), shp 15 = (0, 8), shp 19 = (0, 5), shp 78 = (0, 6)]) rfl ⟨rfl, rfl, rfl, rfl⟩ ?_
                refine Wn.callV (p := 77) (n := 3) (ix := 99) (ci := (3)) (fun r0 M9 => r0 = some (.int (nI 0)) ∧ M9 = M287) [.int (nI 0), .int (nI 8)] [.int (nI (δ 2)), .ref 22] rfl rfl rfl rfl (Nat.le_of_ble_eq_true rfl) (Nat.le_of_ble_eq_true rfl) (c_rd_takeNumberD _ M287 f3.1 f3.2 hq289 (nI 0) (nI 8)) ?_
                rintro _ M9 ⟨rfl, hsm⟩
                obtain rfl := hsm.symm
                show Wn _ 234 _ (158, [(2, .int (nI (δ 2))), (1, .ref 16), (0, .ref 78)], [.int (nI 0), .int (nI (δ 2)), .ref 22], M287)
                refine Wn.run (tab := tb_tl_readPerson) rfl 1 (c' := (159, [(2, .int (nI (δ 2))), (1, .ref 16), (0, .ref 78)], [], (mI M287 22 (upd (M287.1 22) ((nI (δ 2))).toNatClampNeg (nI 0))))) (o := [aok shp 22 0 (nI (δ 2))]) rfl (ak1 (n := 6) rfl rfl rfl (by omega)) ?_
                generalize hM302 : (mI M287 22 (upd (M287.1 22) ((nI (δ 2))).toNatClampNeg (nI 0))) = M301
                have hq303 := RdD_fr (fr_1I hM302) (by decide) hq289
                have hk304 := fI_ne hM302 (by decide) hk290
                have hk305 := fJ_oI hM302 hk291
                have hk306 := fI_ne hM302 (by decide) hk292
                have hk307 := fJ_oI hM302 hk293
                have hk308 := fI_ne hM302 (by decide) hk294
                have hk309 := fI_ne hM302 (by decide) hk295
                have hk310 := fI_ne hM302 (by decide) hk296
                have hk311 := fI_upx hM302 hk297 (cl1 rfl (by omega))
                have hk312 := fI_ne hM302 (by decide) hk298
                have hk313 := fI_ne hM302 (by decide) hk299
                have hF314 := fr_sI hF300 hM302 (by decide)
                show Wn _ 234 _ (159, [(2, .int (nI (δ 2))), (1, .ref 16), (0, .ref 78)], [], M301)
                refine Wn.run (tab := tb_tl_readPerson) rfl 5 (c' := (166, [(2, .int (nI (δ 2))), (1, .ref 16), (0, .ref 78)], [], (mI M301 16 (upd (M301.1 16) 2 ((nI (δ 2)) + (nI 1)))))) (o := [shp 16 = (0, 2)]) rfl rfl ?_
                rw [show ((nI (δ 2)) + (nI 1)) = (nI ((δ 2) + 1)) from (n_add rfl rfl)]
                generalize hM316 : (mI M301 16 (upd (M301.1 16) 2 (nI ((δ 2) + 1)))) = M315
                have hq317 := RdD_fr (fr_1I hM316) (by decide) hq303
                have hk318 := fI_ne hM316 (by decide) hk304
                have hk319 := fJ_oI hM316 hk305
                have hk320 := fI_up hM316 hk306
                have hk321 := fJ_oI hM316 hk307
                have hk322 := fI_ne hM316 (by decide) hk308
                have hk323 := fI_ne hM316 (by decide) hk309
                have hk324 := fI_ne hM316 (by decide) hk310
                have hk325 := fI_ne hM316 (by decide) hk311
                have hk326 := fI_ne hM316 (by decide) hk312
                have hk327 := fI_ne hM316 (by decide) hk313
                have hF328 := fr_sI hF314 hM316 (by decide)
                show Wn _ 234 _ (166, [(2, .int (nI (δ 2))), (1, .ref 16), (0, .ref 78)], [], M315)
                have e9 : rdPe T L mo p δ ν o ic = .inl f3 := by unfold rdPe; rw [if_neg (show ¬ δ 2 = 6 by omega), if_neg (fun q9 => q9 hk3)]; simp only [hpc, hc1, hc2, hc3]
                rw [e9]
                exact Wn.vret rfl ⟨rfl, hF328, hq317⟩
              · show Wn _ 234 _ (129, [(2, .int (nI (δ 2))), (1, .ref 16), (0, .ref 78)], [], M287)
                rw [show (M287.1 20 ((M287.1 21 ((nI (δ 2))).toNatClampNeg)).toNatClampNeg) = (ice (8 * x2 + x1)) from (fr_rdx hk295 ((fr_rdx hk296 rfl (by omega)).trans pk_us) (by omega))] at h4
                refine Wn.run (tab := tb_tl_readPerson) rfl 3 (c' := (134, [(2, .int (nI (δ 2))), (1, .ref 16), (0, .ref 78)], [.int (nI 3), .ref 77], M287)) (o := [shp 78 = (0, 6)]) rfl rfl ?_
                refine Wn.callV (p := 77) (n := 2) (ix := 155) (ci := (3)) (fun r0 M9 => r0 = none ∧ M9 = M287) [.int (nI 3)] [] rfl rfl rfl rfl (Nat.le_of_ble_eq_true rfl) (Nat.le_of_ble_eq_true rfl) (c_rd_failTakenD _ M287 f3.1 f3.2 hq289 (nI 3)) ?_
                rintro _ M9 ⟨rfl, hsm⟩
                obtain rfl := hsm.symm
                show Wn _ 234 _ (137, [(2, .int (nI (δ 2))), (1, .ref 16), (0, .ref 78)], [], M287)
                refine Wn.run (tab := tb_tl_readPerson) rfl 9 (c' := (155, [(2, .int (nI (δ 2))), (1, .ref 16), (0, .ref 78)], [.int (nI 8), .int (nI 0), .ref 77, .int (nI (δ 2)), .ref 22], M287)) (o := [shp 78 = (0, 6), shp 15 = (0, 8), shp 19 = (0, 5), shp 78 = (0, 6)]) rfl ⟨rfl, rfl, rfl, rfl⟩ ?_
                refine Wn.callV (p := 77) (n := 3) (ix := 99) (ci := (3)) (fun r0 M9 => r0 = some (.int (nI 0)) ∧ M9 = M287) [.int (nI 0), .int (nI 8)] [.int (nI (δ 2)), .ref 22] rfl rfl rfl rfl (Nat.le_of_ble_eq_true rfl) (Nat.le_of_ble_eq_true rfl) (c_rd_takeNumberD _ M287 f3.1 f3.2 hq289 (nI 0) (nI 8)) ?_
                rintro _ M9 ⟨rfl, hsm⟩
                obtain rfl := hsm.symm
                show Wn _ 234 _ (158, [(2, .int (nI (δ 2))), (1, .ref 16), (0, .ref 78)], [.int (nI 0), .int (nI (δ 2)), .ref 22], M287)
                refine Wn.run (tab := tb_tl_readPerson) rfl 1 (c' := (159, [(2, .int (nI (δ 2))), (1, .ref 16), (0, .ref 78)], [], (mI M287 22 (upd (M287.1 22) ((nI (δ 2))).toNatClampNeg (nI 0))))) (o := [aok shp 22 0 (nI (δ 2))]) rfl (ak1 (n := 6) rfl rfl rfl (by omega)) ?_
                generalize hM330 : (mI M287 22 (upd (M287.1 22) ((nI (δ 2))).toNatClampNeg (nI 0))) = M329
                have hq331 := RdD_fr (fr_1I hM330) (by decide) hq289
                have hk332 := fI_ne hM330 (by decide) hk290
                have hk333 := fJ_oI hM330 hk291
                have hk334 := fI_ne hM330 (by decide) hk292
                have hk335 := fJ_oI hM330 hk293
                have hk336 := fI_ne hM330 (by decide) hk294
                have hk337 := fI_ne hM330 (by decide) hk295
                have hk338 := fI_ne hM330 (by decide) hk296
                have hk339 := fI_upx hM330 hk297 (cl1 rfl (by omega))
                have hk340 := fI_ne hM330 (by decide) hk298
                have hk341 := fI_ne hM330 (by decide) hk299
                have hF342 := fr_sI hF300 hM330 (by decide)
                show Wn _ 234 _ (159, [(2, .int (nI (δ 2))), (1, .ref 16), (0, .ref 78)], [], M329)
                refine Wn.run (tab := tb_tl_readPerson) rfl 5 (c' := (166, [(2, .int (nI (δ 2))), (1, .ref 16), (0, .ref 78)], [], (mI M329 16 (upd (M329.1 16) 2 ((nI (δ 2)) + (nI 1)))))) (o := [shp 16 = (0, 2)]) rfl rfl ?_
                rw [show ((nI (δ 2)) + (nI 1)) = (nI ((δ 2) + 1)) from (n_add rfl rfl)]
                generalize hM344 : (mI M329 16 (upd (M329.1 16) 2 (nI ((δ 2) + 1)))) = M343
                have hq345 := RdD_fr (fr_1I hM344) (by decide) hq331
                have hk346 := fI_ne hM344 (by decide) hk332
                have hk347 := fJ_oI hM344 hk333
                have hk348 := fI_up hM344 hk334
                have hk349 := fJ_oI hM344 hk335
                have hk350 := fI_ne hM344 (by decide) hk336
                have hk351 := fI_ne hM344 (by decide) hk337
                have hk352 := fI_ne hM344 (by decide) hk338
                have hk353 := fI_ne hM344 (by decide) hk339
                have hk354 := fI_ne hM344 (by decide) hk340
                have hk355 := fI_ne hM344 (by decide) hk341
                have hF356 := fr_sI hF342 hM344 (by decide)
                show Wn _ 234 _ (166, [(2, .int (nI (δ 2))), (1, .ref 16), (0, .ref 78)], [], M343)
                have e9 : rdPe T L mo p δ ν o ic = .inl f3 := by unfold rdPe; rw [if_neg (show ¬ δ 2 = 6 by omega), if_neg (fun q9 => q9 hk3)]; simp only [hpc, hc1, hc2, hc3]
                rw [e9]
                exact Wn.vret rfl ⟨rfl, hF356, hq345⟩
            | inr v3 =>
              obtain ⟨x3, p3⟩ := v3
              have bd3 : 1 ≤ x3 ∧ x3 ≤ 5 := by obtain ⟨q1, q2, q3⟩ := tkN_inr hc3; cases q3; exact q2
              refine Wn.callV (p := 77) (n := 3) (ix := 99) (ci := (3)) (PLv M259 T L mo p3 (tAt T L mo p2) (some (.int (nI x3)))) [.int (nI 1), .int (nI 5)] [.int (nI (δ 2)), .ref 18] rfl rfl rfl rfl (Nat.le_of_ble_eq_true rfl) (Nat.le_of_ble_eq_true rfl) (c_rd_takeV _ M259 T L mo p2 (tAt T L mo p1) hq261 1 5 (by omega) (by omega) (x3, p3) hc3) ?_
              rintro _ M357 ⟨rfl, hq358, hF359⟩
              show Wn _ 234 _ (79, [(2, .int (nI (δ 2))), (1, .ref 16), (0, .ref 78)], [.int (nI x3), .int (nI (δ 2)), .ref 18], M357)
              have hk360 := frI_fun hF359 (by decide) hk262
              have hk361 := frJ_fun hF359 (by decide) hk263
              have hk362 := frI_fun hF359 (by decide) hk264
              have hk363 := frJ_fun hF359 (by decide) hk265
              have hk364 := frI_fun hF359 (by decide) hk266
              have hk365 := frI_fun hF359 (by decide) hk267
              have hk366 := frI_fun hF359 (by decide) hk268
              have hk367 := frI_fun hF359 (by decide) hk269
              have hk368 := frI_fun hF359 (by decide) hk270
              have hk369 := frI_fun hF359 (by decide) hk271
              have hF370 := fr_tr hF272 hF359 (by decide)
              refine Wn.run (tab := tb_tl_readPerson) rfl 1 (c' := (80, [(2, .int (nI (δ 2))), (1, .ref 16), (0, .ref 78)], [], (mI M357 18 (upd (M357.1 18) ((nI (δ 2))).toNatClampNeg (nI x3))))) (o := [aok shp 18 0 (nI (δ 2))]) rfl (ak1 (n := 6) rfl rfl rfl (by omega)) ?_
              generalize hM372 : (mI M357 18 (upd (M357.1 18) ((nI (δ 2))).toNatClampNeg (nI x3))) = M371
              have hq373 := RdL_fr (fr_1I hM372) (by decide) hq358
              have hk374 := fI_ne hM372 (by decide) hk360
              have hk375 := fJ_oI hM372 hk361
              have hk376 := fI_ne hM372 (by decide) hk362
              have hk377 := fJ_oI hM372 hk363
              have hk378 := fI_upx hM372 hk364 (cl1 rfl (by omega))
              have hk379 := fI_ne hM372 (by decide) hk365
              have hk380 := fI_ne hM372 (by decide) hk366
              have hk381 := fI_ne hM372 (by decide) hk367
              have hk382 := fI_ne hM372 (by decide) hk368
              have hk383 := fI_ne hM372 (by decide) hk369
              have hF384 := fr_sI hF370 hM372 (by decide)
              show Wn _ 234 _ (80, [(2, .int (nI (δ 2))), (1, .ref 16), (0, .ref 78)], [], M371)
              refine Wn.run (tab := tb_tl_readPerson) rfl 10 (c' := (100, [(2, .int (nI (δ 2))), (1, .ref 16), (0, .ref 78)], [.int (M371.1 21 ((nI (δ 2))).toNatClampNeg), .int (nI (δ 2)), .ref 19], M371)) (o := [shp 78 = (0, 6), shp 15 = (0, 8), shp 78 = (0, 6), shp 15 = (0, 8), shp 19 = (0, 5), aok shp 21 0 (nI (δ 2))]) rfl ⟨rfl, rfl, rfl, rfl, rfl, (ak1 (n := 6) rfl rfl rfl (by omega))⟩ ?_
              rw [show (M371.1 21 ((nI (δ 2))).toNatClampNeg) = (nI (8 * x2 + x1)) from ((fr_rdx hk380 rfl (by omega)).trans pk_us)]
              have dl9 := dlN_le hδ.1.2.2.2.1 (8 * x2 + x1) (δ 2) (Nat.le_refl _)
              have bc9 := bc (8 * x2 + x1) (by omega)
              refine Wn.callV (p := 19) (n := 3) (ix := 172) (ci := (5)) (fun r0 M0 => r0 = some (.int (nI (dlN δ (8 * x2 + x1) (δ 2) + x3))) ∧ M371 = M0) [.int (nI (δ 2)), .int (nI (8 * x2 + x1))] [] rfl rfl rfl rfl (Nat.le_of_ble_eq_true rfl) (Nat.le_of_ble_eq_true rfl) (w_st_loadWith19 _ M371 δ ν (by unfold CD; rw [hk376, hk377, hk378, hk379, hk380, hk381, hk382, hk383]; exact CD_x hd) hδ (8 * x2 + x1) x3 (by omega) (by rw [hk378]; exact pk_us) (by omega) _ ⟨rfl, rfl⟩) ?_
              rintro _ _ ⟨rfl, rfl⟩
              show Wn _ 234 _ (103, [(2, .int (nI (δ 2))), (1, .ref 16), (0, .ref 78)], [.int (nI (dlN δ (8 * x2 + x1) (δ 2) + x3))], M371)
              refine Wn.run (tab := tb_tl_readPerson) rfl 12 (c' := (if (nI (dlN δ (8 * x2 + x1) (δ 2) + x3)) ≤ (M371.1 20 ((M371.1 21 ((nI (δ 2))).toNatClampNeg)).toNatClampNeg) then 137 else 129, [(2, .int (nI (δ 2))), (1, .ref 16), (0, .ref 78)], [], M371)) (o := [shp 78 = (0, 6), shp 15 = (0, 8), shp 19 = (0, 5), shp 78 = (0, 6), shp 15 = (0, 8), shp 19 = (0, 5), aok shp 21 0 (nI (δ 2)), aok shp 20 0 (M371.1 21 ((nI (δ 2))).toNatClampNeg)]) rfl ⟨rfl, rfl, rfl, rfl, rfl, rfl, (ak1 (n := 6) rfl rfl rfl (by omega)), (ak1 (n := 64) rfl rfl ((fr_rdx hk380 rfl (by omega)).trans pk_us) (by omega))⟩ ?_
              refine Wn.br (fun h5 => ?_) (fun h5 => ?_)
              · show Wn _ 234 _ (137, [(2, .int (nI (δ 2))), (1, .ref 16), (0, .ref 78)], [], M371)
                have h5 := (n_le rfl ((fr_rdx hk379 ((fr_rdx hk380 rfl (by omega)).trans pk_us) (by omega)).trans (hd.2.2.2.1 (8 * x2 + x1) (by omega) ⟨by omega, by omega⟩)) (by omega) (by omega)).mp h5
                refine Wn.run (tab := tb_tl_readPerson) rfl 9 (c' := (155, [(2, .int (nI (δ 2))), (1, .ref 16), (0, .ref 78)], [.int (nI 8), .int (nI 0), .ref 77, .int (nI (δ 2)), .ref 22], M371)) (o := [shp 78 = (0, 6), shp 15 = (0, 8), shp 19 = (0, 5), shp 78 = (0, 6)]) rfl ⟨rfl, rfl, rfl, rfl⟩ ?_
                cases hc4 : tkN T L mo p3 0 8 with
                | inl f4 =>
                  refine Wn.callV (p := 77) (n := 3) (ix := 99) (ci := (3)) (PFl M371 f4.1 f4.2 (some (.int (nI 0)))) [.int (nI 0), .int (nI 8)] [.int (nI (δ 2)), .ref 22] rfl rfl rfl rfl (Nat.le_of_ble_eq_true rfl) (Nat.le_of_ble_eq_true rfl) (c_rd_takeE _ M371 T L mo p3 (tAt T L mo p2) hq373 0 8 (by omega) (by omega) f4 hc4) ?_
                  rintro _ M385 ⟨rfl, hq386, hF387⟩
                  show Wn _ 234 _ (158, [(2, .int (nI (δ 2))), (1, .ref 16), (0, .ref 78)], [.int (nI 0), .int (nI (δ 2)), .ref 22], M385)
                  have hk388 := frI_fun hF387 (by decide) hk374
                  have hk389 := frJ_fun hF387 (by decide) hk375
                  have hk390 := frI_fun hF387 (by decide) hk376
                  have hk391 := frJ_fun hF387 (by decide) hk377
                  have hk392 := frI_fun hF387 (by decide) hk378
                  have hk393 := frI_fun hF387 (by decide) hk379
                  have hk394 := frI_fun hF387 (by decide) hk380
                  have hk395 := frI_fun hF387 (by decide) hk381
                  have hk396 := frI_fun hF387 (by decide) hk382
                  have hk397 := frI_fun hF387 (by decide) hk383
                  have hF398 := fr_tr hF384 hF387 (by decide)
                  refine Wn.run (tab := tb_tl_readPerson) rfl 1 (c' := (159, [(2, .int (nI (δ 2))), (1, .ref 16), (0, .ref 78)], [], (mI M385 22 (upd (M385.1 22) ((nI (δ 2))).toNatClampNeg (nI 0))))) (o := [aok shp 22 0 (nI (δ 2))]) rfl (ak1 (n := 6) rfl rfl rfl (by omega)) ?_
                  generalize hM400 : (mI M385 22 (upd (M385.1 22) ((nI (δ 2))).toNatClampNeg (nI 0))) = M399
                  have hq401 := RdD_fr (fr_1I hM400) (by decide) hq386
                  have hk402 := fI_ne hM400 (by decide) hk388
                  have hk403 := fJ_oI hM400 hk389
                  have hk404 := fI_ne hM400 (by decide) hk390
                  have hk405 := fJ_oI hM400 hk391
                  have hk406 := fI_ne hM400 (by decide) hk392
                  have hk407 := fI_ne hM400 (by decide) hk393
                  have hk408 := fI_ne hM400 (by decide) hk394
                  have hk409 := fI_upx hM400 hk395 (cl1 rfl (by omega))
                  have hk410 := fI_ne hM400 (by decide) hk396
                  have hk411 := fI_ne hM400 (by decide) hk397
                  have hF412 := fr_sI hF398 hM400 (by decide)
                  show Wn _ 234 _ (159, [(2, .int (nI (δ 2))), (1, .ref 16), (0, .ref 78)], [], M399)
                  refine Wn.run (tab := tb_tl_readPerson) rfl 5 (c' := (166, [(2, .int (nI (δ 2))), (1, .ref 16), (0, .ref 78)], [], (mI M399 16 (upd (M399.1 16) 2 ((nI (δ 2)) + (nI 1)))))) (o := [shp 16 = (0, 2)]) rfl rfl ?_
                  rw [show ((nI (δ 2)) + (nI 1)) = (nI ((δ 2) + 1)) from (n_add rfl rfl)]
                  generalize hM414 : (mI M399 16 (upd (M399.1 16) 2 (nI ((δ 2) + 1)))) = M413
                  have hq415 := RdD_fr (fr_1I hM414) (by decide) hq401
                  have hk416 := fI_ne hM414 (by decide) hk402
                  have hk417 := fJ_oI hM414 hk403
                  have hk418 := fI_up hM414 hk404
                  have hk419 := fJ_oI hM414 hk405
                  have hk420 := fI_ne hM414 (by decide) hk406
                  have hk421 := fI_ne hM414 (by decide) hk407
                  have hk422 := fI_ne hM414 (by decide) hk408
                  have hk423 := fI_ne hM414 (by decide) hk409
                  have hk424 := fI_ne hM414 (by decide) hk410
                  have hk425 := fI_ne hM414 (by decide) hk411
                  have hF426 := fr_sI hF412 hM414 (by decide)
                  show Wn _ 234 _ (166, [(2, .int (nI (δ 2))), (1, .ref 16), (0, .ref 78)], [], M413)
                  have e9 : rdPe T L mo p δ ν o ic = .inl f4 := by unfold rdPe; rw [if_neg (show ¬ δ 2 = 6 by omega), if_neg (fun q9 => q9 hk3)]; simp only [hpc, hc1, hc2, hc3]; rw [if_neg (by omega)]; simp only [hc4]
                  rw [e9]
                  exact Wn.vret rfl ⟨rfl, hF426, hq415⟩
                | inr v4 =>
                  obtain ⟨x4, p4⟩ := v4
                  have bd4 : 0 ≤ x4 ∧ x4 ≤ 8 := by obtain ⟨q1, q2, q3⟩ := tkN_inr hc4; cases q3; exact q2
                  refine Wn.callV (p := 77) (n := 3) (ix := 99) (ci := (3)) (PLv M371 T L mo p4 (tAt T L mo p3) (some (.int (nI x4)))) [.int (nI 0), .int (nI 8)] [.int (nI (δ 2)), .ref 22] rfl rfl rfl rfl (Nat.le_of_ble_eq_true rfl) (Nat.le_of_ble_eq_true rfl) (c_rd_takeV _ M371 T L mo p3 (tAt T L mo p2) hq373 0 8 (by omega) (by omega) (x4, p4) hc4) ?_
                  rintro _ M427 ⟨rfl, hq428, hF429⟩
                  show Wn _ 234 _ (158, [(2, .int (nI (δ 2))), (1, .ref 16), (0, .ref 78)], [.int (nI x4), .int (nI (δ 2)), .ref 22], M427)
                  have hk430 := frI_fun hF429 (by decide) hk374
                  have hk431 := frJ_fun hF429 (by decide) hk375
                  have hk432 := frI_fun hF429 (by decide) hk376
                  have hk433 := frJ_fun hF429 (by decide) hk377
                  have hk434 := frI_fun hF429 (by decide) hk378
                  have hk435 := frI_fun hF429 (by decide) hk379
                  have hk436 := frI_fun hF429 (by decide) hk380
                  have hk437 := frI_fun hF429 (by decide) hk381
                  have hk438 := frI_fun hF429 (by decide) hk382
                  have hk439 := frI_fun hF429 (by decide) hk383
                  have hF440 := fr_tr hF384 hF429 (by decide)
                  refine Wn.run (tab := tb_tl_readPerson) rfl 1 (c' := (159, [(2, .int (nI (δ 2))), (1, .ref 16), (0, .ref 78)], [], (mI M427 22 (upd (M427.1 22) ((nI (δ 2))).toNatClampNeg (nI x4))))) (o := [aok shp 22 0 (nI (δ 2))]) rfl (ak1 (n := 6) rfl rfl rfl (by omega)) ?_
                  generalize hM442 : (mI M427 22 (upd (M427.1 22) ((nI (δ 2))).toNatClampNeg (nI x4))) = M441
                  have hq443 := RdL_fr (fr_1I hM442) (by decide) hq428
                  have hk444 := fI_ne hM442 (by decide) hk430
                  have hk445 := fJ_oI hM442 hk431
                  have hk446 := fI_ne hM442 (by decide) hk432
                  have hk447 := fJ_oI hM442 hk433
                  have hk448 := fI_ne hM442 (by decide) hk434
                  have hk449 := fI_ne hM442 (by decide) hk435
                  have hk450 := fI_ne hM442 (by decide) hk436
                  have hk451 := fI_upx hM442 hk437 (cl1 rfl (by omega))
                  have hk452 := fI_ne hM442 (by decide) hk438
                  have hk453 := fI_ne hM442 (by decide) hk439
                  have hF454 := fr_sI hF440 hM442 (by decide)
                  show Wn _ 234 _ (159, [(2, .int (nI (δ 2))), (1, .ref 16), (0, .ref 78)], [], M441)
                  refine Wn.run (tab := tb_tl_readPerson) rfl 5 (c' := (166, [(2, .int (nI (δ 2))), (1, .ref 16), (0, .ref 78)], [], (mI M441 16 (upd (M441.1 16) 2 ((nI (δ 2)) + (nI 1)))))) (o := [shp 16 = (0, 2)]) rfl rfl ?_
                  rw [show ((nI (δ 2)) + (nI 1)) = (nI ((δ 2) + 1)) from (n_add rfl rfl)]
                  generalize hM456 : (mI M441 16 (upd (M441.1 16) 2 (nI ((δ 2) + 1)))) = M455
                  have hq457 := RdL_fr (fr_1I hM456) (by decide) hq443
                  have hk458 := fI_ne hM456 (by decide) hk444
                  have hk459 := fJ_oI hM456 hk445
                  have hk460 := fI_up hM456 hk446
                  have hk461 := fJ_oI hM456 hk447
                  have hk462 := fI_ne hM456 (by decide) hk448
                  have hk463 := fI_ne hM456 (by decide) hk449
                  have hk464 := fI_ne hM456 (by decide) hk450
                  have hk465 := fI_ne hM456 (by decide) hk451
                  have hk466 := fI_ne hM456 (by decide) hk452
                  have hk467 := fI_ne hM456 (by decide) hk453
                  have hF468 := fr_sI hF454 hM456 (by decide)
                  show Wn _ 234 _ (166, [(2, .int (nI (δ 2))), (1, .ref 16), (0, .ref 78)], [], M455)
                  have e9 : rdPe T L mo p δ ν o ic = .inr (p4, su (su (su (su δ (72 + δ 2) (8 * x2 + x1)) (78 + δ 2) x3) (84 + δ 2) x4) 2 (δ 2 + 1), vp_updL ν (δ 2) (tNm T L (tNx T L p)), o, ic) := by unfold rdPe; rw [if_neg (show ¬ δ 2 = 6 by omega), if_neg (fun q9 => q9 hk3)]; simp only [hpc, hc1, hc2, hc3]; rw [if_neg (by omega)]; simp only [hc4]
                  rw [e9]
                  refine Wn.vret rfl ⟨rfl, hF468, ⟨_, hq457⟩, ?_, ?_⟩
                  · unfold CD; rw [hk460, hk461, hk462, hk463, hk464, hk465, hk466, hk467]; exact CD_pe hd (by omega)
                  · unfold CF; rw [hk458, hk459]; exact CF_pe hf (show 0 < δ 2 + 1 by omega)
              · show Wn _ 234 _ (129, [(2, .int (nI (δ 2))), (1, .ref 16), (0, .ref 78)], [], M371)
                have h5 := mt (n_le rfl ((fr_rdx hk379 ((fr_rdx hk380 rfl (by omega)).trans pk_us) (by omega)).trans (hd.2.2.2.1 (8 * x2 + x1) (by omega) ⟨by omega, by omega⟩)) (by omega) (by omega)).mpr h5
                refine Wn.run (tab := tb_tl_readPerson) rfl 3 (c' := (134, [(2, .int (nI (δ 2))), (1, .ref 16), (0, .ref 78)], [.int (nI 3), .ref 77], M371)) (o := [shp 78 = (0, 6)]) rfl rfl ?_
                refine Wn.callV (p := 77) (n := 2) (ix := 155) (ci := (3)) (PFl M371 3 (tAt T L mo p2) none) [.int (nI 3)] [] rfl rfl rfl rfl (Nat.le_of_ble_eq_true rfl) (Nat.le_of_ble_eq_true rfl) (c_rd_failTaken _ M371 T L mo p3 (tAt T L mo p2) hq373.1 3 (by omega)) ?_
                rintro _ M469 ⟨rfl, hd470, hF471⟩
                show Wn _ 234 _ (137, [(2, .int (nI (δ 2))), (1, .ref 16), (0, .ref 78)], [], M469)
                have hk472 := frI_fun hF471 (by decide) hk374
                have hk473 := frJ_fun hF471 (by decide) hk375
                have hk474 := frI_fun hF471 (by decide) hk376
                have hk475 := frJ_fun hF471 (by decide) hk377
                have hk476 := frI_fun hF471 (by decide) hk378
                have hk477 := frI_fun hF471 (by decide) hk379
                have hk478 := frI_fun hF471 (by decide) hk380
                have hk479 := frI_fun hF471 (by decide) hk381
                have hk480 := frI_fun hF471 (by decide) hk382
                have hk481 := frI_fun hF471 (by decide) hk383
                have hF482 := fr_tr hF384 hF471 (by decide)
                refine Wn.run (tab := tb_tl_readPerson) rfl 9 (c' := (155, [(2, .int (nI (δ 2))), (1, .ref 16), (0, .ref 78)], [.int (nI 8), .int (nI 0), .ref 77, .int (nI (δ 2)), .ref 22], M469)) (o := [shp 78 = (0, 6), shp 15 = (0, 8), shp 19 = (0, 5), shp 78 = (0, 6)]) rfl ⟨rfl, rfl, rfl, rfl⟩ ?_
                refine Wn.callV (p := 77) (n := 3) (ix := 99) (ci := (3)) (fun r0 M9 => r0 = some (.int (nI 0)) ∧ M9 = M469) [.int (nI 0), .int (nI 8)] [.int (nI (δ 2)), .ref 22] rfl rfl rfl rfl (Nat.le_of_ble_eq_true rfl) (Nat.le_of_ble_eq_true rfl) (c_rd_takeNumberD _ M469 3 (tAt T L mo p2) hd470 (nI 0) (nI 8)) ?_
                rintro _ M9 ⟨rfl, hsm⟩
                obtain rfl := hsm.symm
                show Wn _ 234 _ (158, [(2, .int (nI (δ 2))), (1, .ref 16), (0, .ref 78)], [.int (nI 0), .int (nI (δ 2)), .ref 22], M469)
                refine Wn.run (tab := tb_tl_readPerson) rfl 1 (c' := (159, [(2, .int (nI (δ 2))), (1, .ref 16), (0, .ref 78)], [], (mI M469 22 (upd (M469.1 22) ((nI (δ 2))).toNatClampNeg (nI 0))))) (o := [aok shp 22 0 (nI (δ 2))]) rfl (ak1 (n := 6) rfl rfl rfl (by omega)) ?_
                generalize hM484 : (mI M469 22 (upd (M469.1 22) ((nI (δ 2))).toNatClampNeg (nI 0))) = M483
                have hq485 := RdD_fr (fr_1I hM484) (by decide) hd470
                have hk486 := fI_ne hM484 (by decide) hk472
                have hk487 := fJ_oI hM484 hk473
                have hk488 := fI_ne hM484 (by decide) hk474
                have hk489 := fJ_oI hM484 hk475
                have hk490 := fI_ne hM484 (by decide) hk476
                have hk491 := fI_ne hM484 (by decide) hk477
                have hk492 := fI_ne hM484 (by decide) hk478
                have hk493 := fI_upx hM484 hk479 (cl1 rfl (by omega))
                have hk494 := fI_ne hM484 (by decide) hk480
                have hk495 := fI_ne hM484 (by decide) hk481
                have hF496 := fr_sI hF482 hM484 (by decide)
                show Wn _ 234 _ (159, [(2, .int (nI (δ 2))), (1, .ref 16), (0, .ref 78)], [], M483)
                refine Wn.run (tab := tb_tl_readPerson) rfl 5 (c' := (166, [(2, .int (nI (δ 2))), (1, .ref 16), (0, .ref 78)], [], (mI M483 16 (upd (M483.1 16) 2 ((nI (δ 2)) + (nI 1)))))) (o := [shp 16 = (0, 2)]) rfl rfl ?_
                rw [show ((nI (δ 2)) + (nI 1)) = (nI ((δ 2) + 1)) from (n_add rfl rfl)]
                generalize hM498 : (mI M483 16 (upd (M483.1 16) 2 (nI ((δ 2) + 1)))) = M497
                have hq499 := RdD_fr (fr_1I hM498) (by decide) hq485
                have hk500 := fI_ne hM498 (by decide) hk486
                have hk501 := fJ_oI hM498 hk487
                have hk502 := fI_up hM498 hk488
                have hk503 := fJ_oI hM498 hk489
                have hk504 := fI_ne hM498 (by decide) hk490
                have hk505 := fI_ne hM498 (by decide) hk491
                have hk506 := fI_ne hM498 (by decide) hk492
                have hk507 := fI_ne hM498 (by decide) hk493
                have hk508 := fI_ne hM498 (by decide) hk494
                have hk509 := fI_ne hM498 (by decide) hk495
                have hF510 := fr_sI hF496 hM498 (by decide)
                show Wn _ 234 _ (166, [(2, .int (nI (δ 2))), (1, .ref 16), (0, .ref 78)], [], M497)
                have e9 : rdPe T L mo p δ ν o ic = .inl (3, tAt T L mo p2) := by unfold rdPe; rw [if_neg (show ¬ δ 2 = 6 by omega), if_neg (fun q9 => q9 hk3)]; simp only [hpc, hc1, hc2, hc3]; rw [if_pos (by omega)]
                rw [e9]
                exact Wn.vret rfl ⟨rfl, hF510, hq499⟩
      | some q9 =>
        have q6 : q9 < 6 := by have t9 := til_lt _ _ _ hpc; omega
        refine Wn.callV (p := 77) (n := 2) (ix := 162) (ci := (3)) (PFl M1 3 (tAt T L mo (tNx T L p)) (some (.long 0))) [.ref 16] [.int (nI (δ 2)), .ref 17] rfl rfl rfl rfl (Nat.le_of_ble_eq_true rfl) (Nat.le_of_ble_eq_true rfl) (c_rd_takeNewName_no3 _ M1 T L mo (tNx T L p) (tAt T L mo p) hq2 16 δ (show LkC M1 16 δ from ⟨rfl, rfl, rfl, (by rw [hk6]; exact hd.1), (by rw [hk8]; exact hd.2.2.1)⟩) b2_9 ν (show NmC M1 16 ν (δ 2) from (by unfold NmC; rw [hk7]; exact hd.2.1)) (by decide) hk3 q9 q6 hpc) ?_
        rintro _ M513 ⟨rfl, hq511, hF512⟩
        show Wn _ 234 _ (48, [(2, .int (nI (δ 2))), (1, .ref 16), (0, .ref 78)], [.long (0 : Int64), .int (nI (δ 2)), .ref 17], M513)
        have hk514 := frI_fun hF512 (by decide) hk4
        have hk515 := frJ_fun hF512 (by decide) hk5
        have hk516 := frI_fun hF512 (by decide) hk6
        have hk517 := frJ_fun hF512 (by decide) hk7
        have hk518 := frI_fun hF512 (by decide) hk8
        have hk519 := frI_fun hF512 (by decide) hk9
        have hk520 := frI_fun hF512 (by decide) hk10
        have hk521 := frI_fun hF512 (by decide) hk11
        have hk522 := frI_fun hF512 (by decide) hk12
        have hk523 := frI_fun hF512 (by decide) hk13
        have hF524 := fr_tr hF14 hF512 (by decide)
        refine Wn.run (tab := tb_tl_readPerson) rfl 1 (c' := (49, [(2, .int (nI (δ 2))), (1, .ref 16), (0, .ref 78)], [], (mJ M513 17 (vp_updL (M513.2.1 17) ((nI (δ 2))).toNatClampNeg (0 : Int64))))) (o := [aok shp 17 3 (nI (δ 2))]) rfl (ak1 (n := 6) rfl rfl rfl (by omega)) ?_
        generalize hM526 : (mJ M513 17 (vp_updL (M513.2.1 17) ((nI (δ 2))).toNatClampNeg (0 : Int64))) = M525
        have hq527 := RdD_fr (fr_1J hM526) (by decide) hq511
        have hk528 := fI_oJ hM526 hk514
        have hk529 := fJ_ne hM526 (by decide) hk515
        have hk530 := fI_oJ hM526 hk516
        have hk531 := fJ_upx hM526 hk517 (cl1 rfl (by omega))
        have hk532 := fI_oJ hM526 hk518
        have hk533 := fI_oJ hM526 hk519
        have hk534 := fI_oJ hM526 hk520
        have hk535 := fI_oJ hM526 hk521
        have hk536 := fI_oJ hM526 hk522
        have hk537 := fI_oJ hM526 hk523
        have hF538 := fr_sJ hF524 hM526 (by decide)
        show Wn _ 234 _ (49, [(2, .int (nI (δ 2))), (1, .ref 16), (0, .ref 78)], [], M525)
        refine Wn.run (tab := tb_tl_readPerson) rfl 6 (c' := (61, [(2, .int (nI (δ 2))), (1, .ref 16), (0, .ref 78)], [.ref 78, .int (nI (δ 2)), .ref 21], M525)) (o := [shp 78 = (0, 6), shp 15 = (0, 8), shp 19 = (0, 5)]) rfl ⟨rfl, rfl, rfl⟩ ?_
        refine Wn.callV (p := 78) (n := 1) (ix := 152) (ci := (6)) (PCe M525 g 0 (fun M9 => RdD M9 3 (tAt T L mo (tNx T L p)))) [] [.int (nI (δ 2)), .ref 21] rfl rfl rfl rfl (Nat.le_of_ble_eq_true rfl) (Nat.le_of_ble_eq_true rfl) (c_tl_takeCell_D _ M525 g gl hk528 hk530 (δ 0) (δ 1) (show gl 0 = (nI (δ 0)) from (hd.1 0 (by decide))) (show gl 1 = (nI (δ 1)) from (hd.1 1 (by decide))) b0 b1 3 (tAt T L mo (tNx T L p)) hq527) ?_
        rintro _ M543 ⟨rfl, hK539, hg540, hj541, hF542⟩
        show Wn _ 234 _ (64, [(2, .int (nI (δ 2))), (1, .ref 16), (0, .ref 78)], [.int (nI 0), .int (nI (δ 2)), .ref 21], M543)
        have hq544 : RdD M543 3 (tAt T L mo (tNx T L p)) := hK539
        have hj545 := hj541.trans hk529
        have hk546 := frI_fun hF542 (by decide) hk530
        have hk547 := frJ_fun hF542 (by decide) hk531
        have hk548 := frI_fun hF542 (by decide) hk532
        have hk549 := frI_fun hF542 (by decide) hk533
        have hk550 := frI_fun hF542 (by decide) hk534
        have hk551 := frI_fun hF542 (by decide) hk535
        have hk552 := frI_fun hF542 (by decide) hk536
        have hk553 := frI_fun hF542 (by decide) hk537
        have hF554 := fr_tr hF538 hF542 (by decide)
        refine Wn.run (tab := tb_tl_readPerson) rfl 1 (c' := (65, [(2, .int (nI (δ 2))), (1, .ref 16), (0, .ref 78)], [], (mI M543 21 (upd (M543.1 21) ((nI (δ 2))).toNatClampNeg (nI 0))))) (o := [aok shp 21 0 (nI (δ 2))]) rfl (ak1 (n := 6) rfl rfl rfl (by omega)) ?_
        generalize hM556 : (mI M543 21 (upd (M543.1 21) ((nI (δ 2))).toNatClampNeg (nI 0))) = M555
        have hq557 := RdD_fr (fr_1I hM556) (by decide) hq544
        have hk558 := fI_ne hM556 (by decide) hg540
        have hk559 := fJ_oI hM556 hj545
        have hk560 := fI_ne hM556 (by decide) hk546
        have hk561 := fJ_oI hM556 hk547
        have hk562 := fI_ne hM556 (by decide) hk548
        have hk563 := fI_ne hM556 (by decide) hk549
        have hk564 := fI_upx hM556 hk550 (cl1 rfl (by omega))
        have hk565 := fI_ne hM556 (by decide) hk551
        have hk566 := fI_ne hM556 (by decide) hk552
        have hk567 := fI_ne hM556 (by decide) hk553
        have hF568 := fr_sI hF554 hM556 (by decide)
        show Wn _ 234 _ (65, [(2, .int (nI (δ 2))), (1, .ref 16), (0, .ref 78)], [], M555)
        refine Wn.run (tab := tb_tl_readPerson) rfl 7 (c' := (76, [(2, .int (nI (δ 2))), (1, .ref 16), (0, .ref 78)], [.int (nI 5), .int (nI 1), .ref 77, .int (nI (δ 2)), .ref 18], M555)) (o := [shp 16 = (0, 2), shp 78 = (0, 6)]) rfl ⟨rfl, rfl⟩ ?_
        refine Wn.callV (p := 77) (n := 3) (ix := 99) (ci := (3)) (fun r0 M9 => r0 = some (.int (nI 1)) ∧ M9 = M555) [.int (nI 1), .int (nI 5)] [.int (nI (δ 2)), .ref 18] rfl rfl rfl rfl (Nat.le_of_ble_eq_true rfl) (Nat.le_of_ble_eq_true rfl) (c_rd_takeNumberD _ M555 3 (tAt T L mo (tNx T L p)) hq557 (nI 1) (nI 5)) ?_
        rintro _ M9 ⟨rfl, hsm⟩
        obtain rfl := hsm.symm
        show Wn _ 234 _ (79, [(2, .int (nI (δ 2))), (1, .ref 16), (0, .ref 78)], [.int (nI 1), .int (nI (δ 2)), .ref 18], M555)
        refine Wn.run (tab := tb_tl_readPerson) rfl 1 (c' := (80, [(2, .int (nI (δ 2))), (1, .ref 16), (0, .ref 78)], [], (mI M555 18 (upd (M555.1 18) ((nI (δ 2))).toNatClampNeg (nI 1))))) (o := [aok shp 18 0 (nI (δ 2))]) rfl (ak1 (n := 6) rfl rfl rfl (by omega)) ?_
        generalize hM570 : (mI M555 18 (upd (M555.1 18) ((nI (δ 2))).toNatClampNeg (nI 1))) = M569
        have hq571 := RdD_fr (fr_1I hM570) (by decide) hq557
        have hk572 := fI_ne hM570 (by decide) hk558
        have hk573 := fJ_oI hM570 hk559
        have hk574 := fI_ne hM570 (by decide) hk560
        have hk575 := fJ_oI hM570 hk561
        have hk576 := fI_upx hM570 hk562 (cl1 rfl (by omega))
        have hk577 := fI_ne hM570 (by decide) hk563
        have hk578 := fI_ne hM570 (by decide) hk564
        have hk579 := fI_ne hM570 (by decide) hk565
        have hk580 := fI_ne hM570 (by decide) hk566
        have hk581 := fI_ne hM570 (by decide) hk567
        have hF582 := fr_sI hF568 hM570 (by decide)
        show Wn _ 234 _ (80, [(2, .int (nI (δ 2))), (1, .ref 16), (0, .ref 78)], [], M569)
        refine Wn.run (tab := tb_tl_readPerson) rfl 10 (c' := (100, [(2, .int (nI (δ 2))), (1, .ref 16), (0, .ref 78)], [.int (M569.1 21 ((nI (δ 2))).toNatClampNeg), .int (nI (δ 2)), .ref 19], M569)) (o := [shp 78 = (0, 6), shp 15 = (0, 8), shp 78 = (0, 6), shp 15 = (0, 8), shp 19 = (0, 5), aok shp 21 0 (nI (δ 2))]) rfl ⟨rfl, rfl, rfl, rfl, rfl, (ak1 (n := 6) rfl rfl rfl (by omega))⟩ ?_
        rw [show (M569.1 21 ((nI (δ 2))).toNatClampNeg) = (nI 0) from ((fr_rdx hk578 rfl (by omega)).trans pk_us)]
        have dl9 := dlN_le hδ.1.2.2.2.1 0 (δ 2) (Nat.le_refl _)
        have bc9 := bc 0 (by omega)
        refine Wn.callV (p := 19) (n := 3) (ix := 172) (ci := (5)) (fun r0 M0 => r0 = some (.int (nI (dlN δ 0 (δ 2) + 1))) ∧ M569 = M0) [.int (nI (δ 2)), .int (nI 0)] [] rfl rfl rfl rfl (Nat.le_of_ble_eq_true rfl) (Nat.le_of_ble_eq_true rfl) (w_st_loadWith19 _ M569 δ ν (by unfold CD; rw [hk574, hk575, hk576, hk577, hk578, hk579, hk580, hk581]; exact CD_x hd) hδ 0 1 (by omega) (by rw [hk576]; exact pk_us) (by omega) _ ⟨rfl, rfl⟩) ?_
        rintro _ _ ⟨rfl, rfl⟩
        show Wn _ 234 _ (103, [(2, .int (nI (δ 2))), (1, .ref 16), (0, .ref 78)], [.int (nI (dlN δ 0 (δ 2) + 1))], M569)
        refine Wn.run (tab := tb_tl_readPerson) rfl 12 (c' := (if (nI (dlN δ 0 (δ 2) + 1)) ≤ (M569.1 20 ((M569.1 21 ((nI (δ 2))).toNatClampNeg)).toNatClampNeg) then 137 else 129, [(2, .int (nI (δ 2))), (1, .ref 16), (0, .ref 78)], [], M569)) (o := [shp 78 = (0, 6), shp 15 = (0, 8), shp 19 = (0, 5), shp 78 = (0, 6), shp 15 = (0, 8), shp 19 = (0, 5), aok shp 21 0 (nI (δ 2)), aok shp 20 0 (M569.1 21 ((nI (δ 2))).toNatClampNeg)]) rfl ⟨rfl, rfl, rfl, rfl, rfl, rfl, (ak1 (n := 6) rfl rfl rfl (by omega)), (ak1 (n := 64) rfl rfl ((fr_rdx hk578 rfl (by omega)).trans pk_us) (by omega))⟩ ?_
        refine Wn.br (fun h6 => ?_) (fun h6 => ?_)
        · show Wn _ 234 _ (137, [(2, .int (nI (δ 2))), (1, .ref 16), (0, .ref 78)], [], M569)
          rw [show (M569.1 20 ((M569.1 21 ((nI (δ 2))).toNatClampNeg)).toNatClampNeg) = (ice 0) from (fr_rdx hk577 ((fr_rdx hk578 rfl (by omega)).trans pk_us) (by omega))] at h6
          refine Wn.run (tab := tb_tl_readPerson) rfl 9 (c' := (155, [(2, .int (nI (δ 2))), (1, .ref 16), (0, .ref 78)], [.int (nI 8), .int (nI 0), .ref 77, .int (nI (δ 2)), .ref 22], M569)) (o := [shp 78 = (0, 6), shp 15 = (0, 8), shp 19 = (0, 5), shp 78 = (0, 6)]) rfl ⟨rfl, rfl, rfl, rfl⟩ ?_
          refine Wn.callV (p := 77) (n := 3) (ix := 99) (ci := (3)) (fun r0 M9 => r0 = some (.int (nI 0)) ∧ M9 = M569) [.int (nI 0), .int (nI 8)] [.int (nI (δ 2)), .ref 22] rfl rfl rfl rfl (Nat.le_of_ble_eq_true rfl) (Nat.le_of_ble_eq_true rfl) (c_rd_takeNumberD _ M569 3 (tAt T L mo (tNx T L p)) hq571 (nI 0) (nI 8)) ?_
          rintro _ M9 ⟨rfl, hsm⟩
          obtain rfl := hsm.symm
          show Wn _ 234 _ (158, [(2, .int (nI (δ 2))), (1, .ref 16), (0, .ref 78)], [.int (nI 0), .int (nI (δ 2)), .ref 22], M569)
          refine Wn.run (tab := tb_tl_readPerson) rfl 1 (c' := (159, [(2, .int (nI (δ 2))), (1, .ref 16), (0, .ref 78)], [], (mI M569 22 (upd (M569.1 22) ((nI (δ 2))).toNatClampNeg (nI 0))))) (o := [aok shp 22 0 (nI (δ 2))]) rfl (ak1 (n := 6) rfl rfl rfl (by omega)) ?_
          generalize hM584 : (mI M569 22 (upd (M569.1 22) ((nI (δ 2))).toNatClampNeg (nI 0))) = M583
          have hq585 := RdD_fr (fr_1I hM584) (by decide) hq571
          have hk586 := fI_ne hM584 (by decide) hk572
          have hk587 := fJ_oI hM584 hk573
          have hk588 := fI_ne hM584 (by decide) hk574
          have hk589 := fJ_oI hM584 hk575
          have hk590 := fI_ne hM584 (by decide) hk576
          have hk591 := fI_ne hM584 (by decide) hk577
          have hk592 := fI_ne hM584 (by decide) hk578
          have hk593 := fI_upx hM584 hk579 (cl1 rfl (by omega))
          have hk594 := fI_ne hM584 (by decide) hk580
          have hk595 := fI_ne hM584 (by decide) hk581
          have hF596 := fr_sI hF582 hM584 (by decide)
          show Wn _ 234 _ (159, [(2, .int (nI (δ 2))), (1, .ref 16), (0, .ref 78)], [], M583)
          refine Wn.run (tab := tb_tl_readPerson) rfl 5 (c' := (166, [(2, .int (nI (δ 2))), (1, .ref 16), (0, .ref 78)], [], (mI M583 16 (upd (M583.1 16) 2 ((nI (δ 2)) + (nI 1)))))) (o := [shp 16 = (0, 2)]) rfl rfl ?_
          rw [show ((nI (δ 2)) + (nI 1)) = (nI ((δ 2) + 1)) from (n_add rfl rfl)]
          generalize hM598 : (mI M583 16 (upd (M583.1 16) 2 (nI ((δ 2) + 1)))) = M597
          have hq599 := RdD_fr (fr_1I hM598) (by decide) hq585
          have hk600 := fI_ne hM598 (by decide) hk586
          have hk601 := fJ_oI hM598 hk587
          have hk602 := fI_up hM598 hk588
          have hk603 := fJ_oI hM598 hk589
          have hk604 := fI_ne hM598 (by decide) hk590
          have hk605 := fI_ne hM598 (by decide) hk591
          have hk606 := fI_ne hM598 (by decide) hk592
          have hk607 := fI_ne hM598 (by decide) hk593
          have hk608 := fI_ne hM598 (by decide) hk594
          have hk609 := fI_ne hM598 (by decide) hk595
          have hF610 := fr_sI hF596 hM598 (by decide)
          show Wn _ 234 _ (166, [(2, .int (nI (δ 2))), (1, .ref 16), (0, .ref 78)], [], M597)
          have e9 : rdPe T L mo p δ ν o ic = .inl (3, tAt T L mo (tNx T L p)) := by unfold rdPe; rw [if_neg (show ¬ δ 2 = 6 by omega), if_neg (fun q9 => q9 hk3)]; simp only [hpc]
          rw [e9]
          exact Wn.vret rfl ⟨rfl, hF610, hq599⟩
        · show Wn _ 234 _ (129, [(2, .int (nI (δ 2))), (1, .ref 16), (0, .ref 78)], [], M569)
          rw [show (M569.1 20 ((M569.1 21 ((nI (δ 2))).toNatClampNeg)).toNatClampNeg) = (ice 0) from (fr_rdx hk577 ((fr_rdx hk578 rfl (by omega)).trans pk_us) (by omega))] at h6
          refine Wn.run (tab := tb_tl_readPerson) rfl 3 (c' := (134, [(2, .int (nI (δ 2))), (1, .ref 16), (0, .ref 78)], [.int (nI 3), .ref 77], M569)) (o := [shp 78 = (0, 6)]) rfl rfl ?_
          refine Wn.callV (p := 77) (n := 2) (ix := 155) (ci := (3)) (fun r0 M9 => r0 = none ∧ M9 = M569) [.int (nI 3)] [] rfl rfl rfl rfl (Nat.le_of_ble_eq_true rfl) (Nat.le_of_ble_eq_true rfl) (c_rd_failTakenD _ M569 3 (tAt T L mo (tNx T L p)) hq571 (nI 3)) ?_
          rintro _ M9 ⟨rfl, hsm⟩
          obtain rfl := hsm.symm
          show Wn _ 234 _ (137, [(2, .int (nI (δ 2))), (1, .ref 16), (0, .ref 78)], [], M569)
          refine Wn.run (tab := tb_tl_readPerson) rfl 9 (c' := (155, [(2, .int (nI (δ 2))), (1, .ref 16), (0, .ref 78)], [.int (nI 8), .int (nI 0), .ref 77, .int (nI (δ 2)), .ref 22], M569)) (o := [shp 78 = (0, 6), shp 15 = (0, 8), shp 19 = (0, 5), shp 78 = (0, 6)]) rfl ⟨rfl, rfl, rfl, rfl⟩ ?_
          refine Wn.callV (p := 77) (n := 3) (ix := 99) (ci := (3)) (fun r0 M9 => r0 = some (.int (nI 0)) ∧ M9 = M569) [.int (nI 0), .int (nI 8)] [.int (nI (δ 2)), .ref 22] rfl rfl rfl rfl (Nat.le_of_ble_eq_true rfl) (Nat.le_of_ble_eq_true rfl) (c_rd_takeNumberD _ M569 3 (tAt T L mo (tNx T L p)) hq571 (nI 0) (nI 8)) ?_
          rintro _ M9 ⟨rfl, hsm⟩
          obtain rfl := hsm.symm
          show Wn _ 234 _ (158, [(2, .int (nI (δ 2))), (1, .ref 16), (0, .ref 78)], [.int (nI 0), .int (nI (δ 2)), .ref 22], M569)
          refine Wn.run (tab := tb_tl_readPerson) rfl 1 (c' := (159, [(2, .int (nI (δ 2))), (1, .ref 16), (0, .ref 78)], [], (mI M569 22 (upd (M569.1 22) ((nI (δ 2))).toNatClampNeg (nI 0))))) (o := [aok shp 22 0 (nI (δ 2))]) rfl (ak1 (n := 6) rfl rfl rfl (by omega)) ?_
          generalize hM612 : (mI M569 22 (upd (M569.1 22) ((nI (δ 2))).toNatClampNeg (nI 0))) = M611
          have hq613 := RdD_fr (fr_1I hM612) (by decide) hq571
          have hk614 := fI_ne hM612 (by decide) hk572
          have hk615 := fJ_oI hM612 hk573
          have hk616 := fI_ne hM612 (by decide) hk574
          have hk617 := fJ_oI hM612 hk575
          have hk618 := fI_ne hM612 (by decide) hk576
          have hk619 := fI_ne hM612 (by decide) hk577
          have hk620 := fI_ne hM612 (by decide) hk578
          have hk621 := fI_upx hM612 hk579 (cl1 rfl (by omega))
          have hk622 := fI_ne hM612 (by decide) hk580
          have hk623 := fI_ne hM612 (by decide) hk581
          have hF624 := fr_sI hF582 hM612 (by decide)
          show Wn _ 234 _ (159, [(2, .int (nI (δ 2))), (1, .ref 16), (0, .ref 78)], [], M611)
          refine Wn.run (tab := tb_tl_readPerson) rfl 5 (c' := (166, [(2, .int (nI (δ 2))), (1, .ref 16), (0, .ref 78)], [], (mI M611 16 (upd (M611.1 16) 2 ((nI (δ 2)) + (nI 1)))))) (o := [shp 16 = (0, 2)]) rfl rfl ?_
          rw [show ((nI (δ 2)) + (nI 1)) = (nI ((δ 2) + 1)) from (n_add rfl rfl)]
          generalize hM626 : (mI M611 16 (upd (M611.1 16) 2 (nI ((δ 2) + 1)))) = M625
          have hq627 := RdD_fr (fr_1I hM626) (by decide) hq613
          have hk628 := fI_ne hM626 (by decide) hk614
          have hk629 := fJ_oI hM626 hk615
          have hk630 := fI_up hM626 hk616
          have hk631 := fJ_oI hM626 hk617
          have hk632 := fI_ne hM626 (by decide) hk618
          have hk633 := fI_ne hM626 (by decide) hk619
          have hk634 := fI_ne hM626 (by decide) hk620
          have hk635 := fI_ne hM626 (by decide) hk621
          have hk636 := fI_ne hM626 (by decide) hk622
          have hk637 := fI_ne hM626 (by decide) hk623
          have hF638 := fr_sI hF624 hM626 (by decide)
          show Wn _ 234 _ (166, [(2, .int (nI (δ 2))), (1, .ref 16), (0, .ref 78)], [], M625)
          have e9 : rdPe T L mo p δ ν o ic = .inl (3, tAt T L mo (tNx T L p)) := by unfold rdPe; rw [if_neg (show ¬ δ 2 = 6 by omega), if_neg (fun q9 => q9 hk3)]; simp only [hpc]
          rw [e9]
          exact Wn.vret rfl ⟨rfl, hF638, hq627⟩
    · refine Wn.callV (p := 77) (n := 2) (ix := 162) (ci := (3)) (PFl M1 1 (tAt T L mo (tNx T L p)) (some (.long 0))) [.ref 16] [.int (nI (δ 2)), .ref 17] rfl rfl rfl rfl (Nat.le_of_ble_eq_true rfl) (Nat.le_of_ble_eq_true rfl) (c_rd_takeNewName_no1 _ M1 T L mo (tNx T L p) (tAt T L mo p) hq2 16 δ (show LkC M1 16 δ from ⟨rfl, rfl, rfl, (by rw [hk6]; exact hd.1), (by rw [hk8]; exact hd.2.2.1)⟩) b2_9 ν (show NmC M1 16 ν (δ 2) from (by unfold NmC; rw [hk7]; exact hd.2.1)) (by decide) hk3) ?_
      rintro _ M641 ⟨rfl, hq639, hF640⟩
      show Wn _ 234 _ (48, [(2, .int (nI (δ 2))), (1, .ref 16), (0, .ref 78)], [.long (0 : Int64), .int (nI (δ 2)), .ref 17], M641)
      have hk642 := frI_fun hF640 (by decide) hk4
      have hk643 := frJ_fun hF640 (by decide) hk5
      have hk644 := frI_fun hF640 (by decide) hk6
      have hk645 := frJ_fun hF640 (by decide) hk7
      have hk646 := frI_fun hF640 (by decide) hk8
      have hk647 := frI_fun hF640 (by decide) hk9
      have hk648 := frI_fun hF640 (by decide) hk10
      have hk649 := frI_fun hF640 (by decide) hk11
      have hk650 := frI_fun hF640 (by decide) hk12
      have hk651 := frI_fun hF640 (by decide) hk13
      have hF652 := fr_tr hF14 hF640 (by decide)
      refine Wn.run (tab := tb_tl_readPerson) rfl 1 (c' := (49, [(2, .int (nI (δ 2))), (1, .ref 16), (0, .ref 78)], [], (mJ M641 17 (vp_updL (M641.2.1 17) ((nI (δ 2))).toNatClampNeg (0 : Int64))))) (o := [aok shp 17 3 (nI (δ 2))]) rfl (ak1 (n := 6) rfl rfl rfl (by omega)) ?_
      generalize hM654 : (mJ M641 17 (vp_updL (M641.2.1 17) ((nI (δ 2))).toNatClampNeg (0 : Int64))) = M653
      have hq655 := RdD_fr (fr_1J hM654) (by decide) hq639
      have hk656 := fI_oJ hM654 hk642
      have hk657 := fJ_ne hM654 (by decide) hk643
      have hk658 := fI_oJ hM654 hk644
      have hk659 := fJ_upx hM654 hk645 (cl1 rfl (by omega))
      have hk660 := fI_oJ hM654 hk646
      have hk661 := fI_oJ hM654 hk647
      have hk662 := fI_oJ hM654 hk648
      have hk663 := fI_oJ hM654 hk649
      have hk664 := fI_oJ hM654 hk650
      have hk665 := fI_oJ hM654 hk651
      have hF666 := fr_sJ hF652 hM654 (by decide)
      show Wn _ 234 _ (49, [(2, .int (nI (δ 2))), (1, .ref 16), (0, .ref 78)], [], M653)
      refine Wn.run (tab := tb_tl_readPerson) rfl 6 (c' := (61, [(2, .int (nI (δ 2))), (1, .ref 16), (0, .ref 78)], [.ref 78, .int (nI (δ 2)), .ref 21], M653)) (o := [shp 78 = (0, 6), shp 15 = (0, 8), shp 19 = (0, 5)]) rfl ⟨rfl, rfl, rfl⟩ ?_
      refine Wn.callV (p := 78) (n := 1) (ix := 152) (ci := (6)) (PCe M653 g 0 (fun M9 => RdD M9 1 (tAt T L mo (tNx T L p)))) [] [.int (nI (δ 2)), .ref 21] rfl rfl rfl rfl (Nat.le_of_ble_eq_true rfl) (Nat.le_of_ble_eq_true rfl) (c_tl_takeCell_D _ M653 g gl hk656 hk658 (δ 0) (δ 1) (show gl 0 = (nI (δ 0)) from (hd.1 0 (by decide))) (show gl 1 = (nI (δ 1)) from (hd.1 1 (by decide))) b0 b1 1 (tAt T L mo (tNx T L p)) hq655) ?_
      rintro _ M671 ⟨rfl, hK667, hg668, hj669, hF670⟩
      show Wn _ 234 _ (64, [(2, .int (nI (δ 2))), (1, .ref 16), (0, .ref 78)], [.int (nI 0), .int (nI (δ 2)), .ref 21], M671)
      have hq672 : RdD M671 1 (tAt T L mo (tNx T L p)) := hK667
      have hj673 := hj669.trans hk657
      have hk674 := frI_fun hF670 (by decide) hk658
      have hk675 := frJ_fun hF670 (by decide) hk659
      have hk676 := frI_fun hF670 (by decide) hk660
      have hk677 := frI_fun hF670 (by decide) hk661
      have hk678 := frI_fun hF670 (by decide) hk662
      have hk679 := frI_fun hF670 (by decide) hk663
      have hk680 := frI_fun hF670 (by decide) hk664
      have hk681 := frI_fun hF670 (by decide) hk665
      have hF682 := fr_tr hF666 hF670 (by decide)
      refine Wn.run (tab := tb_tl_readPerson) rfl 1 (c' := (65, [(2, .int (nI (δ 2))), (1, .ref 16), (0, .ref 78)], [], (mI M671 21 (upd (M671.1 21) ((nI (δ 2))).toNatClampNeg (nI 0))))) (o := [aok shp 21 0 (nI (δ 2))]) rfl (ak1 (n := 6) rfl rfl rfl (by omega)) ?_
      generalize hM684 : (mI M671 21 (upd (M671.1 21) ((nI (δ 2))).toNatClampNeg (nI 0))) = M683
      have hq685 := RdD_fr (fr_1I hM684) (by decide) hq672
      have hk686 := fI_ne hM684 (by decide) hg668
      have hk687 := fJ_oI hM684 hj673
      have hk688 := fI_ne hM684 (by decide) hk674
      have hk689 := fJ_oI hM684 hk675
      have hk690 := fI_ne hM684 (by decide) hk676
      have hk691 := fI_ne hM684 (by decide) hk677
      have hk692 := fI_upx hM684 hk678 (cl1 rfl (by omega))
      have hk693 := fI_ne hM684 (by decide) hk679
      have hk694 := fI_ne hM684 (by decide) hk680
      have hk695 := fI_ne hM684 (by decide) hk681
      have hF696 := fr_sI hF682 hM684 (by decide)
      show Wn _ 234 _ (65, [(2, .int (nI (δ 2))), (1, .ref 16), (0, .ref 78)], [], M683)
      refine Wn.run (tab := tb_tl_readPerson) rfl 7 (c' := (76, [(2, .int (nI (δ 2))), (1, .ref 16), (0, .ref 78)], [.int (nI 5), .int (nI 1), .ref 77, .int (nI (δ 2)), .ref 18], M683)) (o := [shp 16 = (0, 2), shp 78 = (0, 6)]) rfl ⟨rfl, rfl⟩ ?_
      refine Wn.callV (p := 77) (n := 3) (ix := 99) (ci := (3)) (fun r0 M9 => r0 = some (.int (nI 1)) ∧ M9 = M683) [.int (nI 1), .int (nI 5)] [.int (nI (δ 2)), .ref 18] rfl rfl rfl rfl (Nat.le_of_ble_eq_true rfl) (Nat.le_of_ble_eq_true rfl) (c_rd_takeNumberD _ M683 1 (tAt T L mo (tNx T L p)) hq685 (nI 1) (nI 5)) ?_
      rintro _ M9 ⟨rfl, hsm⟩
      obtain rfl := hsm.symm
      show Wn _ 234 _ (79, [(2, .int (nI (δ 2))), (1, .ref 16), (0, .ref 78)], [.int (nI 1), .int (nI (δ 2)), .ref 18], M683)
      refine Wn.run (tab := tb_tl_readPerson) rfl 1 (c' := (80, [(2, .int (nI (δ 2))), (1, .ref 16), (0, .ref 78)], [], (mI M683 18 (upd (M683.1 18) ((nI (δ 2))).toNatClampNeg (nI 1))))) (o := [aok shp 18 0 (nI (δ 2))]) rfl (ak1 (n := 6) rfl rfl rfl (by omega)) ?_
      generalize hM698 : (mI M683 18 (upd (M683.1 18) ((nI (δ 2))).toNatClampNeg (nI 1))) = M697
      have hq699 := RdD_fr (fr_1I hM698) (by decide) hq685
      have hk700 := fI_ne hM698 (by decide) hk686
      have hk701 := fJ_oI hM698 hk687
      have hk702 := fI_ne hM698 (by decide) hk688
      have hk703 := fJ_oI hM698 hk689
      have hk704 := fI_upx hM698 hk690 (cl1 rfl (by omega))
      have hk705 := fI_ne hM698 (by decide) hk691
      have hk706 := fI_ne hM698 (by decide) hk692
      have hk707 := fI_ne hM698 (by decide) hk693
      have hk708 := fI_ne hM698 (by decide) hk694
      have hk709 := fI_ne hM698 (by decide) hk695
      have hF710 := fr_sI hF696 hM698 (by decide)
      show Wn _ 234 _ (80, [(2, .int (nI (δ 2))), (1, .ref 16), (0, .ref 78)], [], M697)
      refine Wn.run (tab := tb_tl_readPerson) rfl 10 (c' := (100, [(2, .int (nI (δ 2))), (1, .ref 16), (0, .ref 78)], [.int (M697.1 21 ((nI (δ 2))).toNatClampNeg), .int (nI (δ 2)), .ref 19], M697)) (o := [shp 78 = (0, 6), shp 15 = (0, 8), shp 78 = (0, 6), shp 15 = (0, 8), shp 19 = (0, 5), aok shp 21 0 (nI (δ 2))]) rfl ⟨rfl, rfl, rfl, rfl, rfl, (ak1 (n := 6) rfl rfl rfl (by omega))⟩ ?_
      rw [show (M697.1 21 ((nI (δ 2))).toNatClampNeg) = (nI 0) from ((fr_rdx hk706 rfl (by omega)).trans pk_us)]
      have dl9 := dlN_le hδ.1.2.2.2.1 0 (δ 2) (Nat.le_refl _)
      have bc9 := bc 0 (by omega)
      refine Wn.callV (p := 19) (n := 3) (ix := 172) (ci := (5)) (fun r0 M0 => r0 = some (.int (nI (dlN δ 0 (δ 2) + 1))) ∧ M697 = M0) [.int (nI (δ 2)), .int (nI 0)] [] rfl rfl rfl rfl (Nat.le_of_ble_eq_true rfl) (Nat.le_of_ble_eq_true rfl) (w_st_loadWith19 _ M697 δ ν (by unfold CD; rw [hk702, hk703, hk704, hk705, hk706, hk707, hk708, hk709]; exact CD_x hd) hδ 0 1 (by omega) (by rw [hk704]; exact pk_us) (by omega) _ ⟨rfl, rfl⟩) ?_
      rintro _ _ ⟨rfl, rfl⟩
      show Wn _ 234 _ (103, [(2, .int (nI (δ 2))), (1, .ref 16), (0, .ref 78)], [.int (nI (dlN δ 0 (δ 2) + 1))], M697)
      refine Wn.run (tab := tb_tl_readPerson) rfl 12 (c' := (if (nI (dlN δ 0 (δ 2) + 1)) ≤ (M697.1 20 ((M697.1 21 ((nI (δ 2))).toNatClampNeg)).toNatClampNeg) then 137 else 129, [(2, .int (nI (δ 2))), (1, .ref 16), (0, .ref 78)], [], M697)) (o := [shp 78 = (0, 6), shp 15 = (0, 8), shp 19 = (0, 5), shp 78 = (0, 6), shp 15 = (0, 8), shp 19 = (0, 5), aok shp 21 0 (nI (δ 2)), aok shp 20 0 (M697.1 21 ((nI (δ 2))).toNatClampNeg)]) rfl ⟨rfl, rfl, rfl, rfl, rfl, rfl, (ak1 (n := 6) rfl rfl rfl (by omega)), (ak1 (n := 64) rfl rfl ((fr_rdx hk706 rfl (by omega)).trans pk_us) (by omega))⟩ ?_
      refine Wn.br (fun h7 => ?_) (fun h7 => ?_)
      · show Wn _ 234 _ (137, [(2, .int (nI (δ 2))), (1, .ref 16), (0, .ref 78)], [], M697)
        rw [show (M697.1 20 ((M697.1 21 ((nI (δ 2))).toNatClampNeg)).toNatClampNeg) = (ice 0) from (fr_rdx hk705 ((fr_rdx hk706 rfl (by omega)).trans pk_us) (by omega))] at h7
        refine Wn.run (tab := tb_tl_readPerson) rfl 9 (c' := (155, [(2, .int (nI (δ 2))), (1, .ref 16), (0, .ref 78)], [.int (nI 8), .int (nI 0), .ref 77, .int (nI (δ 2)), .ref 22], M697)) (o := [shp 78 = (0, 6), shp 15 = (0, 8), shp 19 = (0, 5), shp 78 = (0, 6)]) rfl ⟨rfl, rfl, rfl, rfl⟩ ?_
        refine Wn.callV (p := 77) (n := 3) (ix := 99) (ci := (3)) (fun r0 M9 => r0 = some (.int (nI 0)) ∧ M9 = M697) [.int (nI 0), .int (nI 8)] [.int (nI (δ 2)), .ref 22] rfl rfl rfl rfl (Nat.le_of_ble_eq_true rfl) (Nat.le_of_ble_eq_true rfl) (c_rd_takeNumberD _ M697 1 (tAt T L mo (tNx T L p)) hq699 (nI 0) (nI 8)) ?_
        rintro _ M9 ⟨rfl, hsm⟩
        obtain rfl := hsm.symm
        show Wn _ 234 _ (158, [(2, .int (nI (δ 2))), (1, .ref 16), (0, .ref 78)], [.int (nI 0), .int (nI (δ 2)), .ref 22], M697)
        refine Wn.run (tab := tb_tl_readPerson) rfl 1 (c' := (159, [(2, .int (nI (δ 2))), (1, .ref 16), (0, .ref 78)], [], (mI M697 22 (upd (M697.1 22) ((nI (δ 2))).toNatClampNeg (nI 0))))) (o := [aok shp 22 0 (nI (δ 2))]) rfl (ak1 (n := 6) rfl rfl rfl (by omega)) ?_
        generalize hM712 : (mI M697 22 (upd (M697.1 22) ((nI (δ 2))).toNatClampNeg (nI 0))) = M711
        have hq713 := RdD_fr (fr_1I hM712) (by decide) hq699
        have hk714 := fI_ne hM712 (by decide) hk700
        have hk715 := fJ_oI hM712 hk701
        have hk716 := fI_ne hM712 (by decide) hk702
        have hk717 := fJ_oI hM712 hk703
        have hk718 := fI_ne hM712 (by decide) hk704
        have hk719 := fI_ne hM712 (by decide) hk705
        have hk720 := fI_ne hM712 (by decide) hk706
        have hk721 := fI_upx hM712 hk707 (cl1 rfl (by omega))
        have hk722 := fI_ne hM712 (by decide) hk708
        have hk723 := fI_ne hM712 (by decide) hk709
        have hF724 := fr_sI hF710 hM712 (by decide)
        show Wn _ 234 _ (159, [(2, .int (nI (δ 2))), (1, .ref 16), (0, .ref 78)], [], M711)
        refine Wn.run (tab := tb_tl_readPerson) rfl 5 (c' := (166, [(2, .int (nI (δ 2))), (1, .ref 16), (0, .ref 78)], [], (mI M711 16 (upd (M711.1 16) 2 ((nI (δ 2)) + (nI 1)))))) (o := [shp 16 = (0, 2)]) rfl rfl ?_
        rw [show ((nI (δ 2)) + (nI 1)) = (nI ((δ 2) + 1)) from (n_add rfl rfl)]
        generalize hM726 : (mI M711 16 (upd (M711.1 16) 2 (nI ((δ 2) + 1)))) = M725
        have hq727 := RdD_fr (fr_1I hM726) (by decide) hq713
        have hk728 := fI_ne hM726 (by decide) hk714
        have hk729 := fJ_oI hM726 hk715
        have hk730 := fI_up hM726 hk716
        have hk731 := fJ_oI hM726 hk717
        have hk732 := fI_ne hM726 (by decide) hk718
        have hk733 := fI_ne hM726 (by decide) hk719
        have hk734 := fI_ne hM726 (by decide) hk720
        have hk735 := fI_ne hM726 (by decide) hk721
        have hk736 := fI_ne hM726 (by decide) hk722
        have hk737 := fI_ne hM726 (by decide) hk723
        have hF738 := fr_sI hF724 hM726 (by decide)
        show Wn _ 234 _ (166, [(2, .int (nI (δ 2))), (1, .ref 16), (0, .ref 78)], [], M725)
        have e9 : rdPe T L mo p δ ν o ic = .inl (1, tAt T L mo (tNx T L p)) := by unfold rdPe; rw [if_neg (show ¬ δ 2 = 6 by omega), if_pos hk3]
        rw [e9]
        exact Wn.vret rfl ⟨rfl, hF738, hq727⟩
      · show Wn _ 234 _ (129, [(2, .int (nI (δ 2))), (1, .ref 16), (0, .ref 78)], [], M697)
        rw [show (M697.1 20 ((M697.1 21 ((nI (δ 2))).toNatClampNeg)).toNatClampNeg) = (ice 0) from (fr_rdx hk705 ((fr_rdx hk706 rfl (by omega)).trans pk_us) (by omega))] at h7
        refine Wn.run (tab := tb_tl_readPerson) rfl 3 (c' := (134, [(2, .int (nI (δ 2))), (1, .ref 16), (0, .ref 78)], [.int (nI 3), .ref 77], M697)) (o := [shp 78 = (0, 6)]) rfl rfl ?_
        refine Wn.callV (p := 77) (n := 2) (ix := 155) (ci := (3)) (fun r0 M9 => r0 = none ∧ M9 = M697) [.int (nI 3)] [] rfl rfl rfl rfl (Nat.le_of_ble_eq_true rfl) (Nat.le_of_ble_eq_true rfl) (c_rd_failTakenD _ M697 1 (tAt T L mo (tNx T L p)) hq699 (nI 3)) ?_
        rintro _ M9 ⟨rfl, hsm⟩
        obtain rfl := hsm.symm
        show Wn _ 234 _ (137, [(2, .int (nI (δ 2))), (1, .ref 16), (0, .ref 78)], [], M697)
        refine Wn.run (tab := tb_tl_readPerson) rfl 9 (c' := (155, [(2, .int (nI (δ 2))), (1, .ref 16), (0, .ref 78)], [.int (nI 8), .int (nI 0), .ref 77, .int (nI (δ 2)), .ref 22], M697)) (o := [shp 78 = (0, 6), shp 15 = (0, 8), shp 19 = (0, 5), shp 78 = (0, 6)]) rfl ⟨rfl, rfl, rfl, rfl⟩ ?_
        refine Wn.callV (p := 77) (n := 3) (ix := 99) (ci := (3)) (fun r0 M9 => r0 = some (.int (nI 0)) ∧ M9 = M697) [.int (nI 0), .int (nI 8)] [.int (nI (δ 2)), .ref 22] rfl rfl rfl rfl (Nat.le_of_ble_eq_true rfl) (Nat.le_of_ble_eq_true rfl) (c_rd_takeNumberD _ M697 1 (tAt T L mo (tNx T L p)) hq699 (nI 0) (nI 8)) ?_
        rintro _ M9 ⟨rfl, hsm⟩
        obtain rfl := hsm.symm
        show Wn _ 234 _ (158, [(2, .int (nI (δ 2))), (1, .ref 16), (0, .ref 78)], [.int (nI 0), .int (nI (δ 2)), .ref 22], M697)
        refine Wn.run (tab := tb_tl_readPerson) rfl 1 (c' := (159, [(2, .int (nI (δ 2))), (1, .ref 16), (0, .ref 78)], [], (mI M697 22 (upd (M697.1 22) ((nI (δ 2))).toNatClampNeg (nI 0))))) (o := [aok shp 22 0 (nI (δ 2))]) rfl (ak1 (n := 6) rfl rfl rfl (by omega)) ?_
        generalize hM740 : (mI M697 22 (upd (M697.1 22) ((nI (δ 2))).toNatClampNeg (nI 0))) = M739
        have hq741 := RdD_fr (fr_1I hM740) (by decide) hq699
        have hk742 := fI_ne hM740 (by decide) hk700
        have hk743 := fJ_oI hM740 hk701
        have hk744 := fI_ne hM740 (by decide) hk702
        have hk745 := fJ_oI hM740 hk703
        have hk746 := fI_ne hM740 (by decide) hk704
        have hk747 := fI_ne hM740 (by decide) hk705
        have hk748 := fI_ne hM740 (by decide) hk706
        have hk749 := fI_upx hM740 hk707 (cl1 rfl (by omega))
        have hk750 := fI_ne hM740 (by decide) hk708
        have hk751 := fI_ne hM740 (by decide) hk709
        have hF752 := fr_sI hF710 hM740 (by decide)
        show Wn _ 234 _ (159, [(2, .int (nI (δ 2))), (1, .ref 16), (0, .ref 78)], [], M739)
        refine Wn.run (tab := tb_tl_readPerson) rfl 5 (c' := (166, [(2, .int (nI (δ 2))), (1, .ref 16), (0, .ref 78)], [], (mI M739 16 (upd (M739.1 16) 2 ((nI (δ 2)) + (nI 1)))))) (o := [shp 16 = (0, 2)]) rfl rfl ?_
        rw [show ((nI (δ 2)) + (nI 1)) = (nI ((δ 2) + 1)) from (n_add rfl rfl)]
        generalize hM754 : (mI M739 16 (upd (M739.1 16) 2 (nI ((δ 2) + 1)))) = M753
        have hq755 := RdD_fr (fr_1I hM754) (by decide) hq741
        have hk756 := fI_ne hM754 (by decide) hk742
        have hk757 := fJ_oI hM754 hk743
        have hk758 := fI_up hM754 hk744
        have hk759 := fJ_oI hM754 hk745
        have hk760 := fI_ne hM754 (by decide) hk746
        have hk761 := fI_ne hM754 (by decide) hk747
        have hk762 := fI_ne hM754 (by decide) hk748
        have hk763 := fI_ne hM754 (by decide) hk749
        have hk764 := fI_ne hM754 (by decide) hk750
        have hk765 := fI_ne hM754 (by decide) hk751
        have hF766 := fr_sI hF752 hM754 (by decide)
        show Wn _ 234 _ (166, [(2, .int (nI (δ 2))), (1, .ref 16), (0, .ref 78)], [], M753)
        have e9 : rdPe T L mo p δ ν o ic = .inl (1, tAt T L mo (tNx T L p)) := by unfold rdPe; rw [if_neg (show ¬ δ 2 = 6 by omega), if_pos hk3]
        rw [e9]
        exact Wn.vret rfl ⟨rfl, hF766, hq755⟩
  · show Wn _ 234 _ (19, [(2, .int (M.1 16 2)), (1, .ref 16), (0, .ref 78)], [], M)
    have h1 := mt (n_lt (fr_eq hl (show gl 2 = (nI (δ 2)) from (hd.1 2 (by decide)))) rfl (by omega) (by omega)).mpr h1
    rw [show (M.1 16 2) = (nI (δ 2)) from (fr_eq hl (show gl 2 = (nI (δ 2)) from (hd.1 2 (by decide))))]
    refine Wn.run (tab := tb_tl_readPerson) rfl 3 (c' := (24, [(2, .int (nI (δ 2))), (1, .ref 16), (0, .ref 78)], [.int (nI 4), .ref 77], M)) (o := [shp 78 = (0, 6)]) rfl rfl ?_
    refine Wn.callV (p := 77) (n := 2) (ix := 121) (ci := (3)) (PFl M 4 (tAt T L mo p) none) [.int (nI 4)] [] rfl rfl rfl rfl (Nat.le_of_ble_eq_true rfl) (Nat.le_of_ble_eq_true rfl) (c_rd_fail _ M T L mo p ta hR.1 4 (by omega)) ?_
    rintro _ M767 ⟨rfl, hd768, hF769⟩
    show Wn _ 234 _ (27, [(2, .int (nI (δ 2))), (1, .ref 16), (0, .ref 78)], [], M767)
    have hk770 := frI_fun hF769 (by decide) ht
    have hk771 := frJ_fun hF769 (by decide) hj
    have hk772 := frI_fun hF769 (by decide) hl
    have hk773 := frJ_fun hF769 (by decide) hJ
    have hk774 := frI_fun hF769 (by decide) hlo
    have hk775 := frI_fun hF769 (by decide) hi
    have hk776 := frI_fun hF769 (by decide) ha
    have hk777 := frI_fun hF769 (by decide) hte
    have hk778 := frI_fun hF769 (by decide) h19
    have hk779 := frI_fun hF769 (by decide) h23
    have hF780 := fr_tr hF hF769 (by decide)
    have e9 : rdPe T L mo p δ ν o ic = .inl (4, tAt T L mo p) := by unfold rdPe; rw [if_pos (show δ 2 = 6 by omega)]
    rw [e9]
    exact Wn.vret rfl ⟨rfl, hF780, hd768⟩
