/-! The class's draft of a lake. -/
def CDf (gl : Nat → Int32) (J : Nat → Int64) (lo ice at_ te f pr : Nat → Int32) (δ : Nat → Nat) (ν : Nat → Int64) : Prop :=
  (∀ k, k < 8 → gl k = nI (δ k)) ∧ (∀ q, q < δ 2 → J q = ν q) ∧ (∀ q, q < δ 2 → lo q = nI (δ (78 + q))) ∧ (∀ c, c < 64 → inL δ c → ice c = nI (δ (8 + c))) ∧ (∀ q, q < δ 2 → at_ q = nI (δ (72 + q))) ∧ (∀ q, q < δ 2 → te q = nI (δ (84 + q))) ∧ (∀ k, 5 ≤ k → k < 11 → f k = nI 0) ∧ (∀ q, q < 6 → pr q = nI 0)
def CD (M : Mm) (δ : Nat → Nat) (ν : Nat → Int64) : Prop := CDf (M.1 16) (M.2.1 17) (M.1 18) (M.1 20) (M.1 21) (M.1 22) (M.1 19) (M.1 23) δ ν
def CFf (g : Nat → Int32) (I : Int64) (δ : Nat → Nat) (o : Nat) (ic : Int64) : Prop := g 2 = b2 (o.testBit 4 = true) ∧ g 3 = b2 (o.testBit 0 = true) ∧ g 4 = b2 (o.testBit 1 = true) ∧ g 5 = b2 (o.testBit 2 = true) ∧ g 6 = b2 (o.testBit 3 = true) ∧ g 7 = b2 (¬ ic = 0 ∨ 0 < δ 2) ∧ I = ic
def CF (M : Mm) (δ : Nat → Nat) (o : Nat) (ic : Int64) : Prop := CFf (M.1 78) (M.2.1 78 8) δ o ic
/-- the class behind a line -/
def PRc (M0 : Mm) (T : Nat → Nat) (L mo : Nat) (res : Flt ⊕ Dst) : Po := fun r0 M' => r0 = none ∧ Fr [16, 17, 18, 20, 21, 22, 77, 78] M0 M' ∧ match res with
  | .inl f => RdD M' f.1 f.2
  | .inr st => (∃ ta, RdL M' T L mo st.1 ta) ∧ CD M' st.2.1 st.2.2.1 ∧ CF M' st.2.1 st.2.2.2.1 st.2.2.2.2
theorem or5bit : ∀ k, k < 5 → ∀ j, j < 5 → ∀ o, o < 32 → (((o ||| 2 ^ k).testBit j = true) ↔ (o.testBit j = true ∨ j = k)) := by decide +kernel
theorem or_b1 {k o : Nat} (hk : k < 5) (ho : o < 32) : nI 1 = b2 ((o ||| 2 ^ k).testBit k = true) := (b2_t ((or5bit k hk k hk o ho).mpr (Or.inr rfl))).symm
theorem or_b2 {k j o : Nat} {x : Int32} (hk : k < 5) (hj : j < 5) (hn : ¬ j = k) (ho : o < 32) (h : x = b2 (o.testBit j = true)) : x = b2 ((o ||| 2 ^ k).testBit j = true) := h.trans (b2_iff ⟨fun q => (or5bit k hk j hj o ho).mpr (Or.inl q), fun q => ((or5bit k hk j hj o ho).mp q).elim id (fun e => absurd e hn)⟩)
theorem CF_4 {g : Nat → Int32} {I : Int64} {δ : Nat → Nat} {o : Nat} {ic : Int64} (ho : o < 32) (h : CFf g I δ o ic) : CFf (upd g 2 (nI 1)) I δ (o ||| 2 ^ 4) ic :=
  ⟨by rw [pk_us]; exact or_b1 (by decide) ho, by rw [pk_un (by decide)]; exact or_b2 (by decide) (by decide) (by decide) ho h.2.1, by rw [pk_un (by decide)]; exact or_b2 (by decide) (by decide) (by decide) ho h.2.2.1, by rw [pk_un (by decide)]; exact or_b2 (by decide) (by decide) (by decide) ho h.2.2.2.1, by rw [pk_un (by decide)]; exact or_b2 (by decide) (by decide) (by decide) ho h.2.2.2.2.1, by rw [pk_un (by decide)]; exact h.2.2.2.2.2.1, h.2.2.2.2.2.2⟩
theorem CF_0 {g : Nat → Int32} {I : Int64} {δ : Nat → Nat} {o : Nat} {ic : Int64} (ho : o < 32) (h : CFf g I δ o ic) : CFf (upd g 3 (nI 1)) I δ (o ||| 2 ^ 0) ic :=
  ⟨by rw [pk_un (by decide)]; exact or_b2 (by decide) (by decide) (by decide) ho h.1, by rw [pk_us]; exact or_b1 (by decide) ho, by rw [pk_un (by decide)]; exact or_b2 (by decide) (by decide) (by decide) ho h.2.2.1, by rw [pk_un (by decide)]; exact or_b2 (by decide) (by decide) (by decide) ho h.2.2.2.1, by rw [pk_un (by decide)]; exact or_b2 (by decide) (by decide) (by decide) ho h.2.2.2.2.1, by rw [pk_un (by decide)]; exact h.2.2.2.2.2.1, h.2.2.2.2.2.2⟩
theorem CF_1 {g : Nat → Int32} {I : Int64} {δ : Nat → Nat} {o : Nat} {ic : Int64} (ho : o < 32) (h : CFf g I δ o ic) : CFf (upd g 4 (nI 1)) I δ (o ||| 2 ^ 1) ic :=
  ⟨by rw [pk_un (by decide)]; exact or_b2 (by decide) (by decide) (by decide) ho h.1, by rw [pk_un (by decide)]; exact or_b2 (by decide) (by decide) (by decide) ho h.2.1, by rw [pk_us]; exact or_b1 (by decide) ho, by rw [pk_un (by decide)]; exact or_b2 (by decide) (by decide) (by decide) ho h.2.2.2.1, by rw [pk_un (by decide)]; exact or_b2 (by decide) (by decide) (by decide) ho h.2.2.2.2.1, by rw [pk_un (by decide)]; exact h.2.2.2.2.2.1, h.2.2.2.2.2.2⟩
theorem CF_2 {g : Nat → Int32} {I : Int64} {δ : Nat → Nat} {o : Nat} {ic : Int64} (ho : o < 32) (h : CFf g I δ o ic) : CFf (upd g 5 (nI 1)) I δ (o ||| 2 ^ 2) ic :=
  ⟨by rw [pk_un (by decide)]; exact or_b2 (by decide) (by decide) (by decide) ho h.1, by rw [pk_un (by decide)]; exact or_b2 (by decide) (by decide) (by decide) ho h.2.1, by rw [pk_un (by decide)]; exact or_b2 (by decide) (by decide) (by decide) ho h.2.2.1, by rw [pk_us]; exact or_b1 (by decide) ho, by rw [pk_un (by decide)]; exact or_b2 (by decide) (by decide) (by decide) ho h.2.2.2.2.1, by rw [pk_un (by decide)]; exact h.2.2.2.2.2.1, h.2.2.2.2.2.2⟩
theorem CF_3 {g : Nat → Int32} {I : Int64} {δ : Nat → Nat} {o : Nat} {ic : Int64} (ho : o < 32) (h : CFf g I δ o ic) : CFf (upd g 6 (nI 1)) I δ (o ||| 2 ^ 3) ic :=
  ⟨by rw [pk_un (by decide)]; exact or_b2 (by decide) (by decide) (by decide) ho h.1, by rw [pk_un (by decide)]; exact or_b2 (by decide) (by decide) (by decide) ho h.2.1, by rw [pk_un (by decide)]; exact or_b2 (by decide) (by decide) (by decide) ho h.2.2.1, by rw [pk_un (by decide)]; exact or_b2 (by decide) (by decide) (by decide) ho h.2.2.2.1, by rw [pk_us]; exact or_b1 (by decide) ho, by rw [pk_un (by decide)]; exact h.2.2.2.2.2.1, h.2.2.2.2.2.2⟩
theorem CF_dl {g : Nat → Int32} {I : Int64} {δ ε : Nat → Nat} {o : Nat} {ic : Int64} (e : ε 2 = δ 2) (h : CFf g I δ o ic) : CFf g I ε o ic := by unfold CFf; rw [e]; exact h
theorem CD_su {gl : Nat → Int32} {J : Nat → Int64} {lo ice at_ te f pr : Nat → Int32} {δ : Nat → Nat} {ν : Nat → Int64} {k v : Nat} (h : CDf gl J lo ice at_ te f pr δ ν) (h3 : 3 ≤ k) (h8 : k < 8) : CDf (upd gl k (nI v)) J lo ice at_ te f pr (su δ k v) ν := by
  have e : ∀ x, ¬ x = k → su δ k v x = δ x := fun x hx => if_neg hx
  obtain ⟨a0, a1, a2, a3, a4, a5, a6, a7⟩ := h
  refine ⟨fun x hx => ?_, ?_, ?_, ?_, ?_, ?_, a6, a7⟩
  · by_cases q : x = k
    · rw [q, pk_us]; exact congrArg nI (if_pos rfl).symm
    · rw [pk_un q, e x q]; exact a0 x hx
  · rw [e 2 (by omega)]; exact a1
  · rw [e 2 (by omega)]; intro q hq; rw [e _ (by omega)]; exact a2 q hq
  · intro c hc hi; rw [e _ (by omega)]; exact a3 c hc (by have e0 := e 0 (by omega); have e1 := e 1 (by omega); unfold inL at hi ⊢; rw [e0, e1] at hi; exact hi)
  · rw [e 2 (by omega)]; intro q hq; rw [e _ (by omega)]; exact a4 q hq
  · rw [e 2 (by omega)]; intro q hq; rw [e _ (by omega)]; exact a5 q hq
theorem CD_fz {gl : Nat → Int32} {J : Nat → Int64} {lo ice at_ te f pr : Nat → Int32} {δ : Nat → Nat} {ν : Nat → Int64} {w h i : Nat} {ic2 : Nat → Int32} (hd : CDf gl J lo ice at_ te f pr δ ν) (hi : ∀ k, k < 64 → ic2 k = nI i) : CDf (upd (upd gl 0 (nI w)) 1 (nI h)) J lo ic2 at_ te f pr (fz δ w h i) ν := by
  have e : ∀ k, fz δ w h i k = if 8 ≤ k ∧ k < 8 + 64 then (if (k - 8) % 8 < w ∧ (k - 8) / 8 < h then i else 0) else if k = 1 then h else if k = 0 then w else δ k := fun _ => rfl
  have e2 : fz δ w h i 2 = δ 2 := rfl
  have eq : ∀ k, 72 ≤ k → fz δ w h i k = δ k := fun k hk => by rw [e, if_neg (by omega), if_neg (by omega), if_neg (by omega)]
  obtain ⟨a0, a1, a2, a3, a4, a5, a6, a7⟩ := hd
  refine ⟨fun x hx => ?_, a1, ?_, ?_, ?_, ?_, a6, a7⟩
  · by_cases q1 : x = 1
    · rw [q1, pk_us]; rfl
    · rw [pk_un q1]
      by_cases q0 : x = 0
      · rw [q0, pk_us]; rfl
      · rw [pk_un q0, e, if_neg (by omega), if_neg q1, if_neg q0]; exact a0 x hx
  · rw [e2]; intro q hq; rw [eq _ (by omega)]; exact a2 q hq
  · intro c hc hl
    rw [hi c hc, e, if_pos (by omega), show 8 + c - 8 = c by omega, if_pos (show c % 8 < w ∧ c / 8 < h from hl)]
  · rw [e2]; intro q hq; rw [eq _ (by omega)]; exact a4 q hq
  · rw [e2]; intro q hq; rw [eq _ (by omega)]; exact a5 q hq
set_option maxRecDepth 20000 in
theorem c_tl_readLake (d : Nat) (M : Mm) (T : Nat → Nat) (L mo p ta : Nat) (hR : RdL M T L mo p ta) (δ : Nat → Nat) (ν : Nat → Int64) (o : Nat) (ic : Int64) (hD : CD M δ ν) (hC : CF M δ o ic) (hδ : DW δ) (ho5 : o < 32) (hk : tKd T L mo p = 10) : Wn (d + 3) 231 (PRc M T L mo (rdLk T L mo p δ ν o ic)) (0, lv_args 0 [.ref 78], [], M) := by
  have hF := fr_rf [16, 17, 18, 20, 21, 22, 77, 78] M
  obtain ⟨g, ht⟩ : ∃ g, M.1 78 = g := ⟨_, rfl⟩
  obtain ⟨j, hj⟩ : ∃ j, M.2.1 78 = j := ⟨_, rfl⟩
  obtain ⟨gl, hl⟩ : ∃ g, M.1 16 = g := ⟨_, rfl⟩
  obtain ⟨J, hJ⟩ : ∃ g, M.2.1 17 = g := ⟨_, rfl⟩
  obtain ⟨lo, hlo⟩ : ∃ g, M.1 18 = g := ⟨_, rfl⟩
  obtain ⟨ice, hi⟩ : ∃ g, M.1 20 = g := ⟨_, rfl⟩
  obtain ⟨at_, ha⟩ : ∃ g, M.1 21 = g := ⟨_, rfl⟩
  obtain ⟨te, hte⟩ : ∃ g, M.1 22 = g := ⟨_, rfl⟩
  obtain ⟨f19, h19⟩ : ∃ g, M.1 19 = g := ⟨_, rfl⟩
  obtain ⟨pr, h23⟩ : ∃ g, M.1 23 = g := ⟨_, rfl⟩
  have hd : CDf gl J lo ice at_ te f19 pr δ ν := by rw [← hl, ← hJ, ← hlo, ← hi, ← ha, ← hte, ← h19, ← h23]; exact hD
  have hf : CFf g (j 8) δ o ic := by rw [← ht, ← hj]; exact hC
  obtain ⟨b0, b1, b2_9, bq, bc⟩ := id hδ.1
  refine Wn.run (tab := tb_tl_readLake) rfl 5 (c' := (if ¬ (M.1 78 2) = 0 then 16 else 9, [(0, .ref 78)], [.ref 78, .ref 78], M)) (o := [shp 78 = (0, 6)]) rfl rfl ?_
  refine Wn.br (fun h1 => ?_) (fun h1 => ?_)
  · show Wn _ 231 _ (16, [(0, .ref 78)], [.ref 78, .ref 78], M)
    rw [show (M.1 78 2) = (b2 (o.testBit 4 = true)) from (fr_eq ht (show g 2 = (b2 (o.testBit 4 = true)) from hf.1))] at h1
    have h1 := b2_pos h1
    refine Wn.run (tab := tb_tl_readLake) rfl 2 (c' := (21, [(0, .ref 78)], [.int (nI 1), .ref 78, .ref 78], M)) (o := []) rfl trivial ?_
    refine Wn.callV (p := 78) (n := 2) (ix := 95) (ci := (6)) (PFl M 3 (tAt T L mo p) (some (.int (nI 1)))) [.int (nI 1)] [.ref 78] rfl rfl rfl rfl (Nat.le_of_ble_eq_true rfl) (Nat.le_of_ble_eq_true rfl) (c_tl_takeOnce_no _ M T L mo p ta hR) ?_
    rintro _ M1 ⟨rfl, hq2, hF3⟩
    show Wn _ 231 _ (24, [(0, .ref 78)], [.int (nI 1), .ref 78], M1)
    have hk4 := frI_fun hF3 (by decide) ht
    have hk5 := frJ_fun hF3 (by decide) hj
    have hk6 := frI_fun hF3 (by decide) hl
    have hk7 := frJ_fun hF3 (by decide) hJ
    have hk8 := frI_fun hF3 (by decide) hlo
    have hk9 := frI_fun hF3 (by decide) hi
    have hk10 := frI_fun hF3 (by decide) ha
    have hk11 := frI_fun hF3 (by decide) hte
    have hk12 := frI_fun hF3 (by decide) h19
    have hk13 := frI_fun hF3 (by decide) h23
    have hF14 := fr_tr hF hF3 (by decide)
    refine Wn.run (tab := tb_tl_readLake) rfl 1 (c' := (27, [(0, .ref 78)], [], (mI M1 78 (upd (M1.1 78) 2 (nI 1))))) (o := [shp 78 = (0, 6), is01 (nI 1)]) rfl ⟨rfl, (Or.inr rfl)⟩ ?_
    generalize hM16 : (mI M1 78 (upd (M1.1 78) 2 (nI 1))) = M15
    have hq17 := RdD_fr (fr_1I hM16) (by decide) hq2
    have hk18 := fI_up hM16 hk4
    have hk19 := fJ_oI hM16 hk5
    have hk20 := fI_ne hM16 (by decide) hk6
    have hk21 := fJ_oI hM16 hk7
    have hk22 := fI_ne hM16 (by decide) hk8
    have hk23 := fI_ne hM16 (by decide) hk9
    have hk24 := fI_ne hM16 (by decide) hk10
    have hk25 := fI_ne hM16 (by decide) hk11
    have hk26 := fI_ne hM16 (by decide) hk12
    have hk27 := fI_ne hM16 (by decide) hk13
    have hF28 := fr_sI hF14 hM16 (by decide)
    show Wn _ 231 _ (27, [(0, .ref 78)], [], M15)
    refine Wn.run (tab := tb_tl_readLake) rfl 7 (c' := (41, [(0, .ref 78)], [.int (nI 8), .int (nI 2), .ref 77, .ref 16], M15)) (o := [shp 78 = (0, 6), shp 15 = (0, 8), shp 78 = (0, 6)]) rfl ⟨rfl, rfl, rfl⟩ ?_
    refine Wn.callV (p := 77) (n := 3) (ix := 99) (ci := (3)) (fun r0 M9 => r0 = some (.int (nI 2)) ∧ M9 = M15) [.int (nI 2), .int (nI 8)] [.ref 16] rfl rfl rfl rfl (Nat.le_of_ble_eq_true rfl) (Nat.le_of_ble_eq_true rfl) (c_rd_takeNumberD _ M15 3 (tAt T L mo p) hq17 (nI 2) (nI 8)) ?_
    rintro _ M9 ⟨rfl, hsm⟩
    obtain rfl := hsm.symm
    show Wn _ 231 _ (44, [(0, .ref 78)], [.int (nI 2), .ref 16], M15)
    refine Wn.run (tab := tb_tl_readLake) rfl 1 (c' := (47, [(0, .ref 78)], [], (mI M15 16 (upd (M15.1 16) 0 (nI 2))))) (o := [shp 16 = (0, 2)]) rfl rfl ?_
    generalize hM30 : (mI M15 16 (upd (M15.1 16) 0 (nI 2))) = M29
    have hq31 := RdD_fr (fr_1I hM30) (by decide) hq17
    have hk32 := fI_ne hM30 (by decide) hk18
    have hk33 := fJ_oI hM30 hk19
    have hk34 := fI_up hM30 hk20
    have hk35 := fJ_oI hM30 hk21
    have hk36 := fI_ne hM30 (by decide) hk22
    have hk37 := fI_ne hM30 (by decide) hk23
    have hk38 := fI_ne hM30 (by decide) hk24
    have hk39 := fI_ne hM30 (by decide) hk25
    have hk40 := fI_ne hM30 (by decide) hk26
    have hk41 := fI_ne hM30 (by decide) hk27
    have hF42 := fr_sI hF28 hM30 (by decide)
    show Wn _ 231 _ (47, [(0, .ref 78)], [], M29)
    refine Wn.run (tab := tb_tl_readLake) rfl 7 (c' := (61, [(0, .ref 78)], [.int (nI 8), .int (nI 2), .ref 77, .ref 16], M29)) (o := [shp 78 = (0, 6), shp 15 = (0, 8), shp 78 = (0, 6)]) rfl ⟨rfl, rfl, rfl⟩ ?_
    refine Wn.callV (p := 77) (n := 3) (ix := 99) (ci := (3)) (fun r0 M9 => r0 = some (.int (nI 2)) ∧ M9 = M29) [.int (nI 2), .int (nI 8)] [.ref 16] rfl rfl rfl rfl (Nat.le_of_ble_eq_true rfl) (Nat.le_of_ble_eq_true rfl) (c_rd_takeNumberD _ M29 3 (tAt T L mo p) hq31 (nI 2) (nI 8)) ?_
    rintro _ M9 ⟨rfl, hsm⟩
    obtain rfl := hsm.symm
    show Wn _ 231 _ (64, [(0, .ref 78)], [.int (nI 2), .ref 16], M29)
    refine Wn.run (tab := tb_tl_readLake) rfl 1 (c' := (67, [(0, .ref 78)], [], (mI M29 16 (upd (M29.1 16) 1 (nI 2))))) (o := [shp 16 = (0, 2)]) rfl rfl ?_
    generalize hM44 : (mI M29 16 (upd (M29.1 16) 1 (nI 2))) = M43
    have hq45 := RdD_fr (fr_1I hM44) (by decide) hq31
    have hk46 := fI_ne hM44 (by decide) hk32
    have hk47 := fJ_oI hM44 hk33
    have hk48 := fI_up hM44 hk34
    have hk49 := fJ_oI hM44 hk35
    have hk50 := fI_ne hM44 (by decide) hk36
    have hk51 := fI_ne hM44 (by decide) hk37
    have hk52 := fI_ne hM44 (by decide) hk38
    have hk53 := fI_ne hM44 (by decide) hk39
    have hk54 := fI_ne hM44 (by decide) hk40
    have hk55 := fI_ne hM44 (by decide) hk41
    have hF56 := fr_sI hF42 hM44 (by decide)
    show Wn _ 231 _ (67, [(0, .ref 78)], [], M43)
    refine Wn.run (tab := tb_tl_readLake) rfl 8 (c' := (84, [(0, .ref 78)], [.int (nI 9), .int (nI 0), .ref 77, .ref 20], M43)) (o := [shp 78 = (0, 6), shp 15 = (0, 8), shp 19 = (0, 5), shp 78 = (0, 6)]) rfl ⟨rfl, rfl, rfl, rfl⟩ ?_
    refine Wn.callV (p := 77) (n := 3) (ix := 99) (ci := (3)) (fun r0 M9 => r0 = some (.int (nI 0)) ∧ M9 = M43) [.int (nI 0), .int (nI 9)] [.ref 20] rfl rfl rfl rfl (Nat.le_of_ble_eq_true rfl) (Nat.le_of_ble_eq_true rfl) (c_rd_takeNumberD _ M43 3 (tAt T L mo p) hq45 (nI 0) (nI 9)) ?_
    rintro _ M9 ⟨rfl, hsm⟩
    obtain rfl := hsm.symm
    show Wn _ 231 _ (87, [(0, .ref 78)], [.int (nI 0), .ref 20], M43)
    refine Wn.callS (n := 2) (ix := 143) (PF 20 64 (nI 0) M43) [.ref 20, .int (nI 0)] [] rfl rfl rfl (Nat.le_of_ble_eq_true rfl) (Nat.le_of_ble_eq_true rfl) (c_ja_fill _ M43 20 64 (nI 0) rfl (by decide)) ?_
    rintro _ M57 ⟨rfl, hl58, hF59⟩
    show Wn _ 231 _ (90, [(0, .ref 78)], [], M57)
    have hq60 := RdD_fr hF59 (by decide) hq45
    have hk61 := frI_fun hF59 (by decide) hk46
    have hk62 := frJ_fun hF59 (by decide) hk47
    have hk63 := frI_fun hF59 (by decide) hk48
    have hk64 := frJ_fun hF59 (by decide) hk49
    have hk65 := frI_fun hF59 (by decide) hk50
    have hk66 := frI_fun hF59 (by decide) hk52
    have hk67 := frI_fun hF59 (by decide) hk53
    have hk68 := frI_fun hF59 (by decide) hk54
    have hk69 := frI_fun hF59 (by decide) hk55
    have hF70 := fr_tr hF56 hF59 (by decide)
    have e9 : rdLk T L mo p δ ν o ic = .inl (3, tAt T L mo p) := by unfold rdLk; rw [if_pos (Or.inr (Or.inr h1))]
    rw [e9]
    exact Wn.vret rfl ⟨rfl, hF70, hq60⟩
  · show Wn _ 231 _ (9, [(0, .ref 78)], [.ref 78, .ref 78], M)
    rw [show (M.1 78 2) = (b2 (o.testBit 4 = true)) from (fr_eq ht (show g 2 = (b2 (o.testBit 4 = true)) from hf.1))] at h1
    have h1 := b2_nneg h1
    refine Wn.run (tab := tb_tl_readLake) rfl 3 (c' := (if (M.1 78 7) = 0 then 20 else 16, [(0, .ref 78)], [.ref 78, .ref 78], M)) (o := [shp 78 = (0, 6)]) rfl rfl ?_
    refine Wn.br (fun h2 => ?_) (fun h2 => ?_)
    · show Wn _ 231 _ (20, [(0, .ref 78)], [.ref 78, .ref 78], M)
      rw [show (M.1 78 7) = (b2 (¬ ic = 0 ∨ 0 < δ 2)) from (fr_eq ht (show g 7 = (b2 (¬ ic = 0 ∨ 0 < δ 2)) from hf.2.2.2.2.2.1))] at h2
      have h2 := b2_neg h2
      refine Wn.run (tab := tb_tl_readLake) rfl 1 (c' := (21, [(0, .ref 78)], [.int (nI 0), .ref 78, .ref 78], M)) (o := []) rfl trivial ?_
      refine Wn.callV (p := 78) (n := 2) (ix := 95) (ci := (6)) (PLv M T L mo (tNx T L p) (tAt T L mo p) (some (.int (nI 1)))) [.int (nI 0)] [.ref 78] rfl rfl rfl rfl (Nat.le_of_ble_eq_true rfl) (Nat.le_of_ble_eq_true rfl) (c_tl_takeOnce_ok _ M T L mo p ta hR (by omega) (by omega)) ?_
      rintro _ M71 ⟨rfl, hq72, hF73⟩
      show Wn _ 231 _ (24, [(0, .ref 78)], [.int (nI 1), .ref 78], M71)
      have hk74 := frI_fun hF73 (by decide) ht
      have hk75 := frJ_fun hF73 (by decide) hj
      have hk76 := frI_fun hF73 (by decide) hl
      have hk77 := frJ_fun hF73 (by decide) hJ
      have hk78 := frI_fun hF73 (by decide) hlo
      have hk79 := frI_fun hF73 (by decide) hi
      have hk80 := frI_fun hF73 (by decide) ha
      have hk81 := frI_fun hF73 (by decide) hte
      have hk82 := frI_fun hF73 (by decide) h19
      have hk83 := frI_fun hF73 (by decide) h23
      have hF84 := fr_tr hF hF73 (by decide)
      refine Wn.run (tab := tb_tl_readLake) rfl 1 (c' := (27, [(0, .ref 78)], [], (mI M71 78 (upd (M71.1 78) 2 (nI 1))))) (o := [shp 78 = (0, 6), is01 (nI 1)]) rfl ⟨rfl, (Or.inr rfl)⟩ ?_
      generalize hM86 : (mI M71 78 (upd (M71.1 78) 2 (nI 1))) = M85
      have hq87 := RdL_fr (fr_1I hM86) (by decide) hq72
      have hk88 := fI_up hM86 hk74
      have hk89 := fJ_oI hM86 hk75
      have hk90 := fI_ne hM86 (by decide) hk76
      have hk91 := fJ_oI hM86 hk77
      have hk92 := fI_ne hM86 (by decide) hk78
      have hk93 := fI_ne hM86 (by decide) hk79
      have hk94 := fI_ne hM86 (by decide) hk80
      have hk95 := fI_ne hM86 (by decide) hk81
      have hk96 := fI_ne hM86 (by decide) hk82
      have hk97 := fI_ne hM86 (by decide) hk83
      have hF98 := fr_sI hF84 hM86 (by decide)
      show Wn _ 231 _ (27, [(0, .ref 78)], [], M85)
      refine Wn.run (tab := tb_tl_readLake) rfl 7 (c' := (41, [(0, .ref 78)], [.int (nI 8), .int (nI 2), .ref 77, .ref 16], M85)) (o := [shp 78 = (0, 6), shp 15 = (0, 8), shp 78 = (0, 6)]) rfl ⟨rfl, rfl, rfl⟩ ?_
      cases hc1 : tkN T L mo (tNx T L p) 2 8 with
      | inl f1 =>
        refine Wn.callV (p := 77) (n := 3) (ix := 99) (ci := (3)) (PFl M85 f1.1 f1.2 (some (.int (nI 2)))) [.int (nI 2), .int (nI 8)] [.ref 16] rfl rfl rfl rfl (Nat.le_of_ble_eq_true rfl) (Nat.le_of_ble_eq_true rfl) (c_rd_takeE _ M85 T L mo (tNx T L p) (tAt T L mo p) hq87 2 8 (by omega) (by omega) f1 hc1) ?_
        rintro _ M99 ⟨rfl, hq100, hF101⟩
        show Wn _ 231 _ (44, [(0, .ref 78)], [.int (nI 2), .ref 16], M99)
        have hk102 := frI_fun hF101 (by decide) hk88
        have hk103 := frJ_fun hF101 (by decide) hk89
        have hk104 := frI_fun hF101 (by decide) hk90
        have hk105 := frJ_fun hF101 (by decide) hk91
        have hk106 := frI_fun hF101 (by decide) hk92
        have hk107 := frI_fun hF101 (by decide) hk93
        have hk108 := frI_fun hF101 (by decide) hk94
        have hk109 := frI_fun hF101 (by decide) hk95
        have hk110 := frI_fun hF101 (by decide) hk96
        have hk111 := frI_fun hF101 (by decide) hk97
        have hF112 := fr_tr hF98 hF101 (by decide)
        refine Wn.run (tab := tb_tl_readLake) rfl 1 (c' := (47, [(0, .ref 78)], [], (mI M99 16 (upd (M99.1 16) 0 (nI 2))))) (o := [shp 16 = (0, 2)]) rfl rfl ?_
        generalize hM114 : (mI M99 16 (upd (M99.1 16) 0 (nI 2))) = M113
        have hq115 := RdD_fr (fr_1I hM114) (by decide) hq100
        have hk116 := fI_ne hM114 (by decide) hk102
        have hk117 := fJ_oI hM114 hk103
        have hk118 := fI_up hM114 hk104
        have hk119 := fJ_oI hM114 hk105
        have hk120 := fI_ne hM114 (by decide) hk106
        have hk121 := fI_ne hM114 (by decide) hk107
        have hk122 := fI_ne hM114 (by decide) hk108
        have hk123 := fI_ne hM114 (by decide) hk109
        have hk124 := fI_ne hM114 (by decide) hk110
        have hk125 := fI_ne hM114 (by decide) hk111
        have hF126 := fr_sI hF112 hM114 (by decide)
        show Wn _ 231 _ (47, [(0, .ref 78)], [], M113)
        refine Wn.run (tab := tb_tl_readLake) rfl 7 (c' := (61, [(0, .ref 78)], [.int (nI 8), .int (nI 2), .ref 77, .ref 16], M113)) (o := [shp 78 = (0, 6), shp 15 = (0, 8), shp 78 = (0, 6)]) rfl ⟨rfl, rfl, rfl⟩ ?_
        refine Wn.callV (p := 77) (n := 3) (ix := 99) (ci := (3)) (fun r0 M9 => r0 = some (.int (nI 2)) ∧ M9 = M113) [.int (nI 2), .int (nI 8)] [.ref 16] rfl rfl rfl rfl (Nat.le_of_ble_eq_true rfl) (Nat.le_of_ble_eq_true rfl) (c_rd_takeNumberD _ M113 f1.1 f1.2 hq115 (nI 2) (nI 8)) ?_
        rintro _ M9 ⟨rfl, hsm⟩
        obtain rfl := hsm.symm
        show Wn _ 231 _ (64, [(0, .ref 78)], [.int (nI 2), .ref 16], M113)
        refine Wn.run (tab := tb_tl_readLake) rfl 1 (c' := (67, [(0, .ref 78)], [], (mI M113 16 (upd (M113.1 16) 1 (nI 2))))) (o := [shp 16 = (0, 2)]) rfl rfl ?_
        generalize hM128 : (mI M113 16 (upd (M113.1 16) 1 (nI 2))) = M127
        have hq129 := RdD_fr (fr_1I hM128) (by decide) hq115
        have hk130 := fI_ne hM128 (by decide) hk116
        have hk131 := fJ_oI hM128 hk117
        have hk132 := fI_up hM128 hk118
        have hk133 := fJ_oI hM128 hk119
        have hk134 := fI_ne hM128 (by decide) hk120
        have hk135 := fI_ne hM128 (by decide) hk121
        have hk136 := fI_ne hM128 (by decide) hk122
        have hk137 := fI_ne hM128 (by decide) hk123
        have hk138 := fI_ne hM128 (by decide) hk124
        have hk139 := fI_ne hM128 (by decide) hk125
        have hF140 := fr_sI hF126 hM128 (by decide)
        show Wn _ 231 _ (67, [(0, .ref 78)], [], M127)
        refine Wn.run (tab := tb_tl_readLake) rfl 8 (c' := (84, [(0, .ref 78)], [.int (nI 9), .int (nI 0), .ref 77, .ref 20], M127)) (o := [shp 78 = (0, 6), shp 15 = (0, 8), shp 19 = (0, 5), shp 78 = (0, 6)]) rfl ⟨rfl, rfl, rfl, rfl⟩ ?_
        refine Wn.callV (p := 77) (n := 3) (ix := 99) (ci := (3)) (fun r0 M9 => r0 = some (.int (nI 0)) ∧ M9 = M127) [.int (nI 0), .int (nI 9)] [.ref 20] rfl rfl rfl rfl (Nat.le_of_ble_eq_true rfl) (Nat.le_of_ble_eq_true rfl) (c_rd_takeNumberD _ M127 f1.1 f1.2 hq129 (nI 0) (nI 9)) ?_
        rintro _ M9 ⟨rfl, hsm⟩
        obtain rfl := hsm.symm
        show Wn _ 231 _ (87, [(0, .ref 78)], [.int (nI 0), .ref 20], M127)
        refine Wn.callS (n := 2) (ix := 143) (PF 20 64 (nI 0) M127) [.ref 20, .int (nI 0)] [] rfl rfl rfl (Nat.le_of_ble_eq_true rfl) (Nat.le_of_ble_eq_true rfl) (c_ja_fill _ M127 20 64 (nI 0) rfl (by decide)) ?_
        rintro _ M141 ⟨rfl, hl142, hF143⟩
        show Wn _ 231 _ (90, [(0, .ref 78)], [], M141)
        have hq144 := RdD_fr hF143 (by decide) hq129
        have hk145 := frI_fun hF143 (by decide) hk130
        have hk146 := frJ_fun hF143 (by decide) hk131
        have hk147 := frI_fun hF143 (by decide) hk132
        have hk148 := frJ_fun hF143 (by decide) hk133
        have hk149 := frI_fun hF143 (by decide) hk134
        have hk150 := frI_fun hF143 (by decide) hk136
        have hk151 := frI_fun hF143 (by decide) hk137
        have hk152 := frI_fun hF143 (by decide) hk138
        have hk153 := frI_fun hF143 (by decide) hk139
        have hF154 := fr_tr hF140 hF143 (by decide)
        have e9 : rdLk T L mo p δ ν o ic = .inl f1 := by unfold rdLk; rw [if_neg (fun q9 => q9.elim (fun q8 => h2 (Or.inl q8)) (fun q8 => q8.elim (fun q7 => h2 (Or.inr q7)) h1))]; simp only [hc1]
        rw [e9]
        exact Wn.vret rfl ⟨rfl, hF154, hq144⟩
      | inr v1 =>
        obtain ⟨x1, p1⟩ := v1
        have bd1 : 2 ≤ x1 ∧ x1 ≤ 8 := by obtain ⟨q1, q2, q3⟩ := tkN_inr hc1; cases q3; exact q2
        refine Wn.callV (p := 77) (n := 3) (ix := 99) (ci := (3)) (PLv M85 T L mo p1 (tAt T L mo (tNx T L p)) (some (.int (nI x1)))) [.int (nI 2), .int (nI 8)] [.ref 16] rfl rfl rfl rfl (Nat.le_of_ble_eq_true rfl) (Nat.le_of_ble_eq_true rfl) (c_rd_takeV _ M85 T L mo (tNx T L p) (tAt T L mo p) hq87 2 8 (by omega) (by omega) (x1, p1) hc1) ?_
        rintro _ M155 ⟨rfl, hq156, hF157⟩
        show Wn _ 231 _ (44, [(0, .ref 78)], [.int (nI x1), .ref 16], M155)
        have hk158 := frI_fun hF157 (by decide) hk88
        have hk159 := frJ_fun hF157 (by decide) hk89
        have hk160 := frI_fun hF157 (by decide) hk90
        have hk161 := frJ_fun hF157 (by decide) hk91
        have hk162 := frI_fun hF157 (by decide) hk92
        have hk163 := frI_fun hF157 (by decide) hk93
        have hk164 := frI_fun hF157 (by decide) hk94
        have hk165 := frI_fun hF157 (by decide) hk95
        have hk166 := frI_fun hF157 (by decide) hk96
        have hk167 := frI_fun hF157 (by decide) hk97
        have hF168 := fr_tr hF98 hF157 (by decide)
        refine Wn.run (tab := tb_tl_readLake) rfl 1 (c' := (47, [(0, .ref 78)], [], (mI M155 16 (upd (M155.1 16) 0 (nI x1))))) (o := [shp 16 = (0, 2)]) rfl rfl ?_
        generalize hM170 : (mI M155 16 (upd (M155.1 16) 0 (nI x1))) = M169
        have hq171 := RdL_fr (fr_1I hM170) (by decide) hq156
        have hk172 := fI_ne hM170 (by decide) hk158
        have hk173 := fJ_oI hM170 hk159
        have hk174 := fI_up hM170 hk160
        have hk175 := fJ_oI hM170 hk161
        have hk176 := fI_ne hM170 (by decide) hk162
        have hk177 := fI_ne hM170 (by decide) hk163
        have hk178 := fI_ne hM170 (by decide) hk164
        have hk179 := fI_ne hM170 (by decide) hk165
        have hk180 := fI_ne hM170 (by decide) hk166
        have hk181 := fI_ne hM170 (by decide) hk167
        have hF182 := fr_sI hF168 hM170 (by decide)
        show Wn _ 231 _ (47, [(0, .ref 78)], [], M169)
        refine Wn.run (tab := tb_tl_readLake) rfl 7 (c' := (61, [(0, .ref 78)], [.int (nI 8), .int (nI 2), .ref 77, .ref 16], M169)) (o := [shp 78 = (0, 6), shp 15 = (0, 8), shp 78 = (0, 6)]) rfl ⟨rfl, rfl, rfl⟩ ?_
        cases hc2 : tkN T L mo p1 2 8 with
        | inl f2 =>
          refine Wn.callV (p := 77) (n := 3) (ix := 99) (ci := (3)) (PFl M169 f2.1 f2.2 (some (.int (nI 2)))) [.int (nI 2), .int (nI 8)] [.ref 16] rfl rfl rfl rfl (Nat.le_of_ble_eq_true rfl) (Nat.le_of_ble_eq_true rfl) (c_rd_takeE _ M169 T L mo p1 (tAt T L mo (tNx T L p)) hq171 2 8 (by omega) (by omega) f2 hc2) ?_
          rintro _ M183 ⟨rfl, hq184, hF185⟩
          show Wn _ 231 _ (64, [(0, .ref 78)], [.int (nI 2), .ref 16], M183)
          have hk186 := frI_fun hF185 (by decide) hk172
          have hk187 := frJ_fun hF185 (by decide) hk173
          have hk188 := frI_fun hF185 (by decide) hk174
          have hk189 := frJ_fun hF185 (by decide) hk175
          have hk190 := frI_fun hF185 (by decide) hk176
          have hk191 := frI_fun hF185 (by decide) hk177
          have hk192 := frI_fun hF185 (by decide) hk178
          have hk193 := frI_fun hF185 (by decide) hk179
          have hk194 := frI_fun hF185 (by decide) hk180
          have hk195 := frI_fun hF185 (by decide) hk181
          have hF196 := fr_tr hF182 hF185 (by decide)
          refine Wn.run (tab := tb_tl_readLake) rfl 1 (c' := (67, [(0, .ref 78)], [], (mI M183 16 (upd (M183.1 16) 1 (nI 2))))) (o := [shp 16 = (0, 2)]) rfl rfl ?_
          generalize hM198 : (mI M183 16 (upd (M183.1 16) 1 (nI 2))) = M197
          have hq199 := RdD_fr (fr_1I hM198) (by decide) hq184
          have hk200 := fI_ne hM198 (by decide) hk186
          have hk201 := fJ_oI hM198 hk187
          have hk202 := fI_up hM198 hk188
          have hk203 := fJ_oI hM198 hk189
          have hk204 := fI_ne hM198 (by decide) hk190
          have hk205 := fI_ne hM198 (by decide) hk191
          have hk206 := fI_ne hM198 (by decide) hk192
          have hk207 := fI_ne hM198 (by decide) hk193
          have hk208 := fI_ne hM198 (by decide) hk194
          have hk209 := fI_ne hM198 (by decide) hk195
          have hF210 := fr_sI hF196 hM198 (by decide)
          show Wn _ 231 _ (67, [(0, .ref 78)], [], M197)
          refine Wn.run (tab := tb_tl_readLake) rfl 8 (c' := (84, [(0, .ref 78)], [.int (nI 9), .int (nI 0), .ref 77, .ref 20], M197)) (o := [shp 78 = (0, 6), shp 15 = (0, 8), shp 19 = (0, 5), shp 78 = (0, 6)]) rfl ⟨rfl, rfl, rfl, rfl⟩ ?_
          refine Wn.callV (p := 77) (n := 3) (ix := 99) (ci := (3)) (fun r0 M9 => r0 = some (.int (nI 0)) ∧ M9 = M197) [.int (nI 0), .int (nI 9)] [.ref 20] rfl rfl rfl rfl (Nat.le_of_ble_eq_true rfl) (Nat.le_of_ble_eq_true rfl) (c_rd_takeNumberD _ M197 f2.1 f2.2 hq199 (nI 0) (nI 9)) ?_
          rintro _ M9 ⟨rfl, hsm⟩
          obtain rfl := hsm.symm
          show Wn _ 231 _ (87, [(0, .ref 78)], [.int (nI 0), .ref 20], M197)
          refine Wn.callS (n := 2) (ix := 143) (PF 20 64 (nI 0) M197) [.ref 20, .int (nI 0)] [] rfl rfl rfl (Nat.le_of_ble_eq_true rfl) (Nat.le_of_ble_eq_true rfl) (c_ja_fill _ M197 20 64 (nI 0) rfl (by decide)) ?_
          rintro _ M211 ⟨rfl, hl212, hF213⟩
          show Wn _ 231 _ (90, [(0, .ref 78)], [], M211)
          have hq214 := RdD_fr hF213 (by decide) hq199
          have hk215 := frI_fun hF213 (by decide) hk200
          have hk216 := frJ_fun hF213 (by decide) hk201
          have hk217 := frI_fun hF213 (by decide) hk202
          have hk218 := frJ_fun hF213 (by decide) hk203
          have hk219 := frI_fun hF213 (by decide) hk204
          have hk220 := frI_fun hF213 (by decide) hk206
          have hk221 := frI_fun hF213 (by decide) hk207
          have hk222 := frI_fun hF213 (by decide) hk208
          have hk223 := frI_fun hF213 (by decide) hk209
          have hF224 := fr_tr hF210 hF213 (by decide)
          have e9 : rdLk T L mo p δ ν o ic = .inl f2 := by unfold rdLk; rw [if_neg (fun q9 => q9.elim (fun q8 => h2 (Or.inl q8)) (fun q8 => q8.elim (fun q7 => h2 (Or.inr q7)) h1))]; simp only [hc1, hc2]
          rw [e9]
          exact Wn.vret rfl ⟨rfl, hF224, hq214⟩
        | inr v2 =>
          obtain ⟨x2, p2⟩ := v2
          have bd2 : 2 ≤ x2 ∧ x2 ≤ 8 := by obtain ⟨q1, q2, q3⟩ := tkN_inr hc2; cases q3; exact q2
          refine Wn.callV (p := 77) (n := 3) (ix := 99) (ci := (3)) (PLv M169 T L mo p2 (tAt T L mo p1) (some (.int (nI x2)))) [.int (nI 2), .int (nI 8)] [.ref 16] rfl rfl rfl rfl (Nat.le_of_ble_eq_true rfl) (Nat.le_of_ble_eq_true rfl) (c_rd_takeV _ M169 T L mo p1 (tAt T L mo (tNx T L p)) hq171 2 8 (by omega) (by omega) (x2, p2) hc2) ?_
          rintro _ M225 ⟨rfl, hq226, hF227⟩
          show Wn _ 231 _ (64, [(0, .ref 78)], [.int (nI x2), .ref 16], M225)
          have hk228 := frI_fun hF227 (by decide) hk172
          have hk229 := frJ_fun hF227 (by decide) hk173
          have hk230 := frI_fun hF227 (by decide) hk174
          have hk231 := frJ_fun hF227 (by decide) hk175
          have hk232 := frI_fun hF227 (by decide) hk176
          have hk233 := frI_fun hF227 (by decide) hk177
          have hk234 := frI_fun hF227 (by decide) hk178
          have hk235 := frI_fun hF227 (by decide) hk179
          have hk236 := frI_fun hF227 (by decide) hk180
          have hk237 := frI_fun hF227 (by decide) hk181
          have hF238 := fr_tr hF182 hF227 (by decide)
          refine Wn.run (tab := tb_tl_readLake) rfl 1 (c' := (67, [(0, .ref 78)], [], (mI M225 16 (upd (M225.1 16) 1 (nI x2))))) (o := [shp 16 = (0, 2)]) rfl rfl ?_
          generalize hM240 : (mI M225 16 (upd (M225.1 16) 1 (nI x2))) = M239
          have hq241 := RdL_fr (fr_1I hM240) (by decide) hq226
          have hk242 := fI_ne hM240 (by decide) hk228
          have hk243 := fJ_oI hM240 hk229
          have hk244 := fI_up hM240 hk230
          have hk245 := fJ_oI hM240 hk231
          have hk246 := fI_ne hM240 (by decide) hk232
          have hk247 := fI_ne hM240 (by decide) hk233
          have hk248 := fI_ne hM240 (by decide) hk234
          have hk249 := fI_ne hM240 (by decide) hk235
          have hk250 := fI_ne hM240 (by decide) hk236
          have hk251 := fI_ne hM240 (by decide) hk237
          have hF252 := fr_sI hF238 hM240 (by decide)
          show Wn _ 231 _ (67, [(0, .ref 78)], [], M239)
          refine Wn.run (tab := tb_tl_readLake) rfl 8 (c' := (84, [(0, .ref 78)], [.int (nI 9), .int (nI 0), .ref 77, .ref 20], M239)) (o := [shp 78 = (0, 6), shp 15 = (0, 8), shp 19 = (0, 5), shp 78 = (0, 6)]) rfl ⟨rfl, rfl, rfl, rfl⟩ ?_
          cases hc3 : tkN T L mo p2 0 9 with
          | inl f3 =>
            refine Wn.callV (p := 77) (n := 3) (ix := 99) (ci := (3)) (PFl M239 f3.1 f3.2 (some (.int (nI 0)))) [.int (nI 0), .int (nI 9)] [.ref 20] rfl rfl rfl rfl (Nat.le_of_ble_eq_true rfl) (Nat.le_of_ble_eq_true rfl) (c_rd_takeE _ M239 T L mo p2 (tAt T L mo p1) hq241 0 9 (by omega) (by omega) f3 hc3) ?_
            rintro _ M253 ⟨rfl, hq254, hF255⟩
            show Wn _ 231 _ (87, [(0, .ref 78)], [.int (nI 0), .ref 20], M253)
            have hk256 := frI_fun hF255 (by decide) hk242
            have hk257 := frJ_fun hF255 (by decide) hk243
            have hk258 := frI_fun hF255 (by decide) hk244
            have hk259 := frJ_fun hF255 (by decide) hk245
            have hk260 := frI_fun hF255 (by decide) hk246
            have hk261 := frI_fun hF255 (by decide) hk247
            have hk262 := frI_fun hF255 (by decide) hk248
            have hk263 := frI_fun hF255 (by decide) hk249
            have hk264 := frI_fun hF255 (by decide) hk250
            have hk265 := frI_fun hF255 (by decide) hk251
            have hF266 := fr_tr hF252 hF255 (by decide)
            refine Wn.callS (n := 2) (ix := 143) (PF 20 64 (nI 0) M253) [.ref 20, .int (nI 0)] [] rfl rfl rfl (Nat.le_of_ble_eq_true rfl) (Nat.le_of_ble_eq_true rfl) (c_ja_fill _ M253 20 64 (nI 0) rfl (by decide)) ?_
            rintro _ M267 ⟨rfl, hl268, hF269⟩
            show Wn _ 231 _ (90, [(0, .ref 78)], [], M267)
            have hq270 := RdD_fr hF269 (by decide) hq254
            have hk271 := frI_fun hF269 (by decide) hk256
            have hk272 := frJ_fun hF269 (by decide) hk257
            have hk273 := frI_fun hF269 (by decide) hk258
            have hk274 := frJ_fun hF269 (by decide) hk259
            have hk275 := frI_fun hF269 (by decide) hk260
            have hk276 := frI_fun hF269 (by decide) hk262
            have hk277 := frI_fun hF269 (by decide) hk263
            have hk278 := frI_fun hF269 (by decide) hk264
            have hk279 := frI_fun hF269 (by decide) hk265
            have hF280 := fr_tr hF266 hF269 (by decide)
            have e9 : rdLk T L mo p δ ν o ic = .inl f3 := by unfold rdLk; rw [if_neg (fun q9 => q9.elim (fun q8 => h2 (Or.inl q8)) (fun q8 => q8.elim (fun q7 => h2 (Or.inr q7)) h1))]; simp only [hc1, hc2, hc3]
            rw [e9]
            exact Wn.vret rfl ⟨rfl, hF280, hq270⟩
          | inr v3 =>
            obtain ⟨x3, p3⟩ := v3
            have bd3 : 0 ≤ x3 ∧ x3 ≤ 9 := by obtain ⟨q1, q2, q3⟩ := tkN_inr hc3; cases q3; exact q2
            refine Wn.callV (p := 77) (n := 3) (ix := 99) (ci := (3)) (PLv M239 T L mo p3 (tAt T L mo p2) (some (.int (nI x3)))) [.int (nI 0), .int (nI 9)] [.ref 20] rfl rfl rfl rfl (Nat.le_of_ble_eq_true rfl) (Nat.le_of_ble_eq_true rfl) (c_rd_takeV _ M239 T L mo p2 (tAt T L mo p1) hq241 0 9 (by omega) (by omega) (x3, p3) hc3) ?_
            rintro _ M281 ⟨rfl, hq282, hF283⟩
            show Wn _ 231 _ (87, [(0, .ref 78)], [.int (nI x3), .ref 20], M281)
            have hk284 := frI_fun hF283 (by decide) hk242
            have hk285 := frJ_fun hF283 (by decide) hk243
            have hk286 := frI_fun hF283 (by decide) hk244
            have hk287 := frJ_fun hF283 (by decide) hk245
            have hk288 := frI_fun hF283 (by decide) hk246
            have hk289 := frI_fun hF283 (by decide) hk247
            have hk290 := frI_fun hF283 (by decide) hk248
            have hk291 := frI_fun hF283 (by decide) hk249
            have hk292 := frI_fun hF283 (by decide) hk250
            have hk293 := frI_fun hF283 (by decide) hk251
            have hF294 := fr_tr hF252 hF283 (by decide)
            refine Wn.callS (n := 2) (ix := 143) (PF 20 64 (nI x3) M281) [.ref 20, .int (nI x3)] [] rfl rfl rfl (Nat.le_of_ble_eq_true rfl) (Nat.le_of_ble_eq_true rfl) (c_ja_fill _ M281 20 64 (nI x3) rfl (by decide)) ?_
            rintro _ M295 ⟨rfl, hl296, hF297⟩
            show Wn _ 231 _ (90, [(0, .ref 78)], [], M295)
            have hq298 := RdL_fr hF297 (by decide) hq282
            have hk299 := frI_fun hF297 (by decide) hk284
            have hk300 := frJ_fun hF297 (by decide) hk285
            have hk301 := frI_fun hF297 (by decide) hk286
            have hk302 := frJ_fun hF297 (by decide) hk287
            have hk303 := frI_fun hF297 (by decide) hk288
            have hk304 := frI_fun hF297 (by decide) hk290
            have hk305 := frI_fun hF297 (by decide) hk291
            have hk306 := frI_fun hF297 (by decide) hk292
            have hk307 := frI_fun hF297 (by decide) hk293
            have hF308 := fr_tr hF294 hF297 (by decide)
            have e9 : rdLk T L mo p δ ν o ic = .inr (p3, fz δ x1 x2 x3, ν, o ||| 2 ^ 4, ic) := by unfold rdLk; rw [if_neg (fun q9 => q9.elim (fun q8 => h2 (Or.inl q8)) (fun q8 => q8.elim (fun q7 => h2 (Or.inr q7)) h1))]; simp only [hc1, hc2, hc3]
            rw [e9]
            refine Wn.vret rfl ⟨rfl, hF308, ⟨_, hq298⟩, ?_, ?_⟩
            · unfold CD; rw [hk301, hk302, hk303, hk304, hk305, hk306, hk307]; exact CD_fz hd hl296
            · unfold CF; rw [hk299, hk300]; exact CF_dl (δ := δ) rfl (CF_4 ho5 hf)
    · show Wn _ 231 _ (16, [(0, .ref 78)], [.ref 78, .ref 78], M)
      rw [show (M.1 78 7) = (b2 (¬ ic = 0 ∨ 0 < δ 2)) from (fr_eq ht (show g 7 = (b2 (¬ ic = 0 ∨ 0 < δ 2)) from hf.2.2.2.2.2.1))] at h2
      have h2 := b2_pos h2
      refine Wn.run (tab := tb_tl_readLake) rfl 2 (c' := (21, [(0, .ref 78)], [.int (nI 1), .ref 78, .ref 78], M)) (o := []) rfl trivial ?_
      refine Wn.callV (p := 78) (n := 2) (ix := 95) (ci := (6)) (PFl M 3 (tAt T L mo p) (some (.int (nI 1)))) [.int (nI 1)] [.ref 78] rfl rfl rfl rfl (Nat.le_of_ble_eq_true rfl) (Nat.le_of_ble_eq_true rfl) (c_tl_takeOnce_no _ M T L mo p ta hR) ?_
      rintro _ M309 ⟨rfl, hq310, hF311⟩
      show Wn _ 231 _ (24, [(0, .ref 78)], [.int (nI 1), .ref 78], M309)
      have hk312 := frI_fun hF311 (by decide) ht
      have hk313 := frJ_fun hF311 (by decide) hj
      have hk314 := frI_fun hF311 (by decide) hl
      have hk315 := frJ_fun hF311 (by decide) hJ
      have hk316 := frI_fun hF311 (by decide) hlo
      have hk317 := frI_fun hF311 (by decide) hi
      have hk318 := frI_fun hF311 (by decide) ha
      have hk319 := frI_fun hF311 (by decide) hte
      have hk320 := frI_fun hF311 (by decide) h19
      have hk321 := frI_fun hF311 (by decide) h23
      have hF322 := fr_tr hF hF311 (by decide)
      refine Wn.run (tab := tb_tl_readLake) rfl 1 (c' := (27, [(0, .ref 78)], [], (mI M309 78 (upd (M309.1 78) 2 (nI 1))))) (o := [shp 78 = (0, 6), is01 (nI 1)]) rfl ⟨rfl, (Or.inr rfl)⟩ ?_
      generalize hM324 : (mI M309 78 (upd (M309.1 78) 2 (nI 1))) = M323
      have hq325 := RdD_fr (fr_1I hM324) (by decide) hq310
      have hk326 := fI_up hM324 hk312
      have hk327 := fJ_oI hM324 hk313
      have hk328 := fI_ne hM324 (by decide) hk314
      have hk329 := fJ_oI hM324 hk315
      have hk330 := fI_ne hM324 (by decide) hk316
      have hk331 := fI_ne hM324 (by decide) hk317
      have hk332 := fI_ne hM324 (by decide) hk318
      have hk333 := fI_ne hM324 (by decide) hk319
      have hk334 := fI_ne hM324 (by decide) hk320
      have hk335 := fI_ne hM324 (by decide) hk321
      have hF336 := fr_sI hF322 hM324 (by decide)
      show Wn _ 231 _ (27, [(0, .ref 78)], [], M323)
      refine Wn.run (tab := tb_tl_readLake) rfl 7 (c' := (41, [(0, .ref 78)], [.int (nI 8), .int (nI 2), .ref 77, .ref 16], M323)) (o := [shp 78 = (0, 6), shp 15 = (0, 8), shp 78 = (0, 6)]) rfl ⟨rfl, rfl, rfl⟩ ?_
      refine Wn.callV (p := 77) (n := 3) (ix := 99) (ci := (3)) (fun r0 M9 => r0 = some (.int (nI 2)) ∧ M9 = M323) [.int (nI 2), .int (nI 8)] [.ref 16] rfl rfl rfl rfl (Nat.le_of_ble_eq_true rfl) (Nat.le_of_ble_eq_true rfl) (c_rd_takeNumberD _ M323 3 (tAt T L mo p) hq325 (nI 2) (nI 8)) ?_
      rintro _ M9 ⟨rfl, hsm⟩
      obtain rfl := hsm.symm
      show Wn _ 231 _ (44, [(0, .ref 78)], [.int (nI 2), .ref 16], M323)
      refine Wn.run (tab := tb_tl_readLake) rfl 1 (c' := (47, [(0, .ref 78)], [], (mI M323 16 (upd (M323.1 16) 0 (nI 2))))) (o := [shp 16 = (0, 2)]) rfl rfl ?_
      generalize hM338 : (mI M323 16 (upd (M323.1 16) 0 (nI 2))) = M337
      have hq339 := RdD_fr (fr_1I hM338) (by decide) hq325
      have hk340 := fI_ne hM338 (by decide) hk326
      have hk341 := fJ_oI hM338 hk327
      have hk342 := fI_up hM338 hk328
      have hk343 := fJ_oI hM338 hk329
      have hk344 := fI_ne hM338 (by decide) hk330
      have hk345 := fI_ne hM338 (by decide) hk331
      have hk346 := fI_ne hM338 (by decide) hk332
      have hk347 := fI_ne hM338 (by decide) hk333
      have hk348 := fI_ne hM338 (by decide) hk334
      have hk349 := fI_ne hM338 (by decide) hk335
      have hF350 := fr_sI hF336 hM338 (by decide)
      show Wn _ 231 _ (47, [(0, .ref 78)], [], M337)
      refine Wn.run (tab := tb_tl_readLake) rfl 7 (c' := (61, [(0, .ref 78)], [.int (nI 8), .int (nI 2), .ref 77, .ref 16], M337)) (o := [shp 78 = (0, 6), shp 15 = (0, 8), shp 78 = (0, 6)]) rfl ⟨rfl, rfl, rfl⟩ ?_
      refine Wn.callV (p := 77) (n := 3) (ix := 99) (ci := (3)) (fun r0 M9 => r0 = some (.int (nI 2)) ∧ M9 = M337) [.int (nI 2), .int (nI 8)] [.ref 16] rfl rfl rfl rfl (Nat.le_of_ble_eq_true rfl) (Nat.le_of_ble_eq_true rfl) (c_rd_takeNumberD _ M337 3 (tAt T L mo p) hq339 (nI 2) (nI 8)) ?_
      rintro _ M9 ⟨rfl, hsm⟩
      obtain rfl := hsm.symm
      show Wn _ 231 _ (64, [(0, .ref 78)], [.int (nI 2), .ref 16], M337)
      refine Wn.run (tab := tb_tl_readLake) rfl 1 (c' := (67, [(0, .ref 78)], [], (mI M337 16 (upd (M337.1 16) 1 (nI 2))))) (o := [shp 16 = (0, 2)]) rfl rfl ?_
      generalize hM352 : (mI M337 16 (upd (M337.1 16) 1 (nI 2))) = M351
      have hq353 := RdD_fr (fr_1I hM352) (by decide) hq339
      have hk354 := fI_ne hM352 (by decide) hk340
      have hk355 := fJ_oI hM352 hk341
      have hk356 := fI_up hM352 hk342
      have hk357 := fJ_oI hM352 hk343
      have hk358 := fI_ne hM352 (by decide) hk344
      have hk359 := fI_ne hM352 (by decide) hk345
      have hk360 := fI_ne hM352 (by decide) hk346
      have hk361 := fI_ne hM352 (by decide) hk347
      have hk362 := fI_ne hM352 (by decide) hk348
      have hk363 := fI_ne hM352 (by decide) hk349
      have hF364 := fr_sI hF350 hM352 (by decide)
      show Wn _ 231 _ (67, [(0, .ref 78)], [], M351)
      refine Wn.run (tab := tb_tl_readLake) rfl 8 (c' := (84, [(0, .ref 78)], [.int (nI 9), .int (nI 0), .ref 77, .ref 20], M351)) (o := [shp 78 = (0, 6), shp 15 = (0, 8), shp 19 = (0, 5), shp 78 = (0, 6)]) rfl ⟨rfl, rfl, rfl, rfl⟩ ?_
      refine Wn.callV (p := 77) (n := 3) (ix := 99) (ci := (3)) (fun r0 M9 => r0 = some (.int (nI 0)) ∧ M9 = M351) [.int (nI 0), .int (nI 9)] [.ref 20] rfl rfl rfl rfl (Nat.le_of_ble_eq_true rfl) (Nat.le_of_ble_eq_true rfl) (c_rd_takeNumberD _ M351 3 (tAt T L mo p) hq353 (nI 0) (nI 9)) ?_
      rintro _ M9 ⟨rfl, hsm⟩
      obtain rfl := hsm.symm
      show Wn _ 231 _ (87, [(0, .ref 78)], [.int (nI 0), .ref 20], M351)
      refine Wn.callS (n := 2) (ix := 143) (PF 20 64 (nI 0) M351) [.ref 20, .int (nI 0)] [] rfl rfl rfl (Nat.le_of_ble_eq_true rfl) (Nat.le_of_ble_eq_true rfl) (c_ja_fill _ M351 20 64 (nI 0) rfl (by decide)) ?_
      rintro _ M365 ⟨rfl, hl366, hF367⟩
      show Wn _ 231 _ (90, [(0, .ref 78)], [], M365)
      have hq368 := RdD_fr hF367 (by decide) hq353
      have hk369 := frI_fun hF367 (by decide) hk354
      have hk370 := frJ_fun hF367 (by decide) hk355
      have hk371 := frI_fun hF367 (by decide) hk356
      have hk372 := frJ_fun hF367 (by decide) hk357
      have hk373 := frI_fun hF367 (by decide) hk358
      have hk374 := frI_fun hF367 (by decide) hk360
      have hk375 := frI_fun hF367 (by decide) hk361
      have hk376 := frI_fun hF367 (by decide) hk362
      have hk377 := frI_fun hF367 (by decide) hk363
      have hF378 := fr_tr hF364 hF367 (by decide)
      have e9 : rdLk T L mo p δ ν o ic = .inl (3, tAt T L mo p) := by unfold rdLk; rw [if_pos (h2.elim Or.inl (fun q9 => Or.inr (Or.inl q9)))]
      rw [e9]
      exact Wn.vret rfl ⟨rfl, hF378, hq368⟩
