def rdOn (T : Nat → Nat) (L mo p : Nat) (δ : Nat → Nat) (ν : Nat → Int64) (o : Nat) (ic : Int64) (k to lo hi : Nat) : Flt ⊕ Dst :=
  if o.testBit k = true then .inl (3, tAt T L mo p) else
  match tkN T L mo (tNx T L p) lo hi with
  | .inl f => .inl f
  | .inr (x, p1) => .inr (p1, su δ to x, ν, o ||| 2 ^ k, ic)
def rdRu (T : Nat → Nat) (L mo p : Nat) (δ : Nat → Nat) (ν : Nat → Int64) (o : Nat) (ic : Int64) : Flt ⊕ Dst :=
  if o.testBit 0 = true then .inl (3, tAt T L mo p) else
  match tkN T L mo (tNx T L p) 1 9 with
  | .inl f => .inl f
  | .inr (x, p1) => match tkN T L mo p1 0 3 with
    | .inl f => .inl f
    | .inr (y, p2) => .inr (p2, su (su δ 3 x) 4 y, ν, o ||| 2 ^ 0, ic)
/-- a line of a lake's text -/
def rdLn (T : Nat → Nat) (L mo p : Nat) (δ : Nat → Nat) (ν : Nat → Int64) (o : Nat) (ic : Int64) : Flt ⊕ Dst :=
  if tKd T L mo p = 10 then rdLk T L mo p δ ν o ic else if tKd T L mo p = 11 then rdIc T L mo p δ ν o ic else if tKd T L mo p = 12 then rdPe T L mo p δ ν o ic else if tKd T L mo p = 13 then rdRu T L mo p δ ν o ic
  else if tKd T L mo p = 14 then rdOn T L mo p δ ν o ic 1 5 2 9 else if tKd T L mo p = 15 then rdOn T L mo p δ ν o ic 2 6 1 9 else if tKd T L mo p = 16 then rdOn T L mo p δ ν o ic 3 7 1 30 else .inl (1, tAt T L mo p)
set_option maxRecDepth 20000 in
theorem c_m_readLine_10 (d : Nat) (M : Mm) (g : Nat → Int32) (T : Nat → Nat) (L mo p : Nat) (hg : M.1 114 = g) (hK : TkM M T L mo p) (δ : Nat → Nat) (hh : ∀ k, k < 90 → M.1 117 k = nI (δ k)) (hδ0 : DB δ) (ν : Nat → Int64) (hN : ∀ q, q < δ 2 → M.2.1 119 (6 + q) = ν q) (o : Nat) (ho : g 20 = nI o) (ho5 : o < 32) (ic : Int64) (hic : M.2.1 114 21 = ic) (hv : Rsv M) (hk : tKd T L mo p = 10) : Wn (d + 4) 68 (PRm M g T L mo (rdLk T L mo p δ ν o ic)) (0, lv_args 0 [.ref 114], [], M) := by
  have hF := fr_rf [114, 117, 119] M
  have h6 : ∀ q, q < 6 → M.2.1 119 q = M.2.1 119 q := fun _ _ => rfl
  have kl := tKd_le T L mo p
  obtain ⟨b0, b1, b2_9, bq, bc⟩ := id hδ0
  refine Wn.run (tab := tb_m_readLine) rfl 2 (c' := (4, [(0, .ref 114)], [.long (1818323813 : Int64), .ref 114], M)) (o := []) rfl trivial ?_
  refine Wn.callV (p := 114) (n := 2) (ix := 219) (ci := (10)) (fun r0 M0 => r0 = some (.int (b2 (tKd T L mo p = 10))) ∧ M = M0) [.long (1818323813 : Int64)] [] rfl rfl rfl rfl (Nat.le_of_ble_eq_true rfl) (Nat.le_of_ble_eq_true rfl) (w_m_isWord _ M T L mo p 10 hK (by decide) (by decide) (1818323813 : Int64) (by decide) _ ⟨rfl, rfl⟩) ?_
  rintro _ _ ⟨rfl, rfl⟩
  show Wn _ 68 _ (7, [(0, .ref 114)], [.int (b2 (tKd T L mo p = 10))], M)
  refine Wn.run (tab := tb_m_readLine) rfl 1 (c' := (if (b2 (tKd T L mo p = 10)) = 0 then 15 else 10, [(0, .ref 114)], [], M)) (o := []) rfl trivial ?_
  rw [if_neg (b2_n0.mpr (by omega))]
  show Wn _ 68 _ (10, [(0, .ref 114)], [], M)
  refine Wn.run (tab := tb_m_readLine) rfl 1 (c' := (11, [(0, .ref 114)], [.ref 114], M)) (o := []) rfl trivial ?_
  refine Wn.callV (p := 114) (n := 1) (ix := 223) (ci := (10)) (PRm M g T L mo (rdLk T L mo p δ ν o ic)) [] [] rfl rfl rfl rfl (Nat.le_of_ble_eq_true rfl) (Nat.le_of_ble_eq_true rfl) (c_m_readLake _ M g T L mo p hg hK δ hh hδ0 ν hN o ho ho5 ic hic hv hk) ?_
  intro r0 M9 hres
  cases hq : rdLk T L mo p δ ν o ic with
  | inl f =>
    rw [hq] at hres
    obtain ⟨a1, a2, a3, rfl, a5⟩ := hres
    exact Wn.zret rfl (Or.inl rfl) ⟨a1, a2, a3, rfl, a5⟩
  | inr st =>
    rw [hq] at hres
    obtain ⟨a1, a2, a3, rfl, a5⟩ := hres
    exact Wn.zret rfl (Or.inr rfl) ⟨a1, a2, a3, rfl, a5⟩
set_option maxRecDepth 20000 in
theorem c_m_readLine_11 (d : Nat) (M : Mm) (g : Nat → Int32) (T : Nat → Nat) (L mo p : Nat) (hg : M.1 114 = g) (hK : TkM M T L mo p) (δ : Nat → Nat) (hh : ∀ k, k < 90 → M.1 117 k = nI (δ k)) (hδ0 : DB δ) (ν : Nat → Int64) (hN : ∀ q, q < δ 2 → M.2.1 119 (6 + q) = ν q) (o : Nat) (ho : g 20 = nI o) (ho5 : o < 32) (ic : Int64) (hic : M.2.1 114 21 = ic) (hv : Rsv M) (hk : tKd T L mo p = 11) : Wn (d + 5) 68 (PRm M g T L mo (rdIc T L mo p δ ν o ic)) (0, lv_args 0 [.ref 114], [], M) := by
  have hF := fr_rf [114, 117, 119] M
  have h6 : ∀ q, q < 6 → M.2.1 119 q = M.2.1 119 q := fun _ _ => rfl
  have kl := tKd_le T L mo p
  obtain ⟨b0, b1, b2_9, bq, bc⟩ := id hδ0
  refine Wn.run (tab := tb_m_readLine) rfl 2 (c' := (4, [(0, .ref 114)], [.long (1818323813 : Int64), .ref 114], M)) (o := []) rfl trivial ?_
  refine Wn.callV (p := 114) (n := 2) (ix := 219) (ci := (10)) (fun r0 M0 => r0 = some (.int (b2 (tKd T L mo p = 10))) ∧ M = M0) [.long (1818323813 : Int64)] [] rfl rfl rfl rfl (Nat.le_of_ble_eq_true rfl) (Nat.le_of_ble_eq_true rfl) (w_m_isWord _ M T L mo p 10 hK (by decide) (by decide) (1818323813 : Int64) (by decide) _ ⟨rfl, rfl⟩) ?_
  rintro _ _ ⟨rfl, rfl⟩
  show Wn _ 68 _ (7, [(0, .ref 114)], [.int (b2 (tKd T L mo p = 10))], M)
  refine Wn.run (tab := tb_m_readLine) rfl 1 (c' := (if (b2 (tKd T L mo p = 10)) = 0 then 15 else 10, [(0, .ref 114)], [], M)) (o := []) rfl trivial ?_
  rw [if_pos (b2_e0.mpr (by omega))]
  show Wn _ 68 _ (15, [(0, .ref 114)], [], M)
  refine Wn.run (tab := tb_m_readLine) rfl 2 (c' := (19, [(0, .ref 114)], [.long (6906725 : Int64), .ref 114], M)) (o := []) rfl trivial ?_
  refine Wn.callV (p := 114) (n := 2) (ix := 219) (ci := (10)) (fun r0 M0 => r0 = some (.int (b2 (tKd T L mo p = 11))) ∧ M = M0) [.long (6906725 : Int64)] [] rfl rfl rfl rfl (Nat.le_of_ble_eq_true rfl) (Nat.le_of_ble_eq_true rfl) (w_m_isWord _ M T L mo p 11 hK (by decide) (by decide) (6906725 : Int64) (by decide) _ ⟨rfl, rfl⟩) ?_
  rintro _ _ ⟨rfl, rfl⟩
  show Wn _ 68 _ (22, [(0, .ref 114)], [.int (b2 (tKd T L mo p = 11))], M)
  refine Wn.run (tab := tb_m_readLine) rfl 1 (c' := (if (b2 (tKd T L mo p = 11)) = 0 then 30 else 25, [(0, .ref 114)], [], M)) (o := []) rfl trivial ?_
  rw [if_neg (b2_n0.mpr (by omega))]
  show Wn _ 68 _ (25, [(0, .ref 114)], [], M)
  refine Wn.run (tab := tb_m_readLine) rfl 1 (c' := (26, [(0, .ref 114)], [.ref 114], M)) (o := []) rfl trivial ?_
  refine Wn.callV (p := 114) (n := 1) (ix := 226) (ci := (10)) (PRm M g T L mo (rdIc T L mo p δ ν o ic)) [] [] rfl rfl rfl rfl (Nat.le_of_ble_eq_true rfl) (Nat.le_of_ble_eq_true rfl) (c_m_readIce _ M g T L mo p hg hK δ hh hδ0 ν hN o ho ho5 ic hic hv hk) ?_
  intro r0 M9 hres
  cases hq : rdIc T L mo p δ ν o ic with
  | inl f =>
    rw [hq] at hres
    obtain ⟨a1, a2, a3, rfl, a5⟩ := hres
    exact Wn.zret rfl (Or.inl rfl) ⟨a1, a2, a3, rfl, a5⟩
  | inr st =>
    rw [hq] at hres
    obtain ⟨a1, a2, a3, rfl, a5⟩ := hres
    exact Wn.zret rfl (Or.inr rfl) ⟨a1, a2, a3, rfl, a5⟩
set_option maxRecDepth 20000 in
theorem c_m_readLine_12 (d : Nat) (M : Mm) (g : Nat → Int32) (T : Nat → Nat) (L mo p : Nat) (hg : M.1 114 = g) (hK : TkM M T L mo p) (δ : Nat → Nat) (hh : ∀ k, k < 90 → M.1 117 k = nI (δ k)) (hδ0 : DB δ) (ν : Nat → Int64) (hN : ∀ q, q < δ 2 → M.2.1 119 (6 + q) = ν q) (o : Nat) (ho : g 20 = nI o) (ho5 : o < 32) (ic : Int64) (hic : M.2.1 114 21 = ic) (hv : Rsv M) (hk : tKd T L mo p = 12) : Wn (d + 5) 68 (PRm M g T L mo (rdPe T L mo p δ ν o ic)) (0, lv_args 0 [.ref 114], [], M) := by
  have hF := fr_rf [114, 117, 119] M
  have h6 : ∀ q, q < 6 → M.2.1 119 q = M.2.1 119 q := fun _ _ => rfl
  have kl := tKd_le T L mo p
  obtain ⟨b0, b1, b2_9, bq, bc⟩ := id hδ0
  refine Wn.run (tab := tb_m_readLine) rfl 2 (c' := (4, [(0, .ref 114)], [.long (1818323813 : Int64), .ref 114], M)) (o := []) rfl trivial ?_
  refine Wn.callV (p := 114) (n := 2) (ix := 219) (ci := (10)) (fun r0 M0 => r0 = some (.int (b2 (tKd T L mo p = 10))) ∧ M = M0) [.long (1818323813 : Int64)] [] rfl rfl rfl rfl (Nat.le_of_ble_eq_true rfl) (Nat.le_of_ble_eq_true rfl) (w_m_isWord _ M T L mo p 10 hK (by decide) (by decide) (1818323813 : Int64) (by decide) _ ⟨rfl, rfl⟩) ?_
  rintro _ _ ⟨rfl, rfl⟩
  show Wn _ 68 _ (7, [(0, .ref 114)], [.int (b2 (tKd T L mo p = 10))], M)
  refine Wn.run (tab := tb_m_readLine) rfl 1 (c' := (if (b2 (tKd T L mo p = 10)) = 0 then 15 else 10, [(0, .ref 114)], [], M)) (o := []) rfl trivial ?_
  rw [if_pos (b2_e0.mpr (by omega))]
  show Wn _ 68 _ (15, [(0, .ref 114)], [], M)
  refine Wn.run (tab := tb_m_readLine) rfl 2 (c' := (19, [(0, .ref 114)], [.long (6906725 : Int64), .ref 114], M)) (o := []) rfl trivial ?_
  refine Wn.callV (p := 114) (n := 2) (ix := 219) (ci := (10)) (fun r0 M0 => r0 = some (.int (b2 (tKd T L mo p = 11))) ∧ M = M0) [.long (6906725 : Int64)] [] rfl rfl rfl rfl (Nat.le_of_ble_eq_true rfl) (Nat.le_of_ble_eq_true rfl) (w_m_isWord _ M T L mo p 11 hK (by decide) (by decide) (6906725 : Int64) (by decide) _ ⟨rfl, rfl⟩) ?_
  rintro _ _ ⟨rfl, rfl⟩
  show Wn _ 68 _ (22, [(0, .ref 114)], [.int (b2 (tKd T L mo p = 11))], M)
  refine Wn.run (tab := tb_m_readLine) rfl 1 (c' := (if (b2 (tKd T L mo p = 11)) = 0 then 30 else 25, [(0, .ref 114)], [], M)) (o := []) rfl trivial ?_
  rw [if_pos (b2_e0.mpr (by omega))]
  show Wn _ 68 _ (30, [(0, .ref 114)], [], M)
  refine Wn.run (tab := tb_m_readLine) rfl 2 (c' := (34, [(0, .ref 114)], [.long (123581014175598 : Int64), .ref 114], M)) (o := []) rfl trivial ?_
  refine Wn.callV (p := 114) (n := 2) (ix := 219) (ci := (10)) (fun r0 M0 => r0 = some (.int (b2 (tKd T L mo p = 12))) ∧ M = M0) [.long (123581014175598 : Int64)] [] rfl rfl rfl rfl (Nat.le_of_ble_eq_true rfl) (Nat.le_of_ble_eq_true rfl) (w_m_isWord _ M T L mo p 12 hK (by decide) (by decide) (123581014175598 : Int64) (by decide) _ ⟨rfl, rfl⟩) ?_
  rintro _ _ ⟨rfl, rfl⟩
  show Wn _ 68 _ (37, [(0, .ref 114)], [.int (b2 (tKd T L mo p = 12))], M)
  refine Wn.run (tab := tb_m_readLine) rfl 1 (c' := (if (b2 (tKd T L mo p = 12)) = 0 then 45 else 40, [(0, .ref 114)], [], M)) (o := []) rfl trivial ?_
  rw [if_neg (b2_n0.mpr (by omega))]
  show Wn _ 68 _ (40, [(0, .ref 114)], [], M)
  refine Wn.run (tab := tb_m_readLine) rfl 1 (c' := (41, [(0, .ref 114)], [.ref 114], M)) (o := []) rfl trivial ?_
  refine Wn.callV (p := 114) (n := 1) (ix := 229) (ci := (10)) (PRm M g T L mo (rdPe T L mo p δ ν o ic)) [] [] rfl rfl rfl rfl (Nat.le_of_ble_eq_true rfl) (Nat.le_of_ble_eq_true rfl) (c_m_readPerson _ M g T L mo p hg hK δ hh hδ0 ν hN o ho ho5 ic hic hv hk) ?_
  intro r0 M9 hres
  cases hq : rdPe T L mo p δ ν o ic with
  | inl f =>
    rw [hq] at hres
    obtain ⟨a1, a2, a3, rfl, a5⟩ := hres
    exact Wn.zret rfl (Or.inl rfl) ⟨a1, a2, a3, rfl, a5⟩
  | inr st =>
    rw [hq] at hres
    obtain ⟨a1, a2, a3, rfl, a5⟩ := hres
    exact Wn.zret rfl (Or.inr rfl) ⟨a1, a2, a3, rfl, a5⟩
set_option maxRecDepth 20000 in
theorem c_m_readLine_13 (d : Nat) (M : Mm) (g : Nat → Int32) (T : Nat → Nat) (L mo p : Nat) (hg : M.1 114 = g) (hK : TkM M T L mo p) (δ : Nat → Nat) (hh : ∀ k, k < 90 → M.1 117 k = nI (δ k)) (hδ0 : DB δ) (ν : Nat → Int64) (hN : ∀ q, q < δ 2 → M.2.1 119 (6 + q) = ν q) (o : Nat) (ho : g 20 = nI o) (ho5 : o < 32) (ic : Int64) (hic : M.2.1 114 21 = ic) (hv : Rsv M) (hk : tKd T L mo p = 13) : Wn (d + 4) 68 (PRm M g T L mo (rdRu T L mo p δ ν o ic)) (0, lv_args 0 [.ref 114], [], M) := by
  have hF := fr_rf [114, 117, 119] M
  have h6 : ∀ q, q < 6 → M.2.1 119 q = M.2.1 119 q := fun _ _ => rfl
  have kl := tKd_le T L mo p
  obtain ⟨b0, b1, b2_9, bq, bc⟩ := id hδ0
  refine Wn.run (tab := tb_m_readLine) rfl 2 (c' := (4, [(0, .ref 114)], [.long (1818323813 : Int64), .ref 114], M)) (o := []) rfl trivial ?_
  refine Wn.callV (p := 114) (n := 2) (ix := 219) (ci := (10)) (fun r0 M0 => r0 = some (.int (b2 (tKd T L mo p = 10))) ∧ M = M0) [.long (1818323813 : Int64)] [] rfl rfl rfl rfl (Nat.le_of_ble_eq_true rfl) (Nat.le_of_ble_eq_true rfl) (w_m_isWord _ M T L mo p 10 hK (by decide) (by decide) (1818323813 : Int64) (by decide) _ ⟨rfl, rfl⟩) ?_
  rintro _ _ ⟨rfl, rfl⟩
  show Wn _ 68 _ (7, [(0, .ref 114)], [.int (b2 (tKd T L mo p = 10))], M)
  refine Wn.run (tab := tb_m_readLine) rfl 1 (c' := (if (b2 (tKd T L mo p = 10)) = 0 then 15 else 10, [(0, .ref 114)], [], M)) (o := []) rfl trivial ?_
  rw [if_pos (b2_e0.mpr (by omega))]
  show Wn _ 68 _ (15, [(0, .ref 114)], [], M)
  refine Wn.run (tab := tb_m_readLine) rfl 2 (c' := (19, [(0, .ref 114)], [.long (6906725 : Int64), .ref 114], M)) (o := []) rfl trivial ?_
  refine Wn.callV (p := 114) (n := 2) (ix := 219) (ci := (10)) (fun r0 M0 => r0 = some (.int (b2 (tKd T L mo p = 11))) ∧ M = M0) [.long (6906725 : Int64)] [] rfl rfl rfl rfl (Nat.le_of_ble_eq_true rfl) (Nat.le_of_ble_eq_true rfl) (w_m_isWord _ M T L mo p 11 hK (by decide) (by decide) (6906725 : Int64) (by decide) _ ⟨rfl, rfl⟩) ?_
  rintro _ _ ⟨rfl, rfl⟩
  show Wn _ 68 _ (22, [(0, .ref 114)], [.int (b2 (tKd T L mo p = 11))], M)
  refine Wn.run (tab := tb_m_readLine) rfl 1 (c' := (if (b2 (tKd T L mo p = 11)) = 0 then 30 else 25, [(0, .ref 114)], [], M)) (o := []) rfl trivial ?_
  rw [if_pos (b2_e0.mpr (by omega))]
  show Wn _ 68 _ (30, [(0, .ref 114)], [], M)
  refine Wn.run (tab := tb_m_readLine) rfl 2 (c' := (34, [(0, .ref 114)], [.long (123581014175598 : Int64), .ref 114], M)) (o := []) rfl trivial ?_
  refine Wn.callV (p := 114) (n := 2) (ix := 219) (ci := (10)) (fun r0 M0 => r0 = some (.int (b2 (tKd T L mo p = 12))) ∧ M = M0) [.long (123581014175598 : Int64)] [] rfl rfl rfl rfl (Nat.le_of_ble_eq_true rfl) (Nat.le_of_ble_eq_true rfl) (w_m_isWord _ M T L mo p 12 hK (by decide) (by decide) (123581014175598 : Int64) (by decide) _ ⟨rfl, rfl⟩) ?_
  rintro _ _ ⟨rfl, rfl⟩
  show Wn _ 68 _ (37, [(0, .ref 114)], [.int (b2 (tKd T L mo p = 12))], M)
  refine Wn.run (tab := tb_m_readLine) rfl 1 (c' := (if (b2 (tKd T L mo p = 12)) = 0 then 45 else 40, [(0, .ref 114)], [], M)) (o := []) rfl trivial ?_
  rw [if_pos (b2_e0.mpr (by omega))]
  show Wn _ 68 _ (45, [(0, .ref 114)], [], M)
  refine Wn.run (tab := tb_m_readLine) rfl 2 (c' := (49, [(0, .ref 114)], [.long (1920296037 : Int64), .ref 114], M)) (o := []) rfl trivial ?_
  refine Wn.callV (p := 114) (n := 2) (ix := 219) (ci := (10)) (fun r0 M0 => r0 = some (.int (b2 (tKd T L mo p = 13))) ∧ M = M0) [.long (1920296037 : Int64)] [] rfl rfl rfl rfl (Nat.le_of_ble_eq_true rfl) (Nat.le_of_ble_eq_true rfl) (w_m_isWord _ M T L mo p 13 hK (by decide) (by decide) (1920296037 : Int64) (by decide) _ ⟨rfl, rfl⟩) ?_
  rintro _ _ ⟨rfl, rfl⟩
  show Wn _ 68 _ (52, [(0, .ref 114)], [.int (b2 (tKd T L mo p = 13))], M)
  refine Wn.run (tab := tb_m_readLine) rfl 1 (c' := (if (b2 (tKd T L mo p = 13)) = 0 then 90 else 55, [(0, .ref 114)], [], M)) (o := []) rfl trivial ?_
  rw [if_neg (b2_n0.mpr (by omega))]
  show Wn _ 68 _ (55, [(0, .ref 114)], [], M)
  refine Wn.run (tab := tb_m_readLine) rfl 2 (c' := (57, [(0, .ref 114)], [.int (nI 0), .ref 114], M)) (o := []) rfl trivial ?_
  by_cases hb1 : o.testBit 0 = true
  · refine Wn.callV (p := 114) (n := 2) (ix := 232) (ci := (10)) (PFm M g 3 (tAt T L mo p) (some (.int (nI 0)))) [.int (nI 0)] [] rfl rfl rfl rfl (Nat.le_of_ble_eq_true rfl) (Nat.le_of_ble_eq_true rfl) (c_m_once_no _ M g T L mo p hg hK o 0 ho (by omega) (by omega) hb1) ?_
    rintro _ M5 ⟨rfl, h151, h162, hx3, hF4⟩
    show Wn _ 68 _ (60, [(0, .ref 114)], [.int (nI 0)], M5)
    obtain ⟨g6, hg7⟩ : ∃ g9, M5.1 114 = g9 := ⟨_, rfl⟩
    have hx8 := hx3
    rw [hg7] at hx8
    have hf9 : g6 15 = nI 3 := by rw [← hg7]; exact h151
    have hf10 : g6 16 = nI (tAt T L mo p) := by rw [← hg7]; exact h162
    have hk11 := fr_row hF4 (by decide) hh
    have h612 := n6_fr hF4 (by decide) h6
    have hn13 := nf_fr hF4 (by decide) hN
    have hF14 := fr_tr hF hF4 (by decide)
    refine Wn.run (tab := tb_m_readLine) rfl 1 (c' := (if (nI 0) = 0 then 88 else 63, [(0, .ref 114)], [], M5)) (o := []) rfl trivial ?_
    rw [if_pos (show (nI 0) = 0 by decide)]
    show Wn _ 68 _ (88, [(0, .ref 114)], [], M5)
    refine Wn.run (tab := tb_m_readLine) rfl 1 (c' := (89, [(0, .ref 114)], [.int (nI 0)], M5)) (o := []) rfl trivial ?_
    have e9 : rdRu T L mo p δ ν o ic = .inl (3, tAt T L mo p) := by unfold rdRu; rw [if_pos hb1]
    rw [e9]
    exact Wn.zret rfl (Or.inl rfl) ⟨by rw [hg7]; exact (Gx_tr (Gx_rf _ _) (Gx_mono hx8 (by decide))), hF14, h612, rfl, by rw [hg7]; exact hf9, by rw [hg7]; exact hf10⟩
  · have hnb := hb1
    refine Wn.callV (p := 114) (n := 2) (ix := 232) (ci := (10)) (PO1 M g T L mo (tNx T L p) (o ||| 2 ^ 0)) [.int (nI 0)] [] rfl rfl rfl rfl (Nat.le_of_ble_eq_true rfl) (Nat.le_of_ble_eq_true rfl) (c_m_once_ok _ M g T L mo p hg hK o 0 ho (by omega) (by omega) hb1 (by omega) (by omega)) ?_
    rintro _ M20 ⟨rfl, ht15, h2016, hx17, hj18, hF19⟩
    show Wn _ 68 _ (60, [(0, .ref 114)], [.int (nI 1)], M20)
    obtain ⟨g21, hg22⟩ : ∃ g9, M20.1 114 = g9 := ⟨_, rfl⟩
    have hx23 := hx17
    rw [hg22] at hx23
    have hf24 : g21 18 = (g 18) := (hx23 18 (by decide)).trans (show g 18 = (g 18) from rfl)
    have hf25 : g21 15 = (g 15) := (hx23 15 (by decide)).trans (show g 15 = (g 15) from rfl)
    have hf26 : g21 20 = nI (o ||| 2 ^ 0) := by rw [← hg22]; exact h2016
    have hk27 := fr_row hF19 (by decide) hh
    have hi28 := (hj18 21 (by decide)).trans hic
    have h629 := n6_fr hF19 (by decide) h6
    have hn30 := nf_fr hF19 (by decide) hN
    have hv31 := rv_fr hF19 (by decide) hv
    have hF32 := fr_tr hF hF19 (by decide)
    refine Wn.run (tab := tb_m_readLine) rfl 1 (c' := (if (nI 1) = 0 then 88 else 63, [(0, .ref 114)], [], M20)) (o := []) rfl trivial ?_
    rw [if_neg (show ¬ ((nI 1) = 0) by decide)]
    show Wn _ 68 _ (63, [(0, .ref 114)], [], M20)
    refine Wn.run (tab := tb_m_readLine) rfl 4 (c' := (68, [(0, .ref 114)], [.int (nI 9), .int (nI 1), .int (nI 3), .ref 114], M20)) (o := []) rfl trivial ?_
    cases hc2 : tkN T L mo (tNx T L p) 1 9 with
    | inl f2 =>
      refine Wn.callV (p := 114) (n := 4) (ix := 235) (ci := (10)) (PFm M20 g21 f2.1 f2.2 (some (.int (nI 0)))) [.int (nI 3), .int (nI 1), .int (nI 9)] [] rfl rfl rfl rfl (Nat.le_of_ble_eq_true rfl) (Nat.le_of_ble_eq_true rfl) (c_m_putsE _ M20 g21 T L mo (tNx T L p) hg22 ht15 δ hk27 3 1 9 (by omega) (by omega) (by omega) f2 hc2) ?_
      rintro _ M37 ⟨rfl, h1533, h1634, hx35, hF36⟩
      show Wn _ 68 _ (71, [(0, .ref 114)], [.int (nI 0)], M37)
      obtain ⟨g38, hg39⟩ : ∃ g9, M37.1 114 = g9 := ⟨_, rfl⟩
      have hx40 := hx35
      rw [hg39] at hx40
      have hf41 : g38 15 = nI f2.1 := by rw [← hg39]; exact h1533
      have hf42 : g38 16 = nI f2.2 := by rw [← hg39]; exact h1634
      have hk43 := fr_row hF36 (by decide) hk27
      have h644 := n6_fr hF36 (by decide) h629
      have hn45 := nf_fr hF36 (by decide) hn30
      have hF46 := fr_tr hF32 hF36 (by decide)
      refine Wn.run (tab := tb_m_readLine) rfl 1 (c' := (if (nI 0) = 0 then 88 else 74, [(0, .ref 114)], [], M37)) (o := []) rfl trivial ?_
      rw [if_pos (show (nI 0) = 0 by decide)]
      show Wn _ 68 _ (88, [(0, .ref 114)], [], M37)
      refine Wn.run (tab := tb_m_readLine) rfl 1 (c' := (89, [(0, .ref 114)], [.int (nI 0)], M37)) (o := []) rfl trivial ?_
      have e9 : rdRu T L mo p δ ν o ic = .inl f2 := by unfold rdRu; rw [if_neg hb1]; simp only [hc2]
      rw [e9]
      exact Wn.zret rfl (Or.inl rfl) ⟨by rw [hg39]; exact (Gx_tr (Gx_tr (Gx_rf _ _) (Gx_mono hx23 (by decide))) (Gx_mono hx40 (by decide))), hF46, h644, rfl, by rw [hg39]; exact hf41, by rw [hg39]; exact hf42⟩
    | inr v2 =>
      obtain ⟨x2, p2⟩ := v2
      refine Wn.callV (p := 114) (n := 4) (ix := 235) (ci := (10)) (PPt M20 g21 T L mo p2 (su δ 3 x2)) [.int (nI 3), .int (nI 1), .int (nI 9)] [] rfl rfl rfl rfl (Nat.le_of_ble_eq_true rfl) (Nat.le_of_ble_eq_true rfl) (c_m_putsV _ M20 g21 T L mo (tNx T L p) hg22 ht15 δ hk27 3 1 9 (by omega) (by omega) (by omega) x2 p2 hc2) ?_
      rintro _ M52 ⟨rfl, ht47, hr48, hx49, hj50, hF51⟩
      show Wn _ 68 _ (71, [(0, .ref 114)], [.int (nI 1)], M52)
      obtain ⟨g53, hg54⟩ : ∃ g9, M52.1 114 = g9 := ⟨_, rfl⟩
      have hx55 := hx49
      rw [hg54] at hx55
      have hf56 : g53 20 = (nI (o ||| 2 ^ 0)) := (hx55 20 (by decide)).trans (show g21 20 = (nI (o ||| 2 ^ 0)) from hf26)
      have hf57 : g53 15 = (g 15) := (hx55 15 (by decide)).trans (show g21 15 = (g 15) from hf25)
      have hi58 := (hj50 21 (by decide)).trans hi28
      have h659 := n6_fr hF51 (by decide) h629
      have hn60 := nf_fr hF51 (by decide) hn30
      have hv61 := rv_fr hF51 (by decide) hv31
      have hF62 := fr_tr hF32 hF51 (by decide)
      have bd2 : 1 ≤ x2 ∧ x2 ≤ 9 := by obtain ⟨q1, q2, q3⟩ := tkN_inr hc2; cases q3; exact q2
      have kl2 := tKd_le T L mo p2
      refine Wn.run (tab := tb_m_readLine) rfl 1 (c' := (if (nI 1) = 0 then 88 else 74, [(0, .ref 114)], [], M52)) (o := []) rfl trivial ?_
      rw [if_neg (show ¬ ((nI 1) = 0) by decide)]
      show Wn _ 68 _ (74, [(0, .ref 114)], [], M52)
      refine Wn.run (tab := tb_m_readLine) rfl 4 (c' := (78, [(0, .ref 114)], [.int (nI 3), .int (nI 0), .int (nI 4), .ref 114], M52)) (o := []) rfl trivial ?_
      cases hc3 : tkN T L mo p2 0 3 with
      | inl f3 =>
        refine Wn.callV (p := 114) (n := 4) (ix := 235) (ci := (10)) (PFm M52 g53 f3.1 f3.2 (some (.int (nI 0)))) [.int (nI 4), .int (nI 0), .int (nI 3)] [] rfl rfl rfl rfl (Nat.le_of_ble_eq_true rfl) (Nat.le_of_ble_eq_true rfl) (c_m_putsE _ M52 g53 T L mo p2 hg54 ht47 (su δ 3 x2) hr48 4 0 3 (by omega) (by omega) (by omega) f3 hc3) ?_
        rintro _ M67 ⟨rfl, h1563, h1664, hx65, hF66⟩
        show Wn _ 68 _ (81, [(0, .ref 114)], [.int (nI 0)], M67)
        obtain ⟨g68, hg69⟩ : ∃ g9, M67.1 114 = g9 := ⟨_, rfl⟩
        have hx70 := hx65
        rw [hg69] at hx70
        have hf71 : g68 15 = nI f3.1 := by rw [← hg69]; exact h1563
        have hf72 : g68 16 = nI f3.2 := by rw [← hg69]; exact h1664
        have hk73 := fr_row hF66 (by decide) hr48
        have h674 := n6_fr hF66 (by decide) h659
        have hn75 := nf_fr hF66 (by decide) hn60
        have hF76 := fr_tr hF62 hF66 (by decide)
        refine Wn.run (tab := tb_m_readLine) rfl 1 (c' := (if (nI 0) = 0 then 88 else 84, [(0, .ref 114)], [], M67)) (o := []) rfl trivial ?_
        rw [if_pos (show (nI 0) = 0 by decide)]
        show Wn _ 68 _ (88, [(0, .ref 114)], [], M67)
        refine Wn.run (tab := tb_m_readLine) rfl 1 (c' := (89, [(0, .ref 114)], [.int (nI 0)], M67)) (o := []) rfl trivial ?_
        have e9 : rdRu T L mo p δ ν o ic = .inl f3 := by unfold rdRu; rw [if_neg hb1]; simp only [hc2, hc3]
        rw [e9]
        exact Wn.zret rfl (Or.inl rfl) ⟨by rw [hg69]; exact (Gx_tr (Gx_tr (Gx_tr (Gx_rf _ _) (Gx_mono hx23 (by decide))) (Gx_mono hx55 (by decide))) (Gx_mono hx70 (by decide))), hF76, h674, rfl, by rw [hg69]; exact hf71, by rw [hg69]; exact hf72⟩
      | inr v3 =>
        obtain ⟨x3, p3⟩ := v3
        refine Wn.callV (p := 114) (n := 4) (ix := 235) (ci := (10)) (PPt M52 g53 T L mo p3 (su (su δ 3 x2) 4 x3)) [.int (nI 4), .int (nI 0), .int (nI 3)] [] rfl rfl rfl rfl (Nat.le_of_ble_eq_true rfl) (Nat.le_of_ble_eq_true rfl) (c_m_putsV _ M52 g53 T L mo p2 hg54 ht47 (su δ 3 x2) hr48 4 0 3 (by omega) (by omega) (by omega) x3 p3 hc3) ?_
        rintro _ M82 ⟨rfl, ht77, hr78, hx79, hj80, hF81⟩
        show Wn _ 68 _ (81, [(0, .ref 114)], [.int (nI 1)], M82)
        obtain ⟨g83, hg84⟩ : ∃ g9, M82.1 114 = g9 := ⟨_, rfl⟩
        have hx85 := hx79
        rw [hg84] at hx85
        have hf86 : g83 20 = (nI (o ||| 2 ^ 0)) := (hx85 20 (by decide)).trans (show g53 20 = (nI (o ||| 2 ^ 0)) from hf56)
        have hf87 : g83 15 = (g 15) := (hx85 15 (by decide)).trans (show g53 15 = (g 15) from hf57)
        have hi88 := (hj80 21 (by decide)).trans hi58
        have h689 := n6_fr hF81 (by decide) h659
        have hn90 := nf_fr hF81 (by decide) hn60
        have hv91 := rv_fr hF81 (by decide) hv61
        have hF92 := fr_tr hF62 hF81 (by decide)
        have bd3 : 0 ≤ x3 ∧ x3 ≤ 3 := by obtain ⟨q1, q2, q3⟩ := tkN_inr hc3; cases q3; exact q2
        have kl3 := tKd_le T L mo p3
        refine Wn.run (tab := tb_m_readLine) rfl 1 (c' := (if (nI 1) = 0 then 88 else 84, [(0, .ref 114)], [], M82)) (o := []) rfl trivial ?_
        rw [if_neg (show ¬ ((nI 1) = 0) by decide)]
        show Wn _ 68 _ (84, [(0, .ref 114)], [], M82)
        refine Wn.run (tab := tb_m_readLine) rfl 2 (c' := (89, [(0, .ref 114)], [.int (nI 1)], M82)) (o := []) rfl trivial ?_
        have e9 : rdRu T L mo p δ ν o ic = .inr (p3, (su (su δ 3 x2) 4 x3), ν, (o ||| 2 ^ 0), ic) := by unfold rdRu; rw [if_neg hb1]; simp only [hc2, hc3]
        rw [e9]
        exact Wn.zret rfl (Or.inr rfl) ⟨by rw [hg84]; exact (Gx_tr (Gx_tr (Gx_tr (Gx_rf _ _) (Gx_mono hx23 (by decide))) (Gx_mono hx55 (by decide))) (Gx_mono hx85 (by decide))), hF92, h689, rfl, ht77, hr78, hn90, by rw [hg84]; exact hf86, hi88, by rw [hg84]; exact hf87⟩
set_option maxRecDepth 20000 in
theorem c_m_readLine_14 (d : Nat) (M : Mm) (g : Nat → Int32) (T : Nat → Nat) (L mo p : Nat) (hg : M.1 114 = g) (hK : TkM M T L mo p) (δ : Nat → Nat) (hh : ∀ k, k < 90 → M.1 117 k = nI (δ k)) (hδ0 : DB δ) (ν : Nat → Int64) (hN : ∀ q, q < δ 2 → M.2.1 119 (6 + q) = ν q) (o : Nat) (ho : g 20 = nI o) (ho5 : o < 32) (ic : Int64) (hic : M.2.1 114 21 = ic) (hv : Rsv M) (hk : tKd T L mo p = 14) : Wn (d + 4) 68 (PRm M g T L mo (rdOn T L mo p δ ν o ic 1 5 2 9)) (0, lv_args 0 [.ref 114], [], M) := by
  have hF := fr_rf [114, 117, 119] M
  have h6 : ∀ q, q < 6 → M.2.1 119 q = M.2.1 119 q := fun _ _ => rfl
  have kl := tKd_le T L mo p
  obtain ⟨b0, b1, b2_9, bq, bc⟩ := id hδ0
  refine Wn.run (tab := tb_m_readLine) rfl 2 (c' := (4, [(0, .ref 114)], [.long (1818323813 : Int64), .ref 114], M)) (o := []) rfl trivial ?_
  refine Wn.callV (p := 114) (n := 2) (ix := 219) (ci := (10)) (fun r0 M0 => r0 = some (.int (b2 (tKd T L mo p = 10))) ∧ M = M0) [.long (1818323813 : Int64)] [] rfl rfl rfl rfl (Nat.le_of_ble_eq_true rfl) (Nat.le_of_ble_eq_true rfl) (w_m_isWord _ M T L mo p 10 hK (by decide) (by decide) (1818323813 : Int64) (by decide) _ ⟨rfl, rfl⟩) ?_
  rintro _ _ ⟨rfl, rfl⟩
  show Wn _ 68 _ (7, [(0, .ref 114)], [.int (b2 (tKd T L mo p = 10))], M)
  refine Wn.run (tab := tb_m_readLine) rfl 1 (c' := (if (b2 (tKd T L mo p = 10)) = 0 then 15 else 10, [(0, .ref 114)], [], M)) (o := []) rfl trivial ?_
  rw [if_pos (b2_e0.mpr (by omega))]
  show Wn _ 68 _ (15, [(0, .ref 114)], [], M)
  refine Wn.run (tab := tb_m_readLine) rfl 2 (c' := (19, [(0, .ref 114)], [.long (6906725 : Int64), .ref 114], M)) (o := []) rfl trivial ?_
  refine Wn.callV (p := 114) (n := 2) (ix := 219) (ci := (10)) (fun r0 M0 => r0 = some (.int (b2 (tKd T L mo p = 11))) ∧ M = M0) [.long (6906725 : Int64)] [] rfl rfl rfl rfl (Nat.le_of_ble_eq_true rfl) (Nat.le_of_ble_eq_true rfl) (w_m_isWord _ M T L mo p 11 hK (by decide) (by decide) (6906725 : Int64) (by decide) _ ⟨rfl, rfl⟩) ?_
  rintro _ _ ⟨rfl, rfl⟩
  show Wn _ 68 _ (22, [(0, .ref 114)], [.int (b2 (tKd T L mo p = 11))], M)
  refine Wn.run (tab := tb_m_readLine) rfl 1 (c' := (if (b2 (tKd T L mo p = 11)) = 0 then 30 else 25, [(0, .ref 114)], [], M)) (o := []) rfl trivial ?_
  rw [if_pos (b2_e0.mpr (by omega))]
  show Wn _ 68 _ (30, [(0, .ref 114)], [], M)
  refine Wn.run (tab := tb_m_readLine) rfl 2 (c' := (34, [(0, .ref 114)], [.long (123581014175598 : Int64), .ref 114], M)) (o := []) rfl trivial ?_
  refine Wn.callV (p := 114) (n := 2) (ix := 219) (ci := (10)) (fun r0 M0 => r0 = some (.int (b2 (tKd T L mo p = 12))) ∧ M = M0) [.long (123581014175598 : Int64)] [] rfl rfl rfl rfl (Nat.le_of_ble_eq_true rfl) (Nat.le_of_ble_eq_true rfl) (w_m_isWord _ M T L mo p 12 hK (by decide) (by decide) (123581014175598 : Int64) (by decide) _ ⟨rfl, rfl⟩) ?_
  rintro _ _ ⟨rfl, rfl⟩
  show Wn _ 68 _ (37, [(0, .ref 114)], [.int (b2 (tKd T L mo p = 12))], M)
  refine Wn.run (tab := tb_m_readLine) rfl 1 (c' := (if (b2 (tKd T L mo p = 12)) = 0 then 45 else 40, [(0, .ref 114)], [], M)) (o := []) rfl trivial ?_
  rw [if_pos (b2_e0.mpr (by omega))]
  show Wn _ 68 _ (45, [(0, .ref 114)], [], M)
  refine Wn.run (tab := tb_m_readLine) rfl 2 (c' := (49, [(0, .ref 114)], [.long (1920296037 : Int64), .ref 114], M)) (o := []) rfl trivial ?_
  refine Wn.callV (p := 114) (n := 2) (ix := 219) (ci := (10)) (fun r0 M0 => r0 = some (.int (b2 (tKd T L mo p = 13))) ∧ M = M0) [.long (1920296037 : Int64)] [] rfl rfl rfl rfl (Nat.le_of_ble_eq_true rfl) (Nat.le_of_ble_eq_true rfl) (w_m_isWord _ M T L mo p 13 hK (by decide) (by decide) (1920296037 : Int64) (by decide) _ ⟨rfl, rfl⟩) ?_
  rintro _ _ ⟨rfl, rfl⟩
  show Wn _ 68 _ (52, [(0, .ref 114)], [.int (b2 (tKd T L mo p = 13))], M)
  refine Wn.run (tab := tb_m_readLine) rfl 1 (c' := (if (b2 (tKd T L mo p = 13)) = 0 then 90 else 55, [(0, .ref 114)], [], M)) (o := []) rfl trivial ?_
  rw [if_pos (b2_e0.mpr (by omega))]
  show Wn _ 68 _ (90, [(0, .ref 114)], [], M)
  refine Wn.run (tab := tb_m_readLine) rfl 2 (c' := (94, [(0, .ref 114)], [.long (427121668979 : Int64), .ref 114], M)) (o := []) rfl trivial ?_
  refine Wn.callV (p := 114) (n := 2) (ix := 219) (ci := (10)) (fun r0 M0 => r0 = some (.int (b2 (tKd T L mo p = 14))) ∧ M = M0) [.long (427121668979 : Int64)] [] rfl rfl rfl rfl (Nat.le_of_ble_eq_true rfl) (Nat.le_of_ble_eq_true rfl) (w_m_isWord _ M T L mo p 14 hK (by decide) (by decide) (427121668979 : Int64) (by decide) _ ⟨rfl, rfl⟩) ?_
  rintro _ _ ⟨rfl, rfl⟩
  show Wn _ 68 _ (97, [(0, .ref 114)], [.int (b2 (tKd T L mo p = 14))], M)
  refine Wn.run (tab := tb_m_readLine) rfl 1 (c' := (if (b2 (tKd T L mo p = 14)) = 0 then 125 else 100, [(0, .ref 114)], [], M)) (o := []) rfl trivial ?_
  rw [if_neg (b2_n0.mpr (by omega))]
  show Wn _ 68 _ (100, [(0, .ref 114)], [], M)
  refine Wn.run (tab := tb_m_readLine) rfl 2 (c' := (102, [(0, .ref 114)], [.int (nI 1), .ref 114], M)) (o := []) rfl trivial ?_
  by_cases hb1 : o.testBit 1 = true
  · refine Wn.callV (p := 114) (n := 2) (ix := 232) (ci := (10)) (PFm M g 3 (tAt T L mo p) (some (.int (nI 0)))) [.int (nI 1)] [] rfl rfl rfl rfl (Nat.le_of_ble_eq_true rfl) (Nat.le_of_ble_eq_true rfl) (c_m_once_no _ M g T L mo p hg hK o 1 ho (by omega) (by omega) hb1) ?_
    rintro _ M5 ⟨rfl, h151, h162, hx3, hF4⟩
    show Wn _ 68 _ (105, [(0, .ref 114)], [.int (nI 0)], M5)
    obtain ⟨g6, hg7⟩ : ∃ g9, M5.1 114 = g9 := ⟨_, rfl⟩
    have hx8 := hx3
    rw [hg7] at hx8
    have hf9 : g6 15 = nI 3 := by rw [← hg7]; exact h151
    have hf10 : g6 16 = nI (tAt T L mo p) := by rw [← hg7]; exact h162
    have hk11 := fr_row hF4 (by decide) hh
    have h612 := n6_fr hF4 (by decide) h6
    have hn13 := nf_fr hF4 (by decide) hN
    have hF14 := fr_tr hF hF4 (by decide)
    refine Wn.run (tab := tb_m_readLine) rfl 1 (c' := (if (nI 0) = 0 then 123 else 108, [(0, .ref 114)], [], M5)) (o := []) rfl trivial ?_
    rw [if_pos (show (nI 0) = 0 by decide)]
    show Wn _ 68 _ (123, [(0, .ref 114)], [], M5)
    refine Wn.run (tab := tb_m_readLine) rfl 1 (c' := (124, [(0, .ref 114)], [.int (nI 0)], M5)) (o := []) rfl trivial ?_
    have e9 : rdOn T L mo p δ ν o ic 1 5 2 9 = .inl (3, tAt T L mo p) := by unfold rdOn; rw [if_pos hb1]
    rw [e9]
    exact Wn.zret rfl (Or.inl rfl) ⟨by rw [hg7]; exact (Gx_tr (Gx_rf _ _) (Gx_mono hx8 (by decide))), hF14, h612, rfl, by rw [hg7]; exact hf9, by rw [hg7]; exact hf10⟩
  · have hnb := hb1
    refine Wn.callV (p := 114) (n := 2) (ix := 232) (ci := (10)) (PO1 M g T L mo (tNx T L p) (o ||| 2 ^ 1)) [.int (nI 1)] [] rfl rfl rfl rfl (Nat.le_of_ble_eq_true rfl) (Nat.le_of_ble_eq_true rfl) (c_m_once_ok _ M g T L mo p hg hK o 1 ho (by omega) (by omega) hb1 (by omega) (by omega)) ?_
    rintro _ M20 ⟨rfl, ht15, h2016, hx17, hj18, hF19⟩
    show Wn _ 68 _ (105, [(0, .ref 114)], [.int (nI 1)], M20)
    obtain ⟨g21, hg22⟩ : ∃ g9, M20.1 114 = g9 := ⟨_, rfl⟩
    have hx23 := hx17
    rw [hg22] at hx23
    have hf24 : g21 18 = (g 18) := (hx23 18 (by decide)).trans (show g 18 = (g 18) from rfl)
    have hf25 : g21 15 = (g 15) := (hx23 15 (by decide)).trans (show g 15 = (g 15) from rfl)
    have hf26 : g21 20 = nI (o ||| 2 ^ 1) := by rw [← hg22]; exact h2016
    have hk27 := fr_row hF19 (by decide) hh
    have hi28 := (hj18 21 (by decide)).trans hic
    have h629 := n6_fr hF19 (by decide) h6
    have hn30 := nf_fr hF19 (by decide) hN
    have hv31 := rv_fr hF19 (by decide) hv
    have hF32 := fr_tr hF hF19 (by decide)
    refine Wn.run (tab := tb_m_readLine) rfl 1 (c' := (if (nI 1) = 0 then 123 else 108, [(0, .ref 114)], [], M20)) (o := []) rfl trivial ?_
    rw [if_neg (show ¬ ((nI 1) = 0) by decide)]
    show Wn _ 68 _ (108, [(0, .ref 114)], [], M20)
    refine Wn.run (tab := tb_m_readLine) rfl 4 (c' := (113, [(0, .ref 114)], [.int (nI 9), .int (nI 2), .int (nI 5), .ref 114], M20)) (o := []) rfl trivial ?_
    cases hc2 : tkN T L mo (tNx T L p) 2 9 with
    | inl f2 =>
      refine Wn.callV (p := 114) (n := 4) (ix := 235) (ci := (10)) (PFm M20 g21 f2.1 f2.2 (some (.int (nI 0)))) [.int (nI 5), .int (nI 2), .int (nI 9)] [] rfl rfl rfl rfl (Nat.le_of_ble_eq_true rfl) (Nat.le_of_ble_eq_true rfl) (c_m_putsE _ M20 g21 T L mo (tNx T L p) hg22 ht15 δ hk27 5 2 9 (by omega) (by omega) (by omega) f2 hc2) ?_
      rintro _ M37 ⟨rfl, h1533, h1634, hx35, hF36⟩
      show Wn _ 68 _ (116, [(0, .ref 114)], [.int (nI 0)], M37)
      obtain ⟨g38, hg39⟩ : ∃ g9, M37.1 114 = g9 := ⟨_, rfl⟩
      have hx40 := hx35
      rw [hg39] at hx40
      have hf41 : g38 15 = nI f2.1 := by rw [← hg39]; exact h1533
      have hf42 : g38 16 = nI f2.2 := by rw [← hg39]; exact h1634
      have hk43 := fr_row hF36 (by decide) hk27
      have h644 := n6_fr hF36 (by decide) h629
      have hn45 := nf_fr hF36 (by decide) hn30
      have hF46 := fr_tr hF32 hF36 (by decide)
      refine Wn.run (tab := tb_m_readLine) rfl 1 (c' := (if (nI 0) = 0 then 123 else 119, [(0, .ref 114)], [], M37)) (o := []) rfl trivial ?_
      rw [if_pos (show (nI 0) = 0 by decide)]
      show Wn _ 68 _ (123, [(0, .ref 114)], [], M37)
      refine Wn.run (tab := tb_m_readLine) rfl 1 (c' := (124, [(0, .ref 114)], [.int (nI 0)], M37)) (o := []) rfl trivial ?_
      have e9 : rdOn T L mo p δ ν o ic 1 5 2 9 = .inl f2 := by unfold rdOn; rw [if_neg hb1]; simp only [hc2]
      rw [e9]
      exact Wn.zret rfl (Or.inl rfl) ⟨by rw [hg39]; exact (Gx_tr (Gx_tr (Gx_rf _ _) (Gx_mono hx23 (by decide))) (Gx_mono hx40 (by decide))), hF46, h644, rfl, by rw [hg39]; exact hf41, by rw [hg39]; exact hf42⟩
    | inr v2 =>
      obtain ⟨x2, p2⟩ := v2
      refine Wn.callV (p := 114) (n := 4) (ix := 235) (ci := (10)) (PPt M20 g21 T L mo p2 (su δ 5 x2)) [.int (nI 5), .int (nI 2), .int (nI 9)] [] rfl rfl rfl rfl (Nat.le_of_ble_eq_true rfl) (Nat.le_of_ble_eq_true rfl) (c_m_putsV _ M20 g21 T L mo (tNx T L p) hg22 ht15 δ hk27 5 2 9 (by omega) (by omega) (by omega) x2 p2 hc2) ?_
      rintro _ M52 ⟨rfl, ht47, hr48, hx49, hj50, hF51⟩
      show Wn _ 68 _ (116, [(0, .ref 114)], [.int (nI 1)], M52)
      obtain ⟨g53, hg54⟩ : ∃ g9, M52.1 114 = g9 := ⟨_, rfl⟩
      have hx55 := hx49
      rw [hg54] at hx55
      have hf56 : g53 20 = (nI (o ||| 2 ^ 1)) := (hx55 20 (by decide)).trans (show g21 20 = (nI (o ||| 2 ^ 1)) from hf26)
      have hf57 : g53 15 = (g 15) := (hx55 15 (by decide)).trans (show g21 15 = (g 15) from hf25)
      have hi58 := (hj50 21 (by decide)).trans hi28
      have h659 := n6_fr hF51 (by decide) h629
      have hn60 := nf_fr hF51 (by decide) hn30
      have hv61 := rv_fr hF51 (by decide) hv31
      have hF62 := fr_tr hF32 hF51 (by decide)
      have bd2 : 2 ≤ x2 ∧ x2 ≤ 9 := by obtain ⟨q1, q2, q3⟩ := tkN_inr hc2; cases q3; exact q2
      have kl2 := tKd_le T L mo p2
      refine Wn.run (tab := tb_m_readLine) rfl 1 (c' := (if (nI 1) = 0 then 123 else 119, [(0, .ref 114)], [], M52)) (o := []) rfl trivial ?_
      rw [if_neg (show ¬ ((nI 1) = 0) by decide)]
      show Wn _ 68 _ (119, [(0, .ref 114)], [], M52)
      refine Wn.run (tab := tb_m_readLine) rfl 2 (c' := (124, [(0, .ref 114)], [.int (nI 1)], M52)) (o := []) rfl trivial ?_
      have e9 : rdOn T L mo p δ ν o ic 1 5 2 9 = .inr (p2, (su δ 5 x2), ν, (o ||| 2 ^ 1), ic) := by unfold rdOn; rw [if_neg hb1]; simp only [hc2]
      rw [e9]
      exact Wn.zret rfl (Or.inr rfl) ⟨by rw [hg54]; exact (Gx_tr (Gx_tr (Gx_rf _ _) (Gx_mono hx23 (by decide))) (Gx_mono hx55 (by decide))), hF62, h659, rfl, ht47, hr48, hn60, by rw [hg54]; exact hf56, hi58, by rw [hg54]; exact hf57⟩
set_option maxRecDepth 20000 in
theorem c_m_readLine_15 (d : Nat) (M : Mm) (g : Nat → Int32) (T : Nat → Nat) (L mo p : Nat) (hg : M.1 114 = g) (hK : TkM M T L mo p) (δ : Nat → Nat) (hh : ∀ k, k < 90 → M.1 117 k = nI (δ k)) (hδ0 : DB δ) (ν : Nat → Int64) (hN : ∀ q, q < δ 2 → M.2.1 119 (6 + q) = ν q) (o : Nat) (ho : g 20 = nI o) (ho5 : o < 32) (ic : Int64) (hic : M.2.1 114 21 = ic) (hv : Rsv M) (hk : tKd T L mo p = 15) : Wn (d + 4) 68 (PRm M g T L mo (rdOn T L mo p δ ν o ic 2 6 1 9)) (0, lv_args 0 [.ref 114], [], M) := by
  have hF := fr_rf [114, 117, 119] M
  have h6 : ∀ q, q < 6 → M.2.1 119 q = M.2.1 119 q := fun _ _ => rfl
  have kl := tKd_le T L mo p
  obtain ⟨b0, b1, b2_9, bq, bc⟩ := id hδ0
  refine Wn.run (tab := tb_m_readLine) rfl 2 (c' := (4, [(0, .ref 114)], [.long (1818323813 : Int64), .ref 114], M)) (o := []) rfl trivial ?_
  refine Wn.callV (p := 114) (n := 2) (ix := 219) (ci := (10)) (fun r0 M0 => r0 = some (.int (b2 (tKd T L mo p = 10))) ∧ M = M0) [.long (1818323813 : Int64)] [] rfl rfl rfl rfl (Nat.le_of_ble_eq_true rfl) (Nat.le_of_ble_eq_true rfl) (w_m_isWord _ M T L mo p 10 hK (by decide) (by decide) (1818323813 : Int64) (by decide) _ ⟨rfl, rfl⟩) ?_
  rintro _ _ ⟨rfl, rfl⟩
  show Wn _ 68 _ (7, [(0, .ref 114)], [.int (b2 (tKd T L mo p = 10))], M)
  refine Wn.run (tab := tb_m_readLine) rfl 1 (c' := (if (b2 (tKd T L mo p = 10)) = 0 then 15 else 10, [(0, .ref 114)], [], M)) (o := []) rfl trivial ?_
  rw [if_pos (b2_e0.mpr (by omega))]
  show Wn _ 68 _ (15, [(0, .ref 114)], [], M)
  refine Wn.run (tab := tb_m_readLine) rfl 2 (c' := (19, [(0, .ref 114)], [.long (6906725 : Int64), .ref 114], M)) (o := []) rfl trivial ?_
  refine Wn.callV (p := 114) (n := 2) (ix := 219) (ci := (10)) (fun r0 M0 => r0 = some (.int (b2 (tKd T L mo p = 11))) ∧ M = M0) [.long (6906725 : Int64)] [] rfl rfl rfl rfl (Nat.le_of_ble_eq_true rfl) (Nat.le_of_ble_eq_true rfl) (w_m_isWord _ M T L mo p 11 hK (by decide) (by decide) (6906725 : Int64) (by decide) _ ⟨rfl, rfl⟩) ?_
  rintro _ _ ⟨rfl, rfl⟩
  show Wn _ 68 _ (22, [(0, .ref 114)], [.int (b2 (tKd T L mo p = 11))], M)
  refine Wn.run (tab := tb_m_readLine) rfl 1 (c' := (if (b2 (tKd T L mo p = 11)) = 0 then 30 else 25, [(0, .ref 114)], [], M)) (o := []) rfl trivial ?_
  rw [if_pos (b2_e0.mpr (by omega))]
  show Wn _ 68 _ (30, [(0, .ref 114)], [], M)
  refine Wn.run (tab := tb_m_readLine) rfl 2 (c' := (34, [(0, .ref 114)], [.long (123581014175598 : Int64), .ref 114], M)) (o := []) rfl trivial ?_
  refine Wn.callV (p := 114) (n := 2) (ix := 219) (ci := (10)) (fun r0 M0 => r0 = some (.int (b2 (tKd T L mo p = 12))) ∧ M = M0) [.long (123581014175598 : Int64)] [] rfl rfl rfl rfl (Nat.le_of_ble_eq_true rfl) (Nat.le_of_ble_eq_true rfl) (w_m_isWord _ M T L mo p 12 hK (by decide) (by decide) (123581014175598 : Int64) (by decide) _ ⟨rfl, rfl⟩) ?_
  rintro _ _ ⟨rfl, rfl⟩
  show Wn _ 68 _ (37, [(0, .ref 114)], [.int (b2 (tKd T L mo p = 12))], M)
  refine Wn.run (tab := tb_m_readLine) rfl 1 (c' := (if (b2 (tKd T L mo p = 12)) = 0 then 45 else 40, [(0, .ref 114)], [], M)) (o := []) rfl trivial ?_
  rw [if_pos (b2_e0.mpr (by omega))]
  show Wn _ 68 _ (45, [(0, .ref 114)], [], M)
  refine Wn.run (tab := tb_m_readLine) rfl 2 (c' := (49, [(0, .ref 114)], [.long (1920296037 : Int64), .ref 114], M)) (o := []) rfl trivial ?_
  refine Wn.callV (p := 114) (n := 2) (ix := 219) (ci := (10)) (fun r0 M0 => r0 = some (.int (b2 (tKd T L mo p = 13))) ∧ M = M0) [.long (1920296037 : Int64)] [] rfl rfl rfl rfl (Nat.le_of_ble_eq_true rfl) (Nat.le_of_ble_eq_true rfl) (w_m_isWord _ M T L mo p 13 hK (by decide) (by decide) (1920296037 : Int64) (by decide) _ ⟨rfl, rfl⟩) ?_
  rintro _ _ ⟨rfl, rfl⟩
  show Wn _ 68 _ (52, [(0, .ref 114)], [.int (b2 (tKd T L mo p = 13))], M)
  refine Wn.run (tab := tb_m_readLine) rfl 1 (c' := (if (b2 (tKd T L mo p = 13)) = 0 then 90 else 55, [(0, .ref 114)], [], M)) (o := []) rfl trivial ?_
  rw [if_pos (b2_e0.mpr (by omega))]
  show Wn _ 68 _ (90, [(0, .ref 114)], [], M)
  refine Wn.run (tab := tb_m_readLine) rfl 2 (c' := (94, [(0, .ref 114)], [.long (427121668979 : Int64), .ref 114], M)) (o := []) rfl trivial ?_
  refine Wn.callV (p := 114) (n := 2) (ix := 219) (ci := (10)) (fun r0 M0 => r0 = some (.int (b2 (tKd T L mo p = 14))) ∧ M = M0) [.long (427121668979 : Int64)] [] rfl rfl rfl rfl (Nat.le_of_ble_eq_true rfl) (Nat.le_of_ble_eq_true rfl) (w_m_isWord _ M T L mo p 14 hK (by decide) (by decide) (427121668979 : Int64) (by decide) _ ⟨rfl, rfl⟩) ?_
  rintro _ _ ⟨rfl, rfl⟩
  show Wn _ 68 _ (97, [(0, .ref 114)], [.int (b2 (tKd T L mo p = 14))], M)
  refine Wn.run (tab := tb_m_readLine) rfl 1 (c' := (if (b2 (tKd T L mo p = 14)) = 0 then 125 else 100, [(0, .ref 114)], [], M)) (o := []) rfl trivial ?_
  rw [if_pos (b2_e0.mpr (by omega))]
  show Wn _ 68 _ (125, [(0, .ref 114)], [], M)
  refine Wn.run (tab := tb_m_readLine) rfl 2 (c' := (129, [(0, .ref 114)], [.long (114827769704311 : Int64), .ref 114], M)) (o := []) rfl trivial ?_
  refine Wn.callV (p := 114) (n := 2) (ix := 219) (ci := (10)) (fun r0 M0 => r0 = some (.int (b2 (tKd T L mo p = 15))) ∧ M = M0) [.long (114827769704311 : Int64)] [] rfl rfl rfl rfl (Nat.le_of_ble_eq_true rfl) (Nat.le_of_ble_eq_true rfl) (w_m_isWord _ M T L mo p 15 hK (by decide) (by decide) (114827769704311 : Int64) (by decide) _ ⟨rfl, rfl⟩) ?_
  rintro _ _ ⟨rfl, rfl⟩
  show Wn _ 68 _ (132, [(0, .ref 114)], [.int (b2 (tKd T L mo p = 15))], M)
  refine Wn.run (tab := tb_m_readLine) rfl 1 (c' := (if (b2 (tKd T L mo p = 15)) = 0 then 161 else 135, [(0, .ref 114)], [], M)) (o := []) rfl trivial ?_
  rw [if_neg (b2_n0.mpr (by omega))]
  show Wn _ 68 _ (135, [(0, .ref 114)], [], M)
  refine Wn.run (tab := tb_m_readLine) rfl 2 (c' := (137, [(0, .ref 114)], [.int (nI 2), .ref 114], M)) (o := []) rfl trivial ?_
  by_cases hb1 : o.testBit 2 = true
  · refine Wn.callV (p := 114) (n := 2) (ix := 232) (ci := (10)) (PFm M g 3 (tAt T L mo p) (some (.int (nI 0)))) [.int (nI 2)] [] rfl rfl rfl rfl (Nat.le_of_ble_eq_true rfl) (Nat.le_of_ble_eq_true rfl) (c_m_once_no _ M g T L mo p hg hK o 2 ho (by omega) (by omega) hb1) ?_
    rintro _ M5 ⟨rfl, h151, h162, hx3, hF4⟩
    show Wn _ 68 _ (140, [(0, .ref 114)], [.int (nI 0)], M5)
    obtain ⟨g6, hg7⟩ : ∃ g9, M5.1 114 = g9 := ⟨_, rfl⟩
    have hx8 := hx3
    rw [hg7] at hx8
    have hf9 : g6 15 = nI 3 := by rw [← hg7]; exact h151
    have hf10 : g6 16 = nI (tAt T L mo p) := by rw [← hg7]; exact h162
    have hk11 := fr_row hF4 (by decide) hh
    have h612 := n6_fr hF4 (by decide) h6
    have hn13 := nf_fr hF4 (by decide) hN
    have hF14 := fr_tr hF hF4 (by decide)
    refine Wn.run (tab := tb_m_readLine) rfl 1 (c' := (if (nI 0) = 0 then 159 else 143, [(0, .ref 114)], [], M5)) (o := []) rfl trivial ?_
    rw [if_pos (show (nI 0) = 0 by decide)]
    show Wn _ 68 _ (159, [(0, .ref 114)], [], M5)
    refine Wn.run (tab := tb_m_readLine) rfl 1 (c' := (160, [(0, .ref 114)], [.int (nI 0)], M5)) (o := []) rfl trivial ?_
    have e9 : rdOn T L mo p δ ν o ic 2 6 1 9 = .inl (3, tAt T L mo p) := by unfold rdOn; rw [if_pos hb1]
    rw [e9]
    exact Wn.zret rfl (Or.inl rfl) ⟨by rw [hg7]; exact (Gx_tr (Gx_rf _ _) (Gx_mono hx8 (by decide))), hF14, h612, rfl, by rw [hg7]; exact hf9, by rw [hg7]; exact hf10⟩
  · have hnb := hb1
    refine Wn.callV (p := 114) (n := 2) (ix := 232) (ci := (10)) (PO1 M g T L mo (tNx T L p) (o ||| 2 ^ 2)) [.int (nI 2)] [] rfl rfl rfl rfl (Nat.le_of_ble_eq_true rfl) (Nat.le_of_ble_eq_true rfl) (c_m_once_ok _ M g T L mo p hg hK o 2 ho (by omega) (by omega) hb1 (by omega) (by omega)) ?_
    rintro _ M20 ⟨rfl, ht15, h2016, hx17, hj18, hF19⟩
    show Wn _ 68 _ (140, [(0, .ref 114)], [.int (nI 1)], M20)
    obtain ⟨g21, hg22⟩ : ∃ g9, M20.1 114 = g9 := ⟨_, rfl⟩
    have hx23 := hx17
    rw [hg22] at hx23
    have hf24 : g21 18 = (g 18) := (hx23 18 (by decide)).trans (show g 18 = (g 18) from rfl)
    have hf25 : g21 15 = (g 15) := (hx23 15 (by decide)).trans (show g 15 = (g 15) from rfl)
    have hf26 : g21 20 = nI (o ||| 2 ^ 2) := by rw [← hg22]; exact h2016
    have hk27 := fr_row hF19 (by decide) hh
    have hi28 := (hj18 21 (by decide)).trans hic
    have h629 := n6_fr hF19 (by decide) h6
    have hn30 := nf_fr hF19 (by decide) hN
    have hv31 := rv_fr hF19 (by decide) hv
    have hF32 := fr_tr hF hF19 (by decide)
    refine Wn.run (tab := tb_m_readLine) rfl 1 (c' := (if (nI 1) = 0 then 159 else 143, [(0, .ref 114)], [], M20)) (o := []) rfl trivial ?_
    rw [if_neg (show ¬ ((nI 1) = 0) by decide)]
    show Wn _ 68 _ (143, [(0, .ref 114)], [], M20)
    refine Wn.run (tab := tb_m_readLine) rfl 4 (c' := (149, [(0, .ref 114)], [.int (nI 9), .int (nI 1), .int (nI 6), .ref 114], M20)) (o := []) rfl trivial ?_
    cases hc2 : tkN T L mo (tNx T L p) 1 9 with
    | inl f2 =>
      refine Wn.callV (p := 114) (n := 4) (ix := 235) (ci := (10)) (PFm M20 g21 f2.1 f2.2 (some (.int (nI 0)))) [.int (nI 6), .int (nI 1), .int (nI 9)] [] rfl rfl rfl rfl (Nat.le_of_ble_eq_true rfl) (Nat.le_of_ble_eq_true rfl) (c_m_putsE _ M20 g21 T L mo (tNx T L p) hg22 ht15 δ hk27 6 1 9 (by omega) (by omega) (by omega) f2 hc2) ?_
      rintro _ M37 ⟨rfl, h1533, h1634, hx35, hF36⟩
      show Wn _ 68 _ (152, [(0, .ref 114)], [.int (nI 0)], M37)
      obtain ⟨g38, hg39⟩ : ∃ g9, M37.1 114 = g9 := ⟨_, rfl⟩
      have hx40 := hx35
      rw [hg39] at hx40
      have hf41 : g38 15 = nI f2.1 := by rw [← hg39]; exact h1533
      have hf42 : g38 16 = nI f2.2 := by rw [← hg39]; exact h1634
      have hk43 := fr_row hF36 (by decide) hk27
      have h644 := n6_fr hF36 (by decide) h629
      have hn45 := nf_fr hF36 (by decide) hn30
      have hF46 := fr_tr hF32 hF36 (by decide)
      refine Wn.run (tab := tb_m_readLine) rfl 1 (c' := (if (nI 0) = 0 then 159 else 155, [(0, .ref 114)], [], M37)) (o := []) rfl trivial ?_
      rw [if_pos (show (nI 0) = 0 by decide)]
      show Wn _ 68 _ (159, [(0, .ref 114)], [], M37)
      refine Wn.run (tab := tb_m_readLine) rfl 1 (c' := (160, [(0, .ref 114)], [.int (nI 0)], M37)) (o := []) rfl trivial ?_
      have e9 : rdOn T L mo p δ ν o ic 2 6 1 9 = .inl f2 := by unfold rdOn; rw [if_neg hb1]; simp only [hc2]
      rw [e9]
      exact Wn.zret rfl (Or.inl rfl) ⟨by rw [hg39]; exact (Gx_tr (Gx_tr (Gx_rf _ _) (Gx_mono hx23 (by decide))) (Gx_mono hx40 (by decide))), hF46, h644, rfl, by rw [hg39]; exact hf41, by rw [hg39]; exact hf42⟩
    | inr v2 =>
      obtain ⟨x2, p2⟩ := v2
      refine Wn.callV (p := 114) (n := 4) (ix := 235) (ci := (10)) (PPt M20 g21 T L mo p2 (su δ 6 x2)) [.int (nI 6), .int (nI 1), .int (nI 9)] [] rfl rfl rfl rfl (Nat.le_of_ble_eq_true rfl) (Nat.le_of_ble_eq_true rfl) (c_m_putsV _ M20 g21 T L mo (tNx T L p) hg22 ht15 δ hk27 6 1 9 (by omega) (by omega) (by omega) x2 p2 hc2) ?_
      rintro _ M52 ⟨rfl, ht47, hr48, hx49, hj50, hF51⟩
      show Wn _ 68 _ (152, [(0, .ref 114)], [.int (nI 1)], M52)
      obtain ⟨g53, hg54⟩ : ∃ g9, M52.1 114 = g9 := ⟨_, rfl⟩
      have hx55 := hx49
      rw [hg54] at hx55
      have hf56 : g53 20 = (nI (o ||| 2 ^ 2)) := (hx55 20 (by decide)).trans (show g21 20 = (nI (o ||| 2 ^ 2)) from hf26)
      have hf57 : g53 15 = (g 15) := (hx55 15 (by decide)).trans (show g21 15 = (g 15) from hf25)
      have hi58 := (hj50 21 (by decide)).trans hi28
      have h659 := n6_fr hF51 (by decide) h629
      have hn60 := nf_fr hF51 (by decide) hn30
      have hv61 := rv_fr hF51 (by decide) hv31
      have hF62 := fr_tr hF32 hF51 (by decide)
      have bd2 : 1 ≤ x2 ∧ x2 ≤ 9 := by obtain ⟨q1, q2, q3⟩ := tkN_inr hc2; cases q3; exact q2
      have kl2 := tKd_le T L mo p2
      refine Wn.run (tab := tb_m_readLine) rfl 1 (c' := (if (nI 1) = 0 then 159 else 155, [(0, .ref 114)], [], M52)) (o := []) rfl trivial ?_
      rw [if_neg (show ¬ ((nI 1) = 0) by decide)]
      show Wn _ 68 _ (155, [(0, .ref 114)], [], M52)
      refine Wn.run (tab := tb_m_readLine) rfl 2 (c' := (160, [(0, .ref 114)], [.int (nI 1)], M52)) (o := []) rfl trivial ?_
      have e9 : rdOn T L mo p δ ν o ic 2 6 1 9 = .inr (p2, (su δ 6 x2), ν, (o ||| 2 ^ 2), ic) := by unfold rdOn; rw [if_neg hb1]; simp only [hc2]
      rw [e9]
      exact Wn.zret rfl (Or.inr rfl) ⟨by rw [hg54]; exact (Gx_tr (Gx_tr (Gx_rf _ _) (Gx_mono hx23 (by decide))) (Gx_mono hx55 (by decide))), hF62, h659, rfl, ht47, hr48, hn60, by rw [hg54]; exact hf56, hi58, by rw [hg54]; exact hf57⟩
set_option maxRecDepth 20000 in
theorem c_m_readLine_16 (d : Nat) (M : Mm) (g : Nat → Int32) (T : Nat → Nat) (L mo p : Nat) (hg : M.1 114 = g) (hK : TkM M T L mo p) (δ : Nat → Nat) (hh : ∀ k, k < 90 → M.1 117 k = nI (δ k)) (hδ0 : DB δ) (ν : Nat → Int64) (hN : ∀ q, q < δ 2 → M.2.1 119 (6 + q) = ν q) (o : Nat) (ho : g 20 = nI o) (ho5 : o < 32) (ic : Int64) (hic : M.2.1 114 21 = ic) (hv : Rsv M) (hk : tKd T L mo p = 16) : Wn (d + 4) 68 (PRm M g T L mo (rdOn T L mo p δ ν o ic 3 7 1 30)) (0, lv_args 0 [.ref 114], [], M) := by
  have hF := fr_rf [114, 117, 119] M
  have h6 : ∀ q, q < 6 → M.2.1 119 q = M.2.1 119 q := fun _ _ => rfl
  have kl := tKd_le T L mo p
  obtain ⟨b0, b1, b2_9, bq, bc⟩ := id hδ0
  refine Wn.run (tab := tb_m_readLine) rfl 2 (c' := (4, [(0, .ref 114)], [.long (1818323813 : Int64), .ref 114], M)) (o := []) rfl trivial ?_
  refine Wn.callV (p := 114) (n := 2) (ix := 219) (ci := (10)) (fun r0 M0 => r0 = some (.int (b2 (tKd T L mo p = 10))) ∧ M = M0) [.long (1818323813 : Int64)] [] rfl rfl rfl rfl (Nat.le_of_ble_eq_true rfl) (Nat.le_of_ble_eq_true rfl) (w_m_isWord _ M T L mo p 10 hK (by decide) (by decide) (1818323813 : Int64) (by decide) _ ⟨rfl, rfl⟩) ?_
  rintro _ _ ⟨rfl, rfl⟩
  show Wn _ 68 _ (7, [(0, .ref 114)], [.int (b2 (tKd T L mo p = 10))], M)
  refine Wn.run (tab := tb_m_readLine) rfl 1 (c' := (if (b2 (tKd T L mo p = 10)) = 0 then 15 else 10, [(0, .ref 114)], [], M)) (o := []) rfl trivial ?_
  rw [if_pos (b2_e0.mpr (by omega))]
  show Wn _ 68 _ (15, [(0, .ref 114)], [], M)
  refine Wn.run (tab := tb_m_readLine) rfl 2 (c' := (19, [(0, .ref 114)], [.long (6906725 : Int64), .ref 114], M)) (o := []) rfl trivial ?_
  refine Wn.callV (p := 114) (n := 2) (ix := 219) (ci := (10)) (fun r0 M0 => r0 = some (.int (b2 (tKd T L mo p = 11))) ∧ M = M0) [.long (6906725 : Int64)] [] rfl rfl rfl rfl (Nat.le_of_ble_eq_true rfl) (Nat.le_of_ble_eq_true rfl) (w_m_isWord _ M T L mo p 11 hK (by decide) (by decide) (6906725 : Int64) (by decide) _ ⟨rfl, rfl⟩) ?_
  rintro _ _ ⟨rfl, rfl⟩
  show Wn _ 68 _ (22, [(0, .ref 114)], [.int (b2 (tKd T L mo p = 11))], M)
  refine Wn.run (tab := tb_m_readLine) rfl 1 (c' := (if (b2 (tKd T L mo p = 11)) = 0 then 30 else 25, [(0, .ref 114)], [], M)) (o := []) rfl trivial ?_
  rw [if_pos (b2_e0.mpr (by omega))]
  show Wn _ 68 _ (30, [(0, .ref 114)], [], M)
  refine Wn.run (tab := tb_m_readLine) rfl 2 (c' := (34, [(0, .ref 114)], [.long (123581014175598 : Int64), .ref 114], M)) (o := []) rfl trivial ?_
  refine Wn.callV (p := 114) (n := 2) (ix := 219) (ci := (10)) (fun r0 M0 => r0 = some (.int (b2 (tKd T L mo p = 12))) ∧ M = M0) [.long (123581014175598 : Int64)] [] rfl rfl rfl rfl (Nat.le_of_ble_eq_true rfl) (Nat.le_of_ble_eq_true rfl) (w_m_isWord _ M T L mo p 12 hK (by decide) (by decide) (123581014175598 : Int64) (by decide) _ ⟨rfl, rfl⟩) ?_
  rintro _ _ ⟨rfl, rfl⟩
  show Wn _ 68 _ (37, [(0, .ref 114)], [.int (b2 (tKd T L mo p = 12))], M)
  refine Wn.run (tab := tb_m_readLine) rfl 1 (c' := (if (b2 (tKd T L mo p = 12)) = 0 then 45 else 40, [(0, .ref 114)], [], M)) (o := []) rfl trivial ?_
  rw [if_pos (b2_e0.mpr (by omega))]
  show Wn _ 68 _ (45, [(0, .ref 114)], [], M)
  refine Wn.run (tab := tb_m_readLine) rfl 2 (c' := (49, [(0, .ref 114)], [.long (1920296037 : Int64), .ref 114], M)) (o := []) rfl trivial ?_
  refine Wn.callV (p := 114) (n := 2) (ix := 219) (ci := (10)) (fun r0 M0 => r0 = some (.int (b2 (tKd T L mo p = 13))) ∧ M = M0) [.long (1920296037 : Int64)] [] rfl rfl rfl rfl (Nat.le_of_ble_eq_true rfl) (Nat.le_of_ble_eq_true rfl) (w_m_isWord _ M T L mo p 13 hK (by decide) (by decide) (1920296037 : Int64) (by decide) _ ⟨rfl, rfl⟩) ?_
  rintro _ _ ⟨rfl, rfl⟩
  show Wn _ 68 _ (52, [(0, .ref 114)], [.int (b2 (tKd T L mo p = 13))], M)
  refine Wn.run (tab := tb_m_readLine) rfl 1 (c' := (if (b2 (tKd T L mo p = 13)) = 0 then 90 else 55, [(0, .ref 114)], [], M)) (o := []) rfl trivial ?_
  rw [if_pos (b2_e0.mpr (by omega))]
  show Wn _ 68 _ (90, [(0, .ref 114)], [], M)
  refine Wn.run (tab := tb_m_readLine) rfl 2 (c' := (94, [(0, .ref 114)], [.long (427121668979 : Int64), .ref 114], M)) (o := []) rfl trivial ?_
  refine Wn.callV (p := 114) (n := 2) (ix := 219) (ci := (10)) (fun r0 M0 => r0 = some (.int (b2 (tKd T L mo p = 14))) ∧ M = M0) [.long (427121668979 : Int64)] [] rfl rfl rfl rfl (Nat.le_of_ble_eq_true rfl) (Nat.le_of_ble_eq_true rfl) (w_m_isWord _ M T L mo p 14 hK (by decide) (by decide) (427121668979 : Int64) (by decide) _ ⟨rfl, rfl⟩) ?_
  rintro _ _ ⟨rfl, rfl⟩
  show Wn _ 68 _ (97, [(0, .ref 114)], [.int (b2 (tKd T L mo p = 14))], M)
  refine Wn.run (tab := tb_m_readLine) rfl 1 (c' := (if (b2 (tKd T L mo p = 14)) = 0 then 125 else 100, [(0, .ref 114)], [], M)) (o := []) rfl trivial ?_
  rw [if_pos (b2_e0.mpr (by omega))]
  show Wn _ 68 _ (125, [(0, .ref 114)], [], M)
  refine Wn.run (tab := tb_m_readLine) rfl 2 (c' := (129, [(0, .ref 114)], [.long (114827769704311 : Int64), .ref 114], M)) (o := []) rfl trivial ?_
  refine Wn.callV (p := 114) (n := 2) (ix := 219) (ci := (10)) (fun r0 M0 => r0 = some (.int (b2 (tKd T L mo p = 15))) ∧ M = M0) [.long (114827769704311 : Int64)] [] rfl rfl rfl rfl (Nat.le_of_ble_eq_true rfl) (Nat.le_of_ble_eq_true rfl) (w_m_isWord _ M T L mo p 15 hK (by decide) (by decide) (114827769704311 : Int64) (by decide) _ ⟨rfl, rfl⟩) ?_
  rintro _ _ ⟨rfl, rfl⟩
  show Wn _ 68 _ (132, [(0, .ref 114)], [.int (b2 (tKd T L mo p = 15))], M)
  refine Wn.run (tab := tb_m_readLine) rfl 1 (c' := (if (b2 (tKd T L mo p = 15)) = 0 then 161 else 135, [(0, .ref 114)], [], M)) (o := []) rfl trivial ?_
  rw [if_pos (b2_e0.mpr (by omega))]
  show Wn _ 68 _ (161, [(0, .ref 114)], [], M)
  refine Wn.run (tab := tb_m_readLine) rfl 2 (c' := (165, [(0, .ref 114)], [.long (440006570868 : Int64), .ref 114], M)) (o := []) rfl trivial ?_
  refine Wn.callV (p := 114) (n := 2) (ix := 219) (ci := (10)) (fun r0 M0 => r0 = some (.int (b2 (tKd T L mo p = 16))) ∧ M = M0) [.long (440006570868 : Int64)] [] rfl rfl rfl rfl (Nat.le_of_ble_eq_true rfl) (Nat.le_of_ble_eq_true rfl) (w_m_isWord _ M T L mo p 16 hK (by decide) (by decide) (440006570868 : Int64) (by decide) _ ⟨rfl, rfl⟩) ?_
  rintro _ _ ⟨rfl, rfl⟩
  show Wn _ 68 _ (168, [(0, .ref 114)], [.int (b2 (tKd T L mo p = 16))], M)
  refine Wn.run (tab := tb_m_readLine) rfl 1 (c' := (if (b2 (tKd T L mo p = 16)) = 0 then 199 else 171, [(0, .ref 114)], [], M)) (o := []) rfl trivial ?_
  rw [if_neg (b2_n0.mpr (by omega))]
  show Wn _ 68 _ (171, [(0, .ref 114)], [], M)
  refine Wn.run (tab := tb_m_readLine) rfl 2 (c' := (173, [(0, .ref 114)], [.int (nI 3), .ref 114], M)) (o := []) rfl trivial ?_
  by_cases hb1 : o.testBit 3 = true
  · refine Wn.callV (p := 114) (n := 2) (ix := 232) (ci := (10)) (PFm M g 3 (tAt T L mo p) (some (.int (nI 0)))) [.int (nI 3)] [] rfl rfl rfl rfl (Nat.le_of_ble_eq_true rfl) (Nat.le_of_ble_eq_true rfl) (c_m_once_no _ M g T L mo p hg hK o 3 ho (by omega) (by omega) hb1) ?_
    rintro _ M5 ⟨rfl, h151, h162, hx3, hF4⟩
    show Wn _ 68 _ (176, [(0, .ref 114)], [.int (nI 0)], M5)
    obtain ⟨g6, hg7⟩ : ∃ g9, M5.1 114 = g9 := ⟨_, rfl⟩
    have hx8 := hx3
    rw [hg7] at hx8
    have hf9 : g6 15 = nI 3 := by rw [← hg7]; exact h151
    have hf10 : g6 16 = nI (tAt T L mo p) := by rw [← hg7]; exact h162
    have hk11 := fr_row hF4 (by decide) hh
    have h612 := n6_fr hF4 (by decide) h6
    have hn13 := nf_fr hF4 (by decide) hN
    have hF14 := fr_tr hF hF4 (by decide)
    refine Wn.run (tab := tb_m_readLine) rfl 1 (c' := (if (nI 0) = 0 then 195 else 179, [(0, .ref 114)], [], M5)) (o := []) rfl trivial ?_
    rw [if_pos (show (nI 0) = 0 by decide)]
    show Wn _ 68 _ (195, [(0, .ref 114)], [], M5)
    refine Wn.run (tab := tb_m_readLine) rfl 2 (c' := (204, [(0, .ref 114)], [.int (nI 0)], M5)) (o := []) rfl trivial ?_
    have e9 : rdOn T L mo p δ ν o ic 3 7 1 30 = .inl (3, tAt T L mo p) := by unfold rdOn; rw [if_pos hb1]
    rw [e9]
    exact Wn.zret rfl (Or.inl rfl) ⟨by rw [hg7]; exact (Gx_tr (Gx_rf _ _) (Gx_mono hx8 (by decide))), hF14, h612, rfl, by rw [hg7]; exact hf9, by rw [hg7]; exact hf10⟩
  · have hnb := hb1
    refine Wn.callV (p := 114) (n := 2) (ix := 232) (ci := (10)) (PO1 M g T L mo (tNx T L p) (o ||| 2 ^ 3)) [.int (nI 3)] [] rfl rfl rfl rfl (Nat.le_of_ble_eq_true rfl) (Nat.le_of_ble_eq_true rfl) (c_m_once_ok _ M g T L mo p hg hK o 3 ho (by omega) (by omega) hb1 (by omega) (by omega)) ?_
    rintro _ M20 ⟨rfl, ht15, h2016, hx17, hj18, hF19⟩
    show Wn _ 68 _ (176, [(0, .ref 114)], [.int (nI 1)], M20)
    obtain ⟨g21, hg22⟩ : ∃ g9, M20.1 114 = g9 := ⟨_, rfl⟩
    have hx23 := hx17
    rw [hg22] at hx23
    have hf24 : g21 18 = (g 18) := (hx23 18 (by decide)).trans (show g 18 = (g 18) from rfl)
    have hf25 : g21 15 = (g 15) := (hx23 15 (by decide)).trans (show g 15 = (g 15) from rfl)
    have hf26 : g21 20 = nI (o ||| 2 ^ 3) := by rw [← hg22]; exact h2016
    have hk27 := fr_row hF19 (by decide) hh
    have hi28 := (hj18 21 (by decide)).trans hic
    have h629 := n6_fr hF19 (by decide) h6
    have hn30 := nf_fr hF19 (by decide) hN
    have hv31 := rv_fr hF19 (by decide) hv
    have hF32 := fr_tr hF hF19 (by decide)
    refine Wn.run (tab := tb_m_readLine) rfl 1 (c' := (if (nI 1) = 0 then 195 else 179, [(0, .ref 114)], [], M20)) (o := []) rfl trivial ?_
    rw [if_neg (show ¬ ((nI 1) = 0) by decide)]
    show Wn _ 68 _ (179, [(0, .ref 114)], [], M20)
    refine Wn.run (tab := tb_m_readLine) rfl 4 (c' := (185, [(0, .ref 114)], [.int (nI 30), .int (nI 1), .int (nI 7), .ref 114], M20)) (o := []) rfl trivial ?_
    cases hc2 : tkN T L mo (tNx T L p) 1 30 with
    | inl f2 =>
      refine Wn.callV (p := 114) (n := 4) (ix := 235) (ci := (10)) (PFm M20 g21 f2.1 f2.2 (some (.int (nI 0)))) [.int (nI 7), .int (nI 1), .int (nI 30)] [] rfl rfl rfl rfl (Nat.le_of_ble_eq_true rfl) (Nat.le_of_ble_eq_true rfl) (c_m_putsE _ M20 g21 T L mo (tNx T L p) hg22 ht15 δ hk27 7 1 30 (by omega) (by omega) (by omega) f2 hc2) ?_
      rintro _ M37 ⟨rfl, h1533, h1634, hx35, hF36⟩
      show Wn _ 68 _ (188, [(0, .ref 114)], [.int (nI 0)], M37)
      obtain ⟨g38, hg39⟩ : ∃ g9, M37.1 114 = g9 := ⟨_, rfl⟩
      have hx40 := hx35
      rw [hg39] at hx40
      have hf41 : g38 15 = nI f2.1 := by rw [← hg39]; exact h1533
      have hf42 : g38 16 = nI f2.2 := by rw [← hg39]; exact h1634
      have hk43 := fr_row hF36 (by decide) hk27
      have h644 := n6_fr hF36 (by decide) h629
      have hn45 := nf_fr hF36 (by decide) hn30
      have hF46 := fr_tr hF32 hF36 (by decide)
      refine Wn.run (tab := tb_m_readLine) rfl 1 (c' := (if (nI 0) = 0 then 195 else 191, [(0, .ref 114)], [], M37)) (o := []) rfl trivial ?_
      rw [if_pos (show (nI 0) = 0 by decide)]
      show Wn _ 68 _ (195, [(0, .ref 114)], [], M37)
      refine Wn.run (tab := tb_m_readLine) rfl 2 (c' := (204, [(0, .ref 114)], [.int (nI 0)], M37)) (o := []) rfl trivial ?_
      have e9 : rdOn T L mo p δ ν o ic 3 7 1 30 = .inl f2 := by unfold rdOn; rw [if_neg hb1]; simp only [hc2]
      rw [e9]
      exact Wn.zret rfl (Or.inl rfl) ⟨by rw [hg39]; exact (Gx_tr (Gx_tr (Gx_rf _ _) (Gx_mono hx23 (by decide))) (Gx_mono hx40 (by decide))), hF46, h644, rfl, by rw [hg39]; exact hf41, by rw [hg39]; exact hf42⟩
    | inr v2 =>
      obtain ⟨x2, p2⟩ := v2
      refine Wn.callV (p := 114) (n := 4) (ix := 235) (ci := (10)) (PPt M20 g21 T L mo p2 (su δ 7 x2)) [.int (nI 7), .int (nI 1), .int (nI 30)] [] rfl rfl rfl rfl (Nat.le_of_ble_eq_true rfl) (Nat.le_of_ble_eq_true rfl) (c_m_putsV _ M20 g21 T L mo (tNx T L p) hg22 ht15 δ hk27 7 1 30 (by omega) (by omega) (by omega) x2 p2 hc2) ?_
      rintro _ M52 ⟨rfl, ht47, hr48, hx49, hj50, hF51⟩
      show Wn _ 68 _ (188, [(0, .ref 114)], [.int (nI 1)], M52)
      obtain ⟨g53, hg54⟩ : ∃ g9, M52.1 114 = g9 := ⟨_, rfl⟩
      have hx55 := hx49
      rw [hg54] at hx55
      have hf56 : g53 20 = (nI (o ||| 2 ^ 3)) := (hx55 20 (by decide)).trans (show g21 20 = (nI (o ||| 2 ^ 3)) from hf26)
      have hf57 : g53 15 = (g 15) := (hx55 15 (by decide)).trans (show g21 15 = (g 15) from hf25)
      have hi58 := (hj50 21 (by decide)).trans hi28
      have h659 := n6_fr hF51 (by decide) h629
      have hn60 := nf_fr hF51 (by decide) hn30
      have hv61 := rv_fr hF51 (by decide) hv31
      have hF62 := fr_tr hF32 hF51 (by decide)
      have bd2 : 1 ≤ x2 ∧ x2 ≤ 30 := by obtain ⟨q1, q2, q3⟩ := tkN_inr hc2; cases q3; exact q2
      have kl2 := tKd_le T L mo p2
      refine Wn.run (tab := tb_m_readLine) rfl 1 (c' := (if (nI 1) = 0 then 195 else 191, [(0, .ref 114)], [], M52)) (o := []) rfl trivial ?_
      rw [if_neg (show ¬ ((nI 1) = 0) by decide)]
      show Wn _ 68 _ (191, [(0, .ref 114)], [], M52)
      refine Wn.run (tab := tb_m_readLine) rfl 2 (c' := (204, [(0, .ref 114)], [.int (nI 1)], M52)) (o := []) rfl trivial ?_
      have e9 : rdOn T L mo p δ ν o ic 3 7 1 30 = .inr (p2, (su δ 7 x2), ν, (o ||| 2 ^ 3), ic) := by unfold rdOn; rw [if_neg hb1]; simp only [hc2]
      rw [e9]
      exact Wn.zret rfl (Or.inr rfl) ⟨by rw [hg54]; exact (Gx_tr (Gx_tr (Gx_rf _ _) (Gx_mono hx23 (by decide))) (Gx_mono hx55 (by decide))), hF62, h659, rfl, ht47, hr48, hn60, by rw [hg54]; exact hf56, hi58, by rw [hg54]; exact hf57⟩
set_option maxRecDepth 20000 in
theorem c_m_readLine_0 (d : Nat) (M : Mm) (g : Nat → Int32) (T : Nat → Nat) (L mo p : Nat) (hg : M.1 114 = g) (hK : TkM M T L mo p) (δ : Nat → Nat) (hh : ∀ k, k < 90 → M.1 117 k = nI (δ k)) (hδ0 : DB δ) (ν : Nat → Int64) (hN : ∀ q, q < δ 2 → M.2.1 119 (6 + q) = ν q) (o : Nat) (ho : g 20 = nI o) (ho5 : o < 32) (ic : Int64) (hic : M.2.1 114 21 = ic) (hv : Rsv M) (hk : tKd T L mo p < 10 ∨ 16 < tKd T L mo p) : Wn (d + 1) 68 (PRm M g T L mo ((.inl (1, tAt T L mo p) : Flt ⊕ Dst))) (0, lv_args 0 [.ref 114], [], M) := by
  have hF := fr_rf [114, 117, 119] M
  have h6 : ∀ q, q < 6 → M.2.1 119 q = M.2.1 119 q := fun _ _ => rfl
  have kl := tKd_le T L mo p
  obtain ⟨b0, b1, b2_9, bq, bc⟩ := id hδ0
  refine Wn.run (tab := tb_m_readLine) rfl 2 (c' := (4, [(0, .ref 114)], [.long (1818323813 : Int64), .ref 114], M)) (o := []) rfl trivial ?_
  refine Wn.callV (p := 114) (n := 2) (ix := 219) (ci := (10)) (fun r0 M0 => r0 = some (.int (b2 (tKd T L mo p = 10))) ∧ M = M0) [.long (1818323813 : Int64)] [] rfl rfl rfl rfl (Nat.le_of_ble_eq_true rfl) (Nat.le_of_ble_eq_true rfl) (w_m_isWord _ M T L mo p 10 hK (by decide) (by decide) (1818323813 : Int64) (by decide) _ ⟨rfl, rfl⟩) ?_
  rintro _ _ ⟨rfl, rfl⟩
  show Wn _ 68 _ (7, [(0, .ref 114)], [.int (b2 (tKd T L mo p = 10))], M)
  refine Wn.run (tab := tb_m_readLine) rfl 1 (c' := (if (b2 (tKd T L mo p = 10)) = 0 then 15 else 10, [(0, .ref 114)], [], M)) (o := []) rfl trivial ?_
  rw [if_pos (b2_e0.mpr (by omega))]
  show Wn _ 68 _ (15, [(0, .ref 114)], [], M)
  refine Wn.run (tab := tb_m_readLine) rfl 2 (c' := (19, [(0, .ref 114)], [.long (6906725 : Int64), .ref 114], M)) (o := []) rfl trivial ?_
  refine Wn.callV (p := 114) (n := 2) (ix := 219) (ci := (10)) (fun r0 M0 => r0 = some (.int (b2 (tKd T L mo p = 11))) ∧ M = M0) [.long (6906725 : Int64)] [] rfl rfl rfl rfl (Nat.le_of_ble_eq_true rfl) (Nat.le_of_ble_eq_true rfl) (w_m_isWord _ M T L mo p 11 hK (by decide) (by decide) (6906725 : Int64) (by decide) _ ⟨rfl, rfl⟩) ?_
  rintro _ _ ⟨rfl, rfl⟩
  show Wn _ 68 _ (22, [(0, .ref 114)], [.int (b2 (tKd T L mo p = 11))], M)
  refine Wn.run (tab := tb_m_readLine) rfl 1 (c' := (if (b2 (tKd T L mo p = 11)) = 0 then 30 else 25, [(0, .ref 114)], [], M)) (o := []) rfl trivial ?_
  rw [if_pos (b2_e0.mpr (by omega))]
  show Wn _ 68 _ (30, [(0, .ref 114)], [], M)
  refine Wn.run (tab := tb_m_readLine) rfl 2 (c' := (34, [(0, .ref 114)], [.long (123581014175598 : Int64), .ref 114], M)) (o := []) rfl trivial ?_
  refine Wn.callV (p := 114) (n := 2) (ix := 219) (ci := (10)) (fun r0 M0 => r0 = some (.int (b2 (tKd T L mo p = 12))) ∧ M = M0) [.long (123581014175598 : Int64)] [] rfl rfl rfl rfl (Nat.le_of_ble_eq_true rfl) (Nat.le_of_ble_eq_true rfl) (w_m_isWord _ M T L mo p 12 hK (by decide) (by decide) (123581014175598 : Int64) (by decide) _ ⟨rfl, rfl⟩) ?_
  rintro _ _ ⟨rfl, rfl⟩
  show Wn _ 68 _ (37, [(0, .ref 114)], [.int (b2 (tKd T L mo p = 12))], M)
  refine Wn.run (tab := tb_m_readLine) rfl 1 (c' := (if (b2 (tKd T L mo p = 12)) = 0 then 45 else 40, [(0, .ref 114)], [], M)) (o := []) rfl trivial ?_
  rw [if_pos (b2_e0.mpr (by omega))]
  show Wn _ 68 _ (45, [(0, .ref 114)], [], M)
  refine Wn.run (tab := tb_m_readLine) rfl 2 (c' := (49, [(0, .ref 114)], [.long (1920296037 : Int64), .ref 114], M)) (o := []) rfl trivial ?_
  refine Wn.callV (p := 114) (n := 2) (ix := 219) (ci := (10)) (fun r0 M0 => r0 = some (.int (b2 (tKd T L mo p = 13))) ∧ M = M0) [.long (1920296037 : Int64)] [] rfl rfl rfl rfl (Nat.le_of_ble_eq_true rfl) (Nat.le_of_ble_eq_true rfl) (w_m_isWord _ M T L mo p 13 hK (by decide) (by decide) (1920296037 : Int64) (by decide) _ ⟨rfl, rfl⟩) ?_
  rintro _ _ ⟨rfl, rfl⟩
  show Wn _ 68 _ (52, [(0, .ref 114)], [.int (b2 (tKd T L mo p = 13))], M)
  refine Wn.run (tab := tb_m_readLine) rfl 1 (c' := (if (b2 (tKd T L mo p = 13)) = 0 then 90 else 55, [(0, .ref 114)], [], M)) (o := []) rfl trivial ?_
  rw [if_pos (b2_e0.mpr (by omega))]
  show Wn _ 68 _ (90, [(0, .ref 114)], [], M)
  refine Wn.run (tab := tb_m_readLine) rfl 2 (c' := (94, [(0, .ref 114)], [.long (427121668979 : Int64), .ref 114], M)) (o := []) rfl trivial ?_
  refine Wn.callV (p := 114) (n := 2) (ix := 219) (ci := (10)) (fun r0 M0 => r0 = some (.int (b2 (tKd T L mo p = 14))) ∧ M = M0) [.long (427121668979 : Int64)] [] rfl rfl rfl rfl (Nat.le_of_ble_eq_true rfl) (Nat.le_of_ble_eq_true rfl) (w_m_isWord _ M T L mo p 14 hK (by decide) (by decide) (427121668979 : Int64) (by decide) _ ⟨rfl, rfl⟩) ?_
  rintro _ _ ⟨rfl, rfl⟩
  show Wn _ 68 _ (97, [(0, .ref 114)], [.int (b2 (tKd T L mo p = 14))], M)
  refine Wn.run (tab := tb_m_readLine) rfl 1 (c' := (if (b2 (tKd T L mo p = 14)) = 0 then 125 else 100, [(0, .ref 114)], [], M)) (o := []) rfl trivial ?_
  rw [if_pos (b2_e0.mpr (by omega))]
  show Wn _ 68 _ (125, [(0, .ref 114)], [], M)
  refine Wn.run (tab := tb_m_readLine) rfl 2 (c' := (129, [(0, .ref 114)], [.long (114827769704311 : Int64), .ref 114], M)) (o := []) rfl trivial ?_
  refine Wn.callV (p := 114) (n := 2) (ix := 219) (ci := (10)) (fun r0 M0 => r0 = some (.int (b2 (tKd T L mo p = 15))) ∧ M = M0) [.long (114827769704311 : Int64)] [] rfl rfl rfl rfl (Nat.le_of_ble_eq_true rfl) (Nat.le_of_ble_eq_true rfl) (w_m_isWord _ M T L mo p 15 hK (by decide) (by decide) (114827769704311 : Int64) (by decide) _ ⟨rfl, rfl⟩) ?_
  rintro _ _ ⟨rfl, rfl⟩
  show Wn _ 68 _ (132, [(0, .ref 114)], [.int (b2 (tKd T L mo p = 15))], M)
  refine Wn.run (tab := tb_m_readLine) rfl 1 (c' := (if (b2 (tKd T L mo p = 15)) = 0 then 161 else 135, [(0, .ref 114)], [], M)) (o := []) rfl trivial ?_
  rw [if_pos (b2_e0.mpr (by omega))]
  show Wn _ 68 _ (161, [(0, .ref 114)], [], M)
  refine Wn.run (tab := tb_m_readLine) rfl 2 (c' := (165, [(0, .ref 114)], [.long (440006570868 : Int64), .ref 114], M)) (o := []) rfl trivial ?_
  refine Wn.callV (p := 114) (n := 2) (ix := 219) (ci := (10)) (fun r0 M0 => r0 = some (.int (b2 (tKd T L mo p = 16))) ∧ M = M0) [.long (440006570868 : Int64)] [] rfl rfl rfl rfl (Nat.le_of_ble_eq_true rfl) (Nat.le_of_ble_eq_true rfl) (w_m_isWord _ M T L mo p 16 hK (by decide) (by decide) (440006570868 : Int64) (by decide) _ ⟨rfl, rfl⟩) ?_
  rintro _ _ ⟨rfl, rfl⟩
  show Wn _ 68 _ (168, [(0, .ref 114)], [.int (b2 (tKd T L mo p = 16))], M)
  refine Wn.run (tab := tb_m_readLine) rfl 1 (c' := (if (b2 (tKd T L mo p = 16)) = 0 then 199 else 171, [(0, .ref 114)], [], M)) (o := []) rfl trivial ?_
  rw [if_pos (b2_e0.mpr (by omega))]
  show Wn _ 68 _ (199, [(0, .ref 114)], [], M)
  refine Wn.run (tab := tb_m_readLine) rfl 2 (c' := (201, [(0, .ref 114)], [.int (nI 1), .ref 114], M)) (o := []) rfl trivial ?_
  refine Wn.callV (p := 114) (n := 2) (ix := 188) (ci := (10)) (PBd M g (nI 1) (nI (tAt T L mo p))) [.int (nI 1)] [] rfl rfl rfl rfl (Nat.le_of_ble_eq_true rfl) (Nat.le_of_ble_eq_true rfl) (c_m_bad _ M g T L mo p hg hK (nI 1)) ?_
  rintro _ M1 ⟨rfl, hg2, hs3, hF4⟩
  show Wn _ 68 _ (204, [(0, .ref 114)], [.int (nI 0)], M1)
  have hk5 := fr_row hF4 (by decide) hh
  have h66 := n6_fr hF4 (by decide) h6
  have hn7 := nf_fr hF4 (by decide) hN
  have hv8 := rv_fr hF4 (by decide) hv
  have hF9 := fr_tr hF hF4 (by decide)
  have e9 : (.inl (1, tAt T L mo p) : Flt ⊕ Dst) = .inl (1, tAt T L mo p) := rfl
  rw [e9]
  exact Wn.zret rfl (Or.inl rfl) ⟨by rw [hg2]; exact (Gx_up (Gx_up (Gx_rf _ _) (by decide)) (by decide)), hF9, h66, rfl, by rw [hg2]; exact ((pk_un (by decide)).trans pk_us), by rw [hg2]; exact pk_us⟩
