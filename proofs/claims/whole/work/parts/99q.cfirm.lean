/-! Firm, by the class. -/
def okF (σ : Nat → Nat) (q st k : Nat) : Prop := ld σ k + σ (78 + q) ≤ σ (96 + k) ∧ ¬ k = st
def xF (σ : Nat → Nat) (a k : Nat) : Nat := if a < 9 - σ (96 + k) then 9 - σ (96 + k) else a
theorem xF_mono (σ : Nat → Nat) : Mono (xF σ) := ⟨fun a b c h => by unfold xF; split <;> split <;> omega, fun a c => by unfold xF; split <;> omega⟩
theorem xF_bd {E : Nat → Nat → Prop} {σ : Nat → Nat} {st : Nat} {w : Nat → Nat} : ∀ n, Wlk E st w n → cst (xF σ) 0 w n < 10
  | 0, _ => (by show 0 < 10; decide)
  | n + 1, h => by
    have ih := xF_bd (σ := σ) n ⟨h.1, fun i hi => h.2 i (by omega)⟩
    show (if cst (xF σ) 0 w n < 9 - σ (96 + w (n + 1)) then 9 - σ (96 + w (n + 1)) else cst (xF σ) 0 w n) < 10
    split <;> omega
def vI (a : Nat) : Int32 := if a ≤ 9 then nI (9 - a) else -1
def rF : Option Nat → Int32
  | none => -1
  | some a => nI (9 - a)
theorem rF_o {a : Nat} (h : a ≤ 10) : vI a = rF (ouN 10 a) := by
  unfold vI ouN
  by_cases c : a < 10
  · rw [if_pos (by omega), if_pos c]; rfl
  · rw [if_neg (by omega), if_neg c]; rfl
theorem vI_le : ∀ a, a < 11 → ∀ b, b < 11 → (vI a ≤ vI b ↔ b ≤ a) := by decide +kernel
theorem vI_m1 : ∀ a, a < 11 → (vI a = (-1 : Int32) ↔ ¬ a < 10) := by decide +kernel
theorem vI_lt0 : ∀ a, a < 11 → (vI a < 0 ↔ ¬ a < 10) := by decide +kernel
theorem vI_mn : ∀ a, a < 10 → ∀ i, i < 10 → (if vI a < nI i then vI a else nI i) = vI (if a < 9 - i then 9 - i else a) := by decide +kernel
theorem vI_mn1 : ∀ a, a < 10 → ∀ i, i < 10 → (if vI a ≤ nI i then vI a else nI i) = vI (if a < 9 - i then 9 - i else a) := by decide +kernel
theorem vI_mn2 : ∀ a, a < 10 → ∀ i, i < 10 → (if nI i < vI a then nI i else vI a) = vI (if a < 9 - i then 9 - i else a) := by decide +kernel
theorem vI_mn3 : ∀ a, a < 10 → ∀ i, i < 10 → (if nI i ≤ vI a then nI i else vI a) = vI (if a < 9 - i then 9 - i else a) := by decide +kernel
theorem rwv_up {N N' : Mm} {p k v : Nat} {f : Nat → Nat} (h : mI N p (upd (N.1 p) k (vI v)) = N') (hr : ∀ e, e < 64 → N.1 p e = vI (f e)) : ∀ e, e < 64 → N'.1 p e = vI (su f k v e) := by
  intro e he
  rw [mI_eq h]
  unfold su
  by_cases q : e = k
  · rw [if_pos q, q, pk_us]
  · rw [if_neg q, pk_un q]; exact hr e he
def PSf (M0 : Mm) (p : Nat) (P : Bool → (Nat → Nat) → Prop) : Po := fun r0 M' => ∃ b f, r0 = some (.int (b2 (b = true))) ∧ P b f ∧ (∀ e, e < 64 → M'.1 p e = vI (f e)) ∧ Fr [p] M0 M'
set_option maxRecDepth 20000 in
theorem c_wy_spreadThickness (d : Nat) (M : Mm) (σ : Nat → Nat) (hS : StC M 6 σ) (hB : Bd σ) (q c : Nat) (hq : q < σ 2) (hc : c < 64) (f0 f : Nat → Nat) (fi : ∀ e, f0 e ≤ 10) (f00 : f0 (σ (160 + q)) = 0) (b0 : Bool) (hI : RI σ (okF σ q (σ (160 + q))) (σ (160 + q)) 0 (xF σ) 10 f0 f c 0 b0) (hr : ∀ e, e < 64 → M.1 84 e = vI (f e)) (hfc : f c < 10) : Wn (d + 3) 243 (PSf M 84 (fun b f => RI σ (okF σ q (σ (160 + q))) (σ (160 + q)) 0 (xF σ) 10 f0 f c 4 (b0 || b))) (0, lv_args 0 [.ref 83, .ref 6, .int (nI q), .int (nI c)], [], M) := by
  have b6 := Bd_2 hB
  have fq := Bd_q hB q (by omega)
  have hst : σ (160 + q) < 64 := by omega
  refine Wn.run (tab := tb_wy_spreadThickness) rfl 4 (c' := (6, [(5, .int (nI 0)), (4, .int (nI 0)), (0, .ref 83), (1, .ref 6), (2, .int (nI q)), (3, .int (nI c))], [], M)) (o := []) rfl trivial ?_
  have loop : ∀ (m s : Nat) (b : Bool) (f : Nat → Nat) (N : Mm), 4 - s = m → s ≤ 4 → RI σ (okF σ q (σ (160 + q))) (σ (160 + q)) 0 (xF σ) 10 f0 f c s (b0 || b) → (∀ e, e < 64 → N.1 84 e = vI (f e)) → f c < 10 → Fr [84] M N → Wn (d + 3) 243 (PSf M 84 (fun b f => RI σ (okF σ q (σ (160 + q))) (σ (160 + q)) 0 (xF σ) 10 f0 f c 4 (b0 || b))) (6, [(5, .int (nI s)), (4, .int (b2 (b = true))), (0, .ref 83), (1, .ref 6), (2, .int (nI q)), (3, .int (nI c))], [], N) := by
    intro m
    induction m using Nat.strongRecOn with
    | _ m ih =>
      intro s b f N hm hs hI hr hfc FN
      have SN : StC N 6 σ := fr_st FN hS (by decide)
      have rc : N.1 84 ((nI c)).toNatClampNeg = vI (f c) := by rw [nI_clamp (by omega)]; exact hr c hc
      refine Wn.run (tab := tb_wy_spreadThickness) rfl 3 (c' := (if (nI 4) ≤ (nI s) then 95 else 12, [(5, .int (nI s)), (4, .int (b2 (b = true))), (0, .ref 83), (1, .ref 6), (2, .int (nI q)), (3, .int (nI c))], [], N)) (o := []) rfl trivial ?_
      by_cases ce : 4 ≤ s
      · rw [if_pos ((n_le rfl rfl (by omega) (by omega)).mpr ce)]
        have es : s = 4 := by omega
        subst es
        refine Wn.run (tab := tb_wy_spreadThickness) rfl 1 (c' := (97, [(5, .int (nI 4)), (4, .int (b2 (b = true))), (0, .ref 83), (1, .ref 6), (2, .int (nI q)), (3, .int (nI c))], [.int (b2 (b = true))], N)) (o := []) rfl trivial ?_
        exact Wn.zret rfl (by cases b <;> first | exact Or.inl rfl | exact Or.inr rfl) ⟨b, f, rfl, hI, hr, FN⟩
      rw [if_neg (mt (n_le rfl rfl (by omega) (by omega)).mp ce)]
      have z89 : (∀ k, bes σ c s = some k → okF σ q (σ (160 + q)) k → f0 c < 10 → f k ≤ xF σ (f0 c) k) → Wn (d + 3) 243 (PSf M 84 (fun b f => RI σ (okF σ q (σ (160 + q))) (σ (160 + q)) 0 (xF σ) 10 f0 f c 4 (b0 || b))) (89, [(5, .int (nI s)), (4, .int (b2 (b = true))), (0, .ref 83), (1, .ref 6), (2, .int (nI q)), (3, .int (nI c))], [], N) := by
        intro h
        refine Wn.run (tab := tb_wy_spreadThickness) rfl 2 (c' := (6, [(5, .int ((nI s) + (nI 1))), (4, .int (b2 (b = true))), (0, .ref 83), (1, .ref 6), (2, .int (nI q)), (3, .int (nI c))], [], N)) (o := []) rfl trivial ?_
        rw [nI_add]
        exact ih (4 - (s + 1)) (by omega) (s + 1) b f N rfl (by omega) (RI_skip hI h) hr hfc FN
      refine Wn.run (tab := tb_wy_spreadThickness) rfl 4 (c' := (19, [(5, .int (nI s)), (4, .int (b2 (b = true))), (0, .ref 83), (1, .ref 6), (2, .int (nI q)), (3, .int (nI c))], [.int (nI s), .int (nI c), .ref (lkp 6)], N)) (o := [shp 6 = (0, 5)]) rfl rfl ?_
      refine Wn.callV (p := 3) (n := 3) (ix := 55) (ci := (2)) (fun r0 M1 => r0 = some (.int (oI (bes σ c s))) ∧ N = M1) [.int (nI c), .int (nI s)] [] rfl rfl rfl rfl (Nat.le_of_ble_eq_true rfl) (Nat.le_of_ble_eq_true rfl) (w_lk_beside _ N 3 σ SN.2.1 hB c s hc (by omega) _ ⟨rfl, rfl⟩) ?_
      rintro _ _ ⟨rfl, rfl⟩
      show Wn _ 243 _ (22, [(5, .int (nI s)), (4, .int (b2 (b = true))), (0, .ref 83), (1, .ref 6), (2, .int (nI q)), (3, .int (nI c))], [.int (oI (bes σ c s))], N)
      refine Wn.run (tab := tb_wy_spreadThickness) rfl 4 (c' := (if (oI (bes σ c s)) = (-1 : Int32) then 89 else 30, [(6, .int (oI (bes σ c s))), (5, .int (nI s)), (4, .int (b2 (b = true))), (0, .ref 83), (1, .ref 6), (2, .int (nI q)), (3, .int (nI c))], [], N)) (o := []) rfl trivial ?_
      cases hb : bes σ c s with
      | none =>
        rw [hb] at z89
        rw [if_pos (show oI none = (-1 : Int32) from rfl)]
        refine Wn.lvp [1, 2, 3, 4, 5, 6] (lv' := [(5, .int (nI s)), (4, .int (b2 (b = true))), (0, .ref 83), (1, .ref 6), (2, .int (nI q)), (3, .int (nI c))]) rfl ?_
        exact z89 (fun k e => by cases e)
      | some k =>
        rw [hb] at z89
        have k64 := bes_lt hB hc hb
        have ki := bes_in hB hc hb
        have kc := bes_ne hB hc hb
        have ik := Bd_c hB k k64
        have fk : f k ≤ 10 := Nat.le_trans (hI.2.1 k) (fi k)
        have rk : N.1 84 ((nI k)).toNatClampNeg = vI (f k) := by rw [nI_clamp (by omega)]; exact hr k k64
        have ri : N.1 7 ((nI k)).toNatClampNeg = nI (σ (96 + k)) := by rw [nI_clamp (by omega)]; exact SN.2.2.2.1 k k64 ki
        rw [if_neg (show ¬ oI (some k) = (-1 : Int32) from nI_m1 (by omega))]
        have lX : ∃ X, ldX σ k (nI q) (σ 2) + σ (78 + q) = X ∧ X < 2 ^ 30 ∧ (¬ k = σ (160 + q) → X = ld σ k + σ (78 + q)) := by
          refine ⟨_, rfl, ?_, fun hk => ?_⟩
          · have := ldX_le σ k (nI q) (fun z hz => (Bd_q hB z hz).2.1) (σ 2) (by omega)
            omega
          · rw [ldX_off (by unfold onC; intro e; rw [Bool.and_eq_true] at e; exact hk (of_decide_eq_true e.1).symm) (by omega) _ (by omega)]; rfl
        obtain ⟨X, eX, X30, hX⟩ := lX
        show Wn _ 243 _ (30, [(6, .int (nI k)), (5, .int (nI s)), (4, .int (b2 (b = true))), (0, .ref 83), (1, .ref 6), (2, .int (nI q)), (3, .int (nI c))], [], N)
        refine Wn.run (tab := tb_wy_spreadThickness) rfl 3 (c' := (34, [(6, .int (nI k)), (5, .int (nI s)), (4, .int (b2 (b = true))), (0, .ref 83), (1, .ref 6), (2, .int (nI q)), (3, .int (nI c))], [.int (nI k), .int (nI q), .ref 6], N)) (o := []) rfl trivial ?_
        refine Wn.callV (p := 6) (n := 3) (ix := 30) (ci := (5)) (fun r0 M1 => r0 = some (.int (nI X)) ∧ N = M1) [.int (nI q), .int (nI k)] [] rfl rfl rfl rfl (Nat.le_of_ble_eq_true rfl) (Nat.le_of_ble_eq_true rfl) (w_st_loadWith _ N 6 σ SN hB q k hq (by omega) _ ⟨by rw [eX], rfl⟩) ?_
        rintro _ _ ⟨rfl, rfl⟩
        show Wn _ 243 _ (37, [(6, .int (nI k)), (5, .int (nI s)), (4, .int (b2 (b = true))), (0, .ref 83), (1, .ref 6), (2, .int (nI q)), (3, .int (nI c))], [.int (nI X)], N)
        refine Wn.run (tab := tb_wy_spreadThickness) rfl 5 (c' := (if (N.1 7 ((nI k)).toNatClampNeg) < (nI X) then 89 else 47, [(6, .int (nI k)), (5, .int (nI s)), (4, .int (b2 (b = true))), (0, .ref 83), (1, .ref 6), (2, .int (nI q)), (3, .int (nI c))], [], N)) (o := [shp 6 = (0, 5), aok shp 7 0 (nI k)]) rfl ⟨rfl, (ak1 (n := 64) rfl rfl rfl (by omega))⟩ ?_
        rw [ri]
        by_cases cx : σ (96 + k) < X
        · rw [if_pos ((n_lt rfl rfl (by omega) (by omega)).mpr cx)]
          refine Wn.lvp [1, 2, 3, 4, 5, 6] (lv' := [(5, .int (nI s)), (4, .int (b2 (b = true))), (0, .ref 83), (1, .ref 6), (2, .int (nI q)), (3, .int (nI c))]) rfl ?_
          refine z89 (fun k2 e ho => ?_)
          cases e
          have := hX ho.2
          have := ho.1
          omega
        rw [if_neg (mt (n_lt rfl rfl (by omega) (by omega)).mp cx)]
        refine Wn.run (tab := tb_wy_spreadThickness) rfl 10 (c' := (65, [(7, .int (if (N.1 7 ((nI k)).toNatClampNeg) < (N.1 84 ((nI c)).toNatClampNeg) then (N.1 7 ((nI k)).toNatClampNeg) else (N.1 84 ((nI c)).toNatClampNeg))), (6, .int (nI k)), (5, .int (nI s)), (4, .int (b2 (b = true))), (0, .ref 83), (1, .ref 6), (2, .int (nI q)), (3, .int (nI c))], [], N)) (o := [shp 83 = (0, 7), aok shp 84 0 (nI c), shp 6 = (0, 5), aok shp 7 0 (nI k), ct [] ≤ 8]) rfl ⟨rfl, (ak1 (n := 64) rfl rfl rfl (by omega)), rfl, (ak1 (n := 64) rfl rfl rfl (by omega)), (Nat.le_of_ble_eq_true rfl)⟩ ?_
        have xl : xF σ (f c) k < 10 := by unfold xF; split <;> omega
        rw [rc, ri, vI_mn2 (f c) hfc _ (by omega), show vI (if f c < 9 - σ (96 + k) then 9 - σ (96 + k) else f c) = vI (xF σ (f c) k) from rfl]
        refine Wn.run (tab := tb_wy_spreadThickness) rfl 6 (c' := (if (vI (xF σ (f c) k)) ≤ (N.1 84 ((nI k)).toNatClampNeg) then 89 else 77, [(7, .int (vI (xF σ (f c) k))), (6, .int (nI k)), (5, .int (nI s)), (4, .int (b2 (b = true))), (0, .ref 83), (1, .ref 6), (2, .int (nI q)), (3, .int (nI c))], [], N)) (o := [shp 83 = (0, 7), aok shp 84 0 (nI k)]) rfl ⟨rfl, (ak1 (n := 64) rfl rfl rfl (by omega))⟩ ?_
        rw [rk]
        by_cases cw : f k ≤ xF σ (f c) k
        · rw [if_pos ((vI_le _ (by omega) _ (by omega)).mpr cw)]
          refine Wn.lvp [2, 3, 4, 5, 6, 7] (lv' := [(5, .int (nI s)), (4, .int (b2 (b = true))), (0, .ref 83), (1, .ref 6), (2, .int (nI q)), (3, .int (nI c))]) rfl ?_
          refine z89 (fun k2 e ho _ => ?_)
          cases e
          exact Nat.le_trans cw ((xF_mono σ).1 _ _ k (hI.2.1 c))
        rw [if_neg (mt (vI_le _ (by omega) _ (by omega)).mp cw)]
        have kst : ¬ k = σ (160 + q) := fun e => by rw [e] at cw; have := hI.2.1 (σ (160 + q)); omega
        have h1 := hX kst
        refine Wn.run (tab := tb_wy_spreadThickness) rfl 5 (c' := (86, [(7, .int (vI (xF σ (f c) k))), (6, .int (nI k)), (5, .int (nI s)), (4, .int (b2 (b = true))), (0, .ref 83), (1, .ref 6), (2, .int (nI q)), (3, .int (nI c))], [], (mI N 84 (upd (N.1 84) ((nI k)).toNatClampNeg (vI (xF σ (f c) k)))))) (o := [shp 83 = (0, 7), aok shp 84 0 (nI k)]) rfl ⟨rfl, (ak1 (n := 64) rfl rfl rfl (by omega))⟩ ?_
        rw [show ((nI k)).toNatClampNeg = k from nI_clamp (by omega)]
        generalize hN3 : (mI N 84 (upd (N.1 84) k (vI (xF σ (f c) k)))) = N3
        have r3 : ∀ e, e < 64 → N3.1 84 e = vI (su f k (xF σ (f c) k) e) := rwv_up hN3 hr
        have f3 := fr_1I hN3
        refine Wn.run (tab := tb_wy_spreadThickness) rfl 4 (c' := (6, [(5, .int ((nI s) + (nI 1))), (4, .int (nI 1)), (7, .int (vI (xF σ (f c) k))), (6, .int (nI k)), (0, .ref 83), (1, .ref 6), (2, .int (nI q)), (3, .int (nI c))], [], N3)) (o := []) rfl trivial ?_
        rw [nI_add]
        refine Wn.lvp [0, 1, 4, 5, 6, 7] (lv' := [(5, .int (nI (s + 1))), (4, .int (b2 (true = true))), (0, .ref 83), (1, .ref 6), (2, .int (nI q)), (3, .int (nI c))]) rfl ?_
        refine ih (4 - (s + 1)) (by omega) (s + 1) true _ N3 rfl (by omega) (by rw [Bool.or_true]; exact RI_take (xF_mono σ) hI hc (by omega) k64 hb ⟨by omega, kst⟩ hfc (by omega)) r3 ?_ (fr_tr FN f3 (by decide))
        show (if c = k then _ else f c) < 10
        rw [if_neg (fun e => kc e.symm)]
        exact hfc
  exact loop 4 0 false f M rfl (by omega) (by rw [Bool.or_false]; exact hI) hr hfc (fr_rf _ _)
def PCf (M0 : Mm) (p : Nat) (P : Int32 → Prop) : Po := fun r0 M' => (∃ v, P v ∧ r0 = some (.int v)) ∧ Fr [p] M0 M'
/-- how thick the ice is on the best way -/
def fiR (σ : Nat → Nat) (q gl : Nat) (v : Int32) : Prop := (gl = σ (160 + q) → v = nI (σ (96 + gl))) ∧ (¬ gl = σ (160 + q) → ∃ o, LCo (EB σ (okF σ q (σ (160 + q)))) (σ (160 + q)) 0 (xF σ) gl o ∧ v = rF o)
theorem fiR_u {σ : Nat → Nat} {q gl : Nat} {v u : Int32} (h : fiR σ q gl v) (k : fiR σ q gl u) : v = u := by
  by_cases c : gl = σ (160 + q)
  · rw [h.1 c, k.1 c]
  · obtain ⟨o, h1, h2⟩ := h.2 c
    obtain ⟨p, k1, k2⟩ := k.2 c
    rw [h2, k2, LCo_u h1 k1]
set_option maxRecDepth 20000 in
theorem c_wy_thickest (d : Nat) (M : Mm) (σ : Nat → Nat) (hS : StC M 6 σ) (hB : Bd σ) (q gl : Nat) (hq : q < σ 2) (hgl : gl < 64) (hin : inL σ gl) : Wn (d + 4) 242 (PCf M 84 (fiR σ q gl)) (0, lv_args 0 [.ref 83, .ref 6, .int (nI q), .int (nI gl)], [], M) := by
  have b6 := Bd_2 hB
  have fq := Bd_q hB q (by omega)
  have hst : σ (160 + q) < 64 := by omega
  have rst : M.1 8 ((nI q)).toNatClampNeg = nI (σ (160 + q)) := by rw [nI_clamp (by omega)]; exact hS.2.2.2.2.1 q hq
  refine Wn.run (tab := tb_wy_thickest) rfl 5 (c' := (8, [(4, .int (M.1 8 ((nI q)).toNatClampNeg)), (0, .ref 83), (1, .ref 6), (2, .int (nI q)), (3, .int (nI gl))], [], M)) (o := [shp 6 = (0, 5), aok shp 8 0 (nI q)]) rfl ⟨rfl, (ak1 (n := 6) rfl rfl rfl (by omega))⟩ ?_
  rw [rst]
  refine Wn.run (tab := tb_wy_thickest) rfl 3 (c' := (if ¬ (nI gl) = (nI (σ (160 + q))) then 22 else 14, [(4, .int (nI (σ (160 + q)))), (0, .ref 83), (1, .ref 6), (2, .int (nI q)), (3, .int (nI gl))], [], M)) (o := []) rfl trivial ?_
  by_cases cg : gl = σ (160 + q)
  · rw [if_neg (fun e => e ((n_eq rfl rfl (by omega) (by omega)).mpr cg))]
    refine Wn.run (tab := tb_wy_thickest) rfl 4 (c' := (21, [(4, .int (nI (σ (160 + q)))), (0, .ref 83), (1, .ref 6), (2, .int (nI q)), (3, .int (nI gl))], [.int (M.1 7 ((nI (σ (160 + q)))).toNatClampNeg)], M)) (o := [shp 6 = (0, 5), aok shp 7 0 (nI (σ (160 + q)))]) rfl ⟨rfl, (ak1 (n := 64) rfl rfl rfl (by omega))⟩ ?_
    rw [show M.1 7 ((nI (σ (160 + q)))).toNatClampNeg = nI (σ (96 + gl)) from by rw [nI_clamp (by omega), ← cg]; exact hS.2.2.2.1 gl hgl hin]
    exact Wn.iret rfl ⟨⟨_, ⟨fun _ => rfl, fun e => absurd cg e⟩, rfl⟩, fr_rf _ _⟩
  rw [if_pos (mt (n_eq rfl rfl (by omega) (by omega)).mp cg)]
  refine Wn.run (tab := tb_wy_thickest) rfl 3 (c' := (27, [(4, .int (nI (σ (160 + q)))), (0, .ref 83), (1, .ref 6), (2, .int (nI q)), (3, .int (nI gl))], [.int (-1 : Int32), .ref 84], M)) (o := [shp 83 = (0, 7)]) rfl rfl ?_
  refine Wn.callS (n := 2) (ix := 49) (PF 84 64 (-1) M) [.ref 84, .int (-1)] [] rfl rfl rfl (Nat.le_of_ble_eq_true rfl) (Nat.le_of_ble_eq_true rfl) (c_ja_fill _ M 84 64 (-1) rfl (by decide)) ?_
  rintro _ M1 ⟨rfl, r1, f1⟩
  show Wn _ 242 _ (30, [(4, .int (nI (σ (160 + q)))), (0, .ref 83), (1, .ref 6), (2, .int (nI q)), (3, .int (nI gl))], [], M1)
  refine Wn.run (tab := tb_wy_thickest) rfl 5 (c' := (39, [(4, .int (nI (σ (160 + q)))), (0, .ref 83), (1, .ref 6), (2, .int (nI q)), (3, .int (nI gl))], [], (mI M1 84 (upd (M1.1 84) ((nI (σ (160 + q)))).toNatClampNeg (nI 9))))) (o := [shp 83 = (0, 7), aok shp 84 0 (nI (σ (160 + q)))]) rfl ⟨rfl, (ak1 (n := 64) rfl rfl rfl (by omega))⟩ ?_
  rw [show ((nI (σ (160 + q)))).toNatClampNeg = σ (160 + q) from nI_clamp (by omega)]
  generalize hM2 : (mI M1 84 (upd (M1.1 84) (σ (160 + q)) (nI 9))) = M2
  have f2 := fr_1I hM2
  have F2 : Fr [84] M M2 := fr_tr f1 f2 (by decide)
  have r2 : ∀ e, e < 64 → M2.1 84 e = vI (f0B (σ (160 + q)) 10 e) := by
    intro e he
    rw [mI_eq hM2]
    unfold f0B
    by_cases k : e = σ (160 + q)
    · rw [if_pos k, k, pk_us]; rfl
    · rw [if_neg k, pk_un k]; exact r1 e he
  refine Wn.run (tab := tb_wy_thickest) rfl 4 (c' := (45, [(6, .int (nI 0)), (5, .int (nI 1)), (4, .int (nI (σ (160 + q)))), (0, .ref 83), (1, .ref 6), (2, .int (nI q)), (3, .int (nI gl))], [], M2)) (o := []) rfl trivial ?_
  have fin : ∀ (N : Mm) (f : Nat → Nat) (u v : Int32), Fr [84] M N → (∀ e, e < 64 → N.1 84 e = vI (f e)) → (∀ e, f e ≤ 10) → Snd (EB σ (okF σ q (σ (160 + q)))) (σ (160 + q)) 0 (xF σ) f 10 → RR (EB σ (okF σ q (σ (160 + q)))) (σ (160 + q)) 0 (xF σ) f 64 → Wn (d + 4) 242 (PCf M 84 (fiR σ q gl)) (107, [(6, .int u), (5, .int v), (4, .int (nI (σ (160 + q)))), (0, .ref 83), (1, .ref 6), (2, .int (nI q)), (3, .int (nI gl))], [], N) := by
    intro N f u v FN hr fi hs hR
    have o := LCo_of (xF_mono σ) hst (EB_lt hB) hs (fun n w hn hw => hR n w (by omega) hw) (fun n w hn hw => xF_bd n hw) gl hgl
    have rg : N.1 84 ((nI gl)).toNatClampNeg = rF (ouN 10 (f gl)) := by rw [nI_clamp (by omega), ← rF_o (fi gl)]; exact hr _ (by omega)
    refine Wn.run (tab := tb_wy_thickest) rfl 4 (c' := (113, [(6, .int u), (5, .int v), (4, .int (nI (σ (160 + q)))), (0, .ref 83), (1, .ref 6), (2, .int (nI q)), (3, .int (nI gl))], [.int (N.1 84 ((nI gl)).toNatClampNeg)], N)) (o := [shp 83 = (0, 7), aok shp 84 0 (nI gl)]) rfl ⟨rfl, (ak1 (n := 64) rfl rfl rfl (by omega))⟩ ?_
    rw [rg]
    exact Wn.iret rfl ⟨⟨_, ⟨fun e => absurd e cg, fun _ => ⟨_, o, rfl⟩⟩, rfl⟩, FN⟩
  have main : ∀ (m r : Nat) (f0 : Nat → Nat) (N : Mm), 64 - r = m → r ≤ 64 → Snd (EB σ (okF σ q (σ (160 + q)))) (σ (160 + q)) 0 (xF σ) f0 10 → (∀ e, f0 e ≤ 10) → f0 (σ (160 + q)) = 0 → RR (EB σ (okF σ q (σ (160 + q)))) (σ (160 + q)) 0 (xF σ) f0 r → Fr [84] M N → (∀ e, e < 64 → N.1 84 e = vI (f0 e)) → Wn (d + 4) 242 (PCf M 84 (fiR σ q gl)) (45, [(6, .int (nI r)), (5, .int (nI 1)), (4, .int (nI (σ (160 + q)))), (0, .ref 83), (1, .ref 6), (2, .int (nI q)), (3, .int (nI gl))], [], N) := by
    intro m
    induction m using Nat.strongRecOn with
    | _ m ih =>
      intro r f0 N hm hr64 hs fi f00 hR FN hr
      refine Wn.run (tab := tb_wy_thickest) rfl 3 (c' := (if (nI 64) ≤ (nI r) then 107 else 52, [(6, .int (nI r)), (5, .int (nI 1)), (4, .int (nI (σ (160 + q)))), (0, .ref 83), (1, .ref 6), (2, .int (nI q)), (3, .int (nI gl))], [], N)) (o := []) rfl trivial ?_
      by_cases ce : 64 ≤ r
      · rw [if_pos ((n_le rfl rfl (by omega) (by omega)).mpr ce)]
        have er : r = 64 := by omega
        subst er
        exact fin N f0 _ _ FN hr fi hs hR
      rw [if_neg (mt (n_le rfl rfl (by omega) (by omega)).mp ce)]
      refine Wn.run (tab := tb_wy_thickest) rfl 2 (c' := (if (nI 1) = 0 then 107 else 57, [(6, .int (nI r)), (5, .int (nI 1)), (4, .int (nI (σ (160 + q)))), (0, .ref 83), (1, .ref 6), (2, .int (nI q)), (3, .int (nI gl))], [], N)) (o := []) rfl trivial ?_
      rw [if_neg (show ¬ nI 1 = 0 by decide)]
      refine Wn.run (tab := tb_wy_thickest) rfl 4 (c' := (63, [(7, .int (nI 0)), (5, .int (nI 0)), (6, .int (nI r)), (4, .int (nI (σ (160 + q)))), (0, .ref 83), (1, .ref 6), (2, .int (nI q)), (3, .int (nI gl))], [], N)) (o := []) rfl trivial ?_
      refine Wn.lvp [0, 2, 1, 3, 4, 5, 6, 7] (lv' := [(7, .int (nI 0)), (6, .int (nI r)), (5, .int (nI 0)), (4, .int (nI (σ (160 + q)))), (0, .ref 83), (1, .ref 6), (2, .int (nI q)), (3, .int (nI gl))]) rfl ?_
      have cells : ∀ (m2 c : Nat) (b : Bool) (f : Nat → Nat) (N1 : Mm), 64 - c = m2 → c ≤ 64 → RI σ (okF σ q (σ (160 + q))) (σ (160 + q)) 0 (xF σ) 10 f0 f c 0 b → Fr [84] M N1 → (∀ e, e < 64 → N1.1 84 e = vI (f e)) → Wn (d + 4) 242 (PCf M 84 (fiR σ q gl)) (63, [(7, .int (nI c)), (6, .int (nI r)), (5, .int (b2 (b = true))), (4, .int (nI (σ (160 + q)))), (0, .ref 83), (1, .ref 6), (2, .int (nI q)), (3, .int (nI gl))], [], N1) := by
        intro m2
        induction m2 using Nat.strongRecOn with
        | _ m2 ih2 =>
          intro c b f N1 hm2 hc hI F1 hr1
          refine Wn.run (tab := tb_wy_thickest) rfl 3 (c' := (if (nI 64) ≤ (nI c) then 101 else 70, [(7, .int (nI c)), (6, .int (nI r)), (5, .int (b2 (b = true))), (4, .int (nI (σ (160 + q)))), (0, .ref 83), (1, .ref 6), (2, .int (nI q)), (3, .int (nI gl))], [], N1)) (o := []) rfl trivial ?_
          by_cases ce : 64 ≤ c
          · rw [if_pos ((n_le rfl rfl (by omega) (by omega)).mpr ce)]
            have ec : c = 64 := by omega
            subst ec
            have fi1 : ∀ e, f e ≤ 10 := fun e => Nat.le_trans (hI.2.1 e) (fi e)
            refine Wn.run (tab := tb_wy_thickest) rfl 2 (c' := (45, [(6, .int ((nI r) + (nI 1))), (7, .int (nI 64)), (5, .int (b2 (b = true))), (4, .int (nI (σ (160 + q)))), (0, .ref 83), (1, .ref 6), (2, .int (nI q)), (3, .int (nI gl))], [], N1)) (o := []) rfl trivial ?_
            rw [nI_add]
            refine Wn.lvp [0, 2, 3, 4, 5, 6, 7] (lv' := [(6, .int (nI (r + 1))), (5, .int (b2 (b = true))), (4, .int (nI (σ (160 + q)))), (0, .ref 83), (1, .ref 6), (2, .int (nI q)), (3, .int (nI gl))]) rfl ?_
            cases b with
            | true => exact ih (64 - (r + 1)) (by omega) (r + 1) f N1 rfl (by omega) hI.1 fi1 (by have := hI.2.1 (σ (160 + q)); omega) (RR_up (xF_mono σ) fi hI hR) F1 hr1
            | false =>
              have R64 := RR_no (xF_mono σ) fi (by omega) hI 64
              show Wn _ 242 _ (45, [(6, .int (nI (r + 1))), (5, .int (nI 0)), (4, .int (nI (σ (160 + q)))), (0, .ref 83), (1, .ref 6), (2, .int (nI q)), (3, .int (nI gl))], [], N1)
              refine Wn.run (tab := tb_wy_thickest) rfl 3 (c' := (if (nI 64) ≤ (nI (r + 1)) then 107 else 52, [(6, .int (nI (r + 1))), (5, .int (nI 0)), (4, .int (nI (σ (160 + q)))), (0, .ref 83), (1, .ref 6), (2, .int (nI q)), (3, .int (nI gl))], [], N1)) (o := []) rfl trivial ?_
              by_cases ce2 : 64 ≤ r + 1
              · rw [if_pos ((n_le rfl rfl (by omega) (by omega)).mpr ce2)]
                exact fin N1 f _ _ F1 hr1 fi1 hI.1 R64
              rw [if_neg (mt (n_le rfl rfl (by omega) (by omega)).mp ce2)]
              refine Wn.run (tab := tb_wy_thickest) rfl 2 (c' := (if (nI 0) = 0 then 107 else 57, [(6, .int (nI (r + 1))), (5, .int (nI 0)), (4, .int (nI (σ (160 + q)))), (0, .ref 83), (1, .ref 6), (2, .int (nI q)), (3, .int (nI gl))], [], N1)) (o := []) rfl trivial ?_
              rw [if_pos (show nI 0 = 0 by decide)]
              exact fin N1 f _ _ F1 hr1 fi1 hI.1 R64
          rw [if_neg (mt (n_le rfl rfl (by omega) (by omega)).mp ce)]
          have fc : f c ≤ 10 := Nat.le_trans (hI.2.1 c) (fi c)
          have rc : N1.1 84 ((nI c)).toNatClampNeg = vI (f c) := by rw [nI_clamp (by omega)]; exact hr1 c (by omega)
          refine Wn.run (tab := tb_wy_thickest) rfl 6 (c' := (if (N1.1 84 ((nI c)).toNatClampNeg) = (-1 : Int32) then 95 else 81, [(7, .int (nI c)), (6, .int (nI r)), (5, .int (b2 (b = true))), (4, .int (nI (σ (160 + q)))), (0, .ref 83), (1, .ref 6), (2, .int (nI q)), (3, .int (nI gl))], [], N1)) (o := [shp 83 = (0, 7), aok shp 84 0 (nI c)]) rfl ⟨rfl, (ak1 (n := 64) rfl rfl rfl (by omega))⟩ ?_
          have z95 : ∀ (b2_ : Bool) (f2 : Nat → Nat) (N2 : Mm), RI σ (okF σ q (σ (160 + q))) (σ (160 + q)) 0 (xF σ) 10 f0 f2 (c + 1) 0 b2_ → Fr [84] M N2 → (∀ e, e < 64 → N2.1 84 e = vI (f2 e)) → Wn (d + 4) 242 (PCf M 84 (fiR σ q gl)) (95, [(7, .int (nI c)), (6, .int (nI r)), (5, .int (b2 (b2_ = true))), (4, .int (nI (σ (160 + q)))), (0, .ref 83), (1, .ref 6), (2, .int (nI q)), (3, .int (nI gl))], [], N2) := by
            intro b2_ f2 N2 h1 h2 h3
            refine Wn.run (tab := tb_wy_thickest) rfl 2 (c' := (63, [(7, .int ((nI c) + (nI 1))), (6, .int (nI r)), (5, .int (b2 (b2_ = true))), (4, .int (nI (σ (160 + q)))), (0, .ref 83), (1, .ref 6), (2, .int (nI q)), (3, .int (nI gl))], [], N2)) (o := []) rfl trivial ?_
            rw [nI_add]
            exact ih2 (64 - (c + 1)) (by omega) (c + 1) b2_ f2 N2 rfl (by omega) h1 h2 h3
          rw [rc]
          by_cases cf : f c < 10
          rotate_left
          · rw [if_pos ((vI_m1 _ (by omega)).mpr cf)]
            exact z95 b f N1 (RI_cell hI (Or.inr cf)) F1 hr1
          rw [if_neg (fun e => (vI_m1 _ (by omega)).mp e cf)]
          refine Wn.run (tab := tb_wy_thickest) rfl 4 (c' := (86, [(7, .int (nI c)), (6, .int (nI r)), (5, .int (b2 (b = true))), (4, .int (nI (σ (160 + q)))), (0, .ref 83), (1, .ref 6), (2, .int (nI q)), (3, .int (nI gl))], [.int (nI c), .int (nI q), .ref 6, .ref 83], N1)) (o := []) rfl trivial ?_
          refine Wn.callV (p := 83) (n := 4) (ix := 73) (ci := (7)) (PSf N1 84 (fun b9 f9 => RI σ (okF σ q (σ (160 + q))) (σ (160 + q)) 0 (xF σ) 10 f0 f9 c 4 (b || b9))) [.ref 6, .int (nI q), .int (nI c)] [] rfl rfl rfl rfl (Nat.le_of_ble_eq_true rfl) (Nat.le_of_ble_eq_true rfl) (c_wy_spreadThickness _ N1 σ (fr_st F1 hS (by decide)) hB q c hq (by omega) f0 f fi f00 b hI hr1 cf) ?_
          rintro _ N2 ⟨b9, f9, rfl, I9, r9, F9⟩
          show Wn _ 242 _ (89, [(7, .int (nI c)), (6, .int (nI r)), (5, .int (b2 (b = true))), (4, .int (nI (σ (160 + q)))), (0, .ref 83), (1, .ref 6), (2, .int (nI q)), (3, .int (nI gl))], [.int (b2 (b9 = true))], N2)
          refine Wn.run (tab := tb_wy_thickest) rfl 1 (c' := (if (b2 (b9 = true)) = 0 then 95 else 92, [(7, .int (nI c)), (6, .int (nI r)), (5, .int (b2 (b = true))), (4, .int (nI (σ (160 + q)))), (0, .ref 83), (1, .ref 6), (2, .int (nI q)), (3, .int (nI gl))], [], N2)) (o := []) rfl trivial ?_
          have F29 : Fr [84] M N2 := fr_tr F1 F9 (by decide)
          cases b9 with
          | false =>
            rw [Bool.or_false] at I9
            rw [if_pos (b2_e0.mpr (by decide))]
            exact z95 b f9 N2 (RI_cell I9 (Or.inl rfl)) F29 r9
          | true =>
            rw [Bool.or_true] at I9
            rw [if_neg (b2_n0.mpr rfl)]
            refine Wn.run (tab := tb_wy_thickest) rfl 2 (c' := (95, [(5, .int (nI 1)), (7, .int (nI c)), (6, .int (nI r)), (4, .int (nI (σ (160 + q)))), (0, .ref 83), (1, .ref 6), (2, .int (nI q)), (3, .int (nI gl))], [], N2)) (o := []) rfl trivial ?_
            refine Wn.lvp [1, 2, 0, 3, 4, 5, 6, 7] (lv' := [(7, .int (nI c)), (6, .int (nI r)), (5, .int (b2 (true = true))), (4, .int (nI (σ (160 + q)))), (0, .ref 83), (1, .ref 6), (2, .int (nI q)), (3, .int (nI gl))]) rfl ?_
            exact z95 true f9 N2 (RI_cell I9 (Or.inl rfl)) F29 r9
      exact cells 64 0 false f0 N rfl (by omega) (RI_0 hs) FN hr
  exact main 64 0 _ M2 rfl (by omega) (f0B_snd hst) (fun e => f0B_le _ _ e) (if_pos rfl) (RR_0 (by unfold f0B; rw [if_pos rfl]; exact Nat.le_refl _)) F2 r2
theorem c_i_firm (d : Nat) (M : Mm) (σ : Nat → Nat) (hS : StC M 6 σ) (hB : Bd σ) (q x y : Nat) (hq : q < σ 2) (hx : x < σ 0) (hy : y < σ 1) (hf : ¬ fal σ q = true) : Wn (d + 5) 21 (PCf M 84 (fiR σ q (8 * y + x))) (0, lv_args 0 [.ref 0, .int (nI q), .int (nI x), .int (nI y)], [], M) := by
  have w9 := hB.2.1
  have h9 := hB.2.2.2.1
  refine Wn.run (tab := tb_i_firm) rfl 4 (c' := (4, [(0, .ref 0), (1, .int (nI q)), (2, .int (nI x)), (3, .int (nI y))], [.int (nI y), .int (nI x), .int (nI q), .ref 0], M)) (o := []) rfl trivial ?_
  refine Wn.callV (p := 0) (n := 4) (ix := 290) (ci := (9)) (fun r0 M0 => r0 = some (.int (nI 1)) ∧ M = M0) [.int (nI q), .int (nI x), .int (nI y)] [] rfl rfl rfl rfl (Nat.le_of_ble_eq_true rfl) (Nat.le_of_ble_eq_true rfl) (w_i_canSetOut _ M σ hS hB _ _ _ _ (fun _ => ⟨rfl, rfl⟩) (fun h => absurd (cso_n hB hq hx hy hf) h)) ?_
  rintro _ _ ⟨rfl, rfl⟩
  show Wn _ 21 _ (7, [(0, .ref 0), (1, .int (nI q)), (2, .int (nI x)), (3, .int (nI y))], [.int (nI 1)], M)
  refine Wn.run (tab := tb_i_firm) rfl 1 (c' := (if (nI 1) = 0 then 34 else 10, [(0, .ref 0), (1, .int (nI q)), (2, .int (nI x)), (3, .int (nI y))], [], M)) (o := []) rfl trivial ?_
  rw [if_neg (show ¬ nI 1 = 0 by decide)]
  refine Wn.run (tab := tb_i_firm) rfl 11 (c' := (28, [(0, .ref 0), (1, .int (nI q)), (2, .int (nI x)), (3, .int (nI y))], [.int (((nI 8) * (nI y)) + (nI x)), .int (nI q), .ref 6, .ref 83], M)) (o := [shp 0 = (0, 9), shp 0 = (0, 9), shp 2 = (0, 8)]) rfl ⟨rfl, rfl, rfl⟩ ?_
  rw [pk_mul, nI_add]
  refine Wn.callV (p := 83) (n := 4) (ix := 304) (ci := (7)) (PCf M 84 (fiR σ q (8 * y + x))) [.ref 6, .int (nI q), .int (nI (8 * y + x))] [] rfl rfl rfl rfl (Nat.le_of_ble_eq_true rfl) (Nat.le_of_ble_eq_true rfl) (c_wy_thickest _ M σ hS hB q _ hq (by omega) ⟨by omega, by omega⟩) ?_
  rintro _ M1 ⟨⟨o, ho, rfl⟩, F1⟩
  show Wn _ 21 _ (31, [(0, .ref 0), (1, .int (nI q)), (2, .int (nI x)), (3, .int (nI y))], [.int o], M1)
  refine Wn.run (tab := tb_i_firm) rfl 1 (c' := (35, [(0, .ref 0), (1, .int (nI q)), (2, .int (nI x)), (3, .int (nI y))], [.int o], M1)) (o := []) rfl trivial ?_
  exact Wn.iret rfl ⟨⟨o, ho, rfl⟩, F1⟩
