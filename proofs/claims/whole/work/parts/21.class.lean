theorem far_1 : ∀ a, a < 64 → ∀ c, c < 64 → (0 ≤ (((nI a) - (nI a) / (nI 8) * (nI 8)) - ((nI c) - (nI c) / (nI 8) * (nI 8)))) → (0 ≤ (((nI a) / (nI 8)) - ((nI c) / (nI 8)))) → ((((nI a) - (nI a) / (nI 8) * (nI 8)) - ((nI c) - (nI c) / (nI 8) * (nI 8))) + (((nI a) / (nI 8)) - ((nI c) / (nI 8)))) = nI (far a c) := by decide +kernel
theorem far_2 : ∀ a, a < 64 → ∀ c, c < 64 → (0 ≤ (((nI a) - (nI a) / (nI 8) * (nI 8)) - ((nI c) - (nI c) / (nI 8) * (nI 8)))) → ¬ (0 ≤ (((nI a) / (nI 8)) - ((nI c) / (nI 8)))) → ((((nI a) - (nI a) / (nI 8) * (nI 8)) - ((nI c) - (nI c) / (nI 8) * (nI 8))) + (-(((nI a) / (nI 8)) - ((nI c) / (nI 8))))) = nI (far a c) := by decide +kernel
theorem far_3 : ∀ a, a < 64 → ∀ c, c < 64 → ¬ (0 ≤ (((nI a) - (nI a) / (nI 8) * (nI 8)) - ((nI c) - (nI c) / (nI 8) * (nI 8)))) → (0 ≤ (((nI a) / (nI 8)) - ((nI c) / (nI 8)))) → ((-(((nI a) - (nI a) / (nI 8) * (nI 8)) - ((nI c) - (nI c) / (nI 8) * (nI 8)))) + (((nI a) / (nI 8)) - ((nI c) / (nI 8)))) = nI (far a c) := by decide +kernel
theorem far_4 : ∀ a, a < 64 → ∀ c, c < 64 → ¬ (0 ≤ (((nI a) - (nI a) / (nI 8) * (nI 8)) - ((nI c) - (nI c) / (nI 8) * (nI 8)))) → ¬ (0 ≤ (((nI a) / (nI 8)) - ((nI c) / (nI 8)))) → ((-(((nI a) - (nI a) / (nI 8) * (nI 8)) - ((nI c) - (nI c) / (nI 8) * (nI 8)))) + (-(((nI a) / (nI 8)) - ((nI c) / (nI 8))))) = nI (far a c) := by decide +kernel
theorem w_lk_far (d : Nat) (a c : Nat) (ha : a < 64) (hc : c < 64) (M : Mm) (Q : Po) (hQ : Q (some (.int (nI (far a c)))) M) : Wn (d + 0) 169 Q (0, lv_args 0 [.int (nI a), .int (nI c)], [], M) := by
  refine Wn.run (tab := tb_lk_far) rfl 18 (c' := (if 0 ≤ (((nI a) - (nI a) / (nI 8) * (nI 8)) - ((nI c) - (nI c) / (nI 8) * (nI 8))) then 29 else 24, [(3, .int (((nI a) / (nI 8)) - ((nI c) / (nI 8)))), (2, .int (((nI a) - (nI a) / (nI 8) * (nI 8)) - ((nI c) - (nI c) / (nI 8) * (nI 8)))), (0, .int (nI a)), (1, .int (nI c))], [], M)) (o := [¬ (nI 8) = 0, ¬ (nI 8) = 0, ¬ (nI 8) = 0, ¬ (nI 8) = 0]) rfl ⟨(show ¬ (nI 8) = 0 by decide), (show ¬ (nI 8) = 0 by decide), (show ¬ (nI 8) = 0 by decide), (show ¬ (nI 8) = 0 by decide)⟩ ?_
  refine Wn.br (fun h1 => ?_) (fun h1 => ?_)
  · show Wn _ 169 _ (29, [(3, .int (((nI a) / (nI 8)) - ((nI c) / (nI 8)))), (2, .int (((nI a) - (nI a) / (nI 8) * (nI 8)) - ((nI c) - (nI c) / (nI 8) * (nI 8)))), (0, .int (nI a)), (1, .int (nI c))], [], M)
    refine Wn.run (tab := tb_lk_far) rfl 3 (c' := (if 0 ≤ (((nI a) / (nI 8)) - ((nI c) / (nI 8))) then 39 else 34, [(3, .int (((nI a) / (nI 8)) - ((nI c) / (nI 8)))), (2, .int (((nI a) - (nI a) / (nI 8) * (nI 8)) - ((nI c) - (nI c) / (nI 8) * (nI 8)))), (0, .int (nI a)), (1, .int (nI c))], [.int (((nI a) - (nI a) / (nI 8) * (nI 8)) - ((nI c) - (nI c) / (nI 8) * (nI 8)))], M)) (o := []) rfl trivial ?_
    refine Wn.br (fun h2 => ?_) (fun h2 => ?_)
    · show Wn _ 169 _ (39, [(3, .int (((nI a) / (nI 8)) - ((nI c) / (nI 8)))), (2, .int (((nI a) - (nI a) / (nI 8) * (nI 8)) - ((nI c) - (nI c) / (nI 8) * (nI 8)))), (0, .int (nI a)), (1, .int (nI c))], [.int (((nI a) - (nI a) / (nI 8) * (nI 8)) - ((nI c) - (nI c) / (nI 8) * (nI 8)))], M)
      refine Wn.run (tab := tb_lk_far) rfl 2 (c' := (41, [(3, .int (((nI a) / (nI 8)) - ((nI c) / (nI 8)))), (2, .int (((nI a) - (nI a) / (nI 8) * (nI 8)) - ((nI c) - (nI c) / (nI 8) * (nI 8)))), (0, .int (nI a)), (1, .int (nI c))], [.int ((((nI a) - (nI a) / (nI 8) * (nI 8)) - ((nI c) - (nI c) / (nI 8) * (nI 8))) + (((nI a) / (nI 8)) - ((nI c) / (nI 8))))], M)) (o := []) rfl trivial ?_
      exact Wn.iret rfl (by rw [far_1 a ha c hc h1 h2]; exact hQ)
    · show Wn _ 169 _ (34, [(3, .int (((nI a) / (nI 8)) - ((nI c) / (nI 8)))), (2, .int (((nI a) - (nI a) / (nI 8) * (nI 8)) - ((nI c) - (nI c) / (nI 8) * (nI 8)))), (0, .int (nI a)), (1, .int (nI c))], [.int (((nI a) - (nI a) / (nI 8) * (nI 8)) - ((nI c) - (nI c) / (nI 8) * (nI 8)))], M)
      refine Wn.run (tab := tb_lk_far) rfl 4 (c' := (41, [(3, .int (((nI a) / (nI 8)) - ((nI c) / (nI 8)))), (2, .int (((nI a) - (nI a) / (nI 8) * (nI 8)) - ((nI c) - (nI c) / (nI 8) * (nI 8)))), (0, .int (nI a)), (1, .int (nI c))], [.int ((((nI a) - (nI a) / (nI 8) * (nI 8)) - ((nI c) - (nI c) / (nI 8) * (nI 8))) + (-(((nI a) / (nI 8)) - ((nI c) / (nI 8)))))], M)) (o := []) rfl trivial ?_
      exact Wn.iret rfl (by rw [far_2 a ha c hc h1 h2]; exact hQ)
  · show Wn _ 169 _ (24, [(3, .int (((nI a) / (nI 8)) - ((nI c) / (nI 8)))), (2, .int (((nI a) - (nI a) / (nI 8) * (nI 8)) - ((nI c) - (nI c) / (nI 8) * (nI 8)))), (0, .int (nI a)), (1, .int (nI c))], [], M)
    refine Wn.run (tab := tb_lk_far) rfl 5 (c' := (if 0 ≤ (((nI a) / (nI 8)) - ((nI c) / (nI 8))) then 39 else 34, [(3, .int (((nI a) / (nI 8)) - ((nI c) / (nI 8)))), (2, .int (((nI a) - (nI a) / (nI 8) * (nI 8)) - ((nI c) - (nI c) / (nI 8) * (nI 8)))), (0, .int (nI a)), (1, .int (nI c))], [.int (-(((nI a) - (nI a) / (nI 8) * (nI 8)) - ((nI c) - (nI c) / (nI 8) * (nI 8))))], M)) (o := []) rfl trivial ?_
    refine Wn.br (fun h3 => ?_) (fun h3 => ?_)
    · show Wn _ 169 _ (39, [(3, .int (((nI a) / (nI 8)) - ((nI c) / (nI 8)))), (2, .int (((nI a) - (nI a) / (nI 8) * (nI 8)) - ((nI c) - (nI c) / (nI 8) * (nI 8)))), (0, .int (nI a)), (1, .int (nI c))], [.int (-(((nI a) - (nI a) / (nI 8) * (nI 8)) - ((nI c) - (nI c) / (nI 8) * (nI 8))))], M)
      refine Wn.run (tab := tb_lk_far) rfl 2 (c' := (41, [(3, .int (((nI a) / (nI 8)) - ((nI c) / (nI 8)))), (2, .int (((nI a) - (nI a) / (nI 8) * (nI 8)) - ((nI c) - (nI c) / (nI 8) * (nI 8)))), (0, .int (nI a)), (1, .int (nI c))], [.int ((-(((nI a) - (nI a) / (nI 8) * (nI 8)) - ((nI c) - (nI c) / (nI 8) * (nI 8)))) + (((nI a) / (nI 8)) - ((nI c) / (nI 8))))], M)) (o := []) rfl trivial ?_
      exact Wn.iret rfl (by rw [far_3 a ha c hc h1 h3]; exact hQ)
    · show Wn _ 169 _ (34, [(3, .int (((nI a) / (nI 8)) - ((nI c) / (nI 8)))), (2, .int (((nI a) - (nI a) / (nI 8) * (nI 8)) - ((nI c) - (nI c) / (nI 8) * (nI 8)))), (0, .int (nI a)), (1, .int (nI c))], [.int (-(((nI a) - (nI a) / (nI 8) * (nI 8)) - ((nI c) - (nI c) / (nI 8) * (nI 8))))], M)
      refine Wn.run (tab := tb_lk_far) rfl 4 (c' := (41, [(3, .int (((nI a) / (nI 8)) - ((nI c) / (nI 8)))), (2, .int (((nI a) - (nI a) / (nI 8) * (nI 8)) - ((nI c) - (nI c) / (nI 8) * (nI 8)))), (0, .int (nI a)), (1, .int (nI c))], [.int ((-(((nI a) - (nI a) / (nI 8) * (nI 8)) - ((nI c) - (nI c) / (nI 8) * (nI 8)))) + (-(((nI a) / (nI 8)) - ((nI c) / (nI 8)))))], M)) (o := []) rfl trivial ?_
      exact Wn.iret rfl (by rw [far_4 a ha c hc h1 h3]; exact hQ)
set_option maxRecDepth 20000 in
theorem w_lk_isPerson (d : Nat) (M : Mm) (p : Nat) (σ : Nat → Nat) (hL : LkC M p σ) (hB : Bd σ) (q : Int32) (Q : Po) (hQ : Q (some (.int (b2 (0 ≤ q.toInt ∧ q.toInt < (σ 2 : Int))))) M) : Wn (d + 0) 164 Q (0, lv_args 0 [.ref p, .int q], [], M) := by
  have k2 := Bd_2 hB
  refine Wn.run (tab := tb_lk_isPerson) rfl 2 (c' := (if q < 0 then 16 else 4, [(0, .ref p), (1, .int q)], [], M)) (o := []) rfl trivial ?_
  refine Wn.br (fun h1 => ?_) (fun h1 => ?_)
  · show Wn _ 164 _ (16, [(0, .ref p), (1, .int q)], [], M)
    refine Wn.run (tab := tb_lk_isPerson) rfl 1 (c' := (17, [(0, .ref p), (1, .int q)], [.int (nI 0)], M)) (o := []) rfl trivial ?_
    have h1 := Int32.lt_iff_toInt_lt.mp h1
    have z9 : (0 : Int32).toInt = 0 := rfl
    exact Wn.zret rfl (Or.inl rfl) (by rw [b2_f (by omega)] at hQ; exact hQ)
  · show Wn _ 164 _ (4, [(0, .ref p), (1, .int q)], [], M)
    refine Wn.run (tab := tb_lk_isPerson) rfl 4 (c' := (if (M.1 p 2) ≤ q then 16 else 12, [(0, .ref p), (1, .int q)], [], M)) (o := [shp p = (0, 2)]) rfl hL.1 ?_
    refine Wn.br (fun h2 => ?_) (fun h2 => ?_)
    · show Wn _ 164 _ (16, [(0, .ref p), (1, .int q)], [], M)
      refine Wn.run (tab := tb_lk_isPerson) rfl 1 (c' := (17, [(0, .ref p), (1, .int q)], [.int (nI 0)], M)) (o := []) rfl trivial ?_
      have h1 := mt Int32.lt_iff_toInt_lt.mpr h1
      have h2 := Int32.le_iff_toInt_le.mp h2
      rw [show (M.1 p 2) = nI (σ 2) from (hL.2.2.2.1 2 (by decide)), nI_toInt (by omega)] at h2
      have z9 : (0 : Int32).toInt = 0 := rfl
      exact Wn.zret rfl (Or.inl rfl) (by rw [b2_f (by omega)] at hQ; exact hQ)
    · show Wn _ 164 _ (12, [(0, .ref p), (1, .int q)], [], M)
      refine Wn.run (tab := tb_lk_isPerson) rfl 2 (c' := (17, [(0, .ref p), (1, .int q)], [.int (nI 1)], M)) (o := []) rfl trivial ?_
      have h1 := mt Int32.lt_iff_toInt_lt.mpr h1
      have h2 := mt Int32.le_iff_toInt_le.mpr h2
      rw [show (M.1 p 2) = nI (σ 2) from (hL.2.2.2.1 2 (by decide)), nI_toInt (by omega)] at h2
      have z9 : (0 : Int32).toInt = 0 := rfl
      exact Wn.zret rfl (Or.inr rfl) (by rw [b2_t (by omega)] at hQ; exact hQ)
set_option maxRecDepth 20000 in
theorem w_lk_isCell (d : Nat) (M : Mm) (p : Nat) (σ : Nat → Nat) (hL : LkC M p σ) (hB : Bd σ) (x y : Int32) (Q : Po) (hQ : Q (some (.int (b2 (0 ≤ x.toInt ∧ x.toInt < (σ 0 : Int) ∧ 0 ≤ y.toInt ∧ y.toInt < (σ 1 : Int))))) M) : Wn (d + 0) 165 Q (0, lv_args 0 [.ref p, .int x, .int y], [], M) := by
  have k0 := Bd_0 hB
  have k1 := Bd_1 hB
  refine Wn.run (tab := tb_lk_isCell) rfl 2 (c' := (if x < 0 then 28 else 4, [(0, .ref p), (1, .int x), (2, .int y)], [], M)) (o := []) rfl trivial ?_
  refine Wn.br (fun h1 => ?_) (fun h1 => ?_)
  · show Wn _ 165 _ (28, [(0, .ref p), (1, .int x), (2, .int y)], [], M)
    refine Wn.run (tab := tb_lk_isCell) rfl 1 (c' := (29, [(0, .ref p), (1, .int x), (2, .int y)], [.int (nI 0)], M)) (o := []) rfl trivial ?_
    have h1 := Int32.lt_iff_toInt_lt.mp h1
    have z9 : (0 : Int32).toInt = 0 := rfl
    exact Wn.zret rfl (Or.inl rfl) (by rw [b2_f (by omega)] at hQ; exact hQ)
  · show Wn _ 165 _ (4, [(0, .ref p), (1, .int x), (2, .int y)], [], M)
    refine Wn.run (tab := tb_lk_isCell) rfl 4 (c' := (if (M.1 p 0) ≤ x then 28 else 12, [(0, .ref p), (1, .int x), (2, .int y)], [], M)) (o := [shp p = (0, 2)]) rfl hL.1 ?_
    refine Wn.br (fun h2 => ?_) (fun h2 => ?_)
    · show Wn _ 165 _ (28, [(0, .ref p), (1, .int x), (2, .int y)], [], M)
      refine Wn.run (tab := tb_lk_isCell) rfl 1 (c' := (29, [(0, .ref p), (1, .int x), (2, .int y)], [.int (nI 0)], M)) (o := []) rfl trivial ?_
      have h1 := mt Int32.lt_iff_toInt_lt.mpr h1
      have h2 := Int32.le_iff_toInt_le.mp h2
      rw [show (M.1 p 0) = nI (σ 0) from (hL.2.2.2.1 0 (by decide)), nI_toInt (by omega)] at h2
      have z9 : (0 : Int32).toInt = 0 := rfl
      exact Wn.zret rfl (Or.inl rfl) (by rw [b2_f (by omega)] at hQ; exact hQ)
    · show Wn _ 165 _ (12, [(0, .ref p), (1, .int x), (2, .int y)], [], M)
      refine Wn.run (tab := tb_lk_isCell) rfl 2 (c' := (if y < 0 then 28 else 16, [(0, .ref p), (1, .int x), (2, .int y)], [], M)) (o := []) rfl trivial ?_
      refine Wn.br (fun h3 => ?_) (fun h3 => ?_)
      · show Wn _ 165 _ (28, [(0, .ref p), (1, .int x), (2, .int y)], [], M)
        refine Wn.run (tab := tb_lk_isCell) rfl 1 (c' := (29, [(0, .ref p), (1, .int x), (2, .int y)], [.int (nI 0)], M)) (o := []) rfl trivial ?_
        have h1 := mt Int32.lt_iff_toInt_lt.mpr h1
        have h2 := mt Int32.le_iff_toInt_le.mpr h2
        rw [show (M.1 p 0) = nI (σ 0) from (hL.2.2.2.1 0 (by decide)), nI_toInt (by omega)] at h2
        have h3 := Int32.lt_iff_toInt_lt.mp h3
        have z9 : (0 : Int32).toInt = 0 := rfl
        exact Wn.zret rfl (Or.inl rfl) (by rw [b2_f (by omega)] at hQ; exact hQ)
      · show Wn _ 165 _ (16, [(0, .ref p), (1, .int x), (2, .int y)], [], M)
        refine Wn.run (tab := tb_lk_isCell) rfl 4 (c' := (if (M.1 p 1) ≤ y then 28 else 24, [(0, .ref p), (1, .int x), (2, .int y)], [], M)) (o := [shp p = (0, 2)]) rfl hL.1 ?_
        refine Wn.br (fun h4 => ?_) (fun h4 => ?_)
        · show Wn _ 165 _ (28, [(0, .ref p), (1, .int x), (2, .int y)], [], M)
          refine Wn.run (tab := tb_lk_isCell) rfl 1 (c' := (29, [(0, .ref p), (1, .int x), (2, .int y)], [.int (nI 0)], M)) (o := []) rfl trivial ?_
          have h1 := mt Int32.lt_iff_toInt_lt.mpr h1
          have h2 := mt Int32.le_iff_toInt_le.mpr h2
          rw [show (M.1 p 0) = nI (σ 0) from (hL.2.2.2.1 0 (by decide)), nI_toInt (by omega)] at h2
          have h3 := mt Int32.lt_iff_toInt_lt.mpr h3
          have h4 := Int32.le_iff_toInt_le.mp h4
          rw [show (M.1 p 1) = nI (σ 1) from (hL.2.2.2.1 1 (by decide)), nI_toInt (by omega)] at h4
          have z9 : (0 : Int32).toInt = 0 := rfl
          exact Wn.zret rfl (Or.inl rfl) (by rw [b2_f (by omega)] at hQ; exact hQ)
        · show Wn _ 165 _ (24, [(0, .ref p), (1, .int x), (2, .int y)], [], M)
          refine Wn.run (tab := tb_lk_isCell) rfl 2 (c' := (29, [(0, .ref p), (1, .int x), (2, .int y)], [.int (nI 1)], M)) (o := []) rfl trivial ?_
          have h1 := mt Int32.lt_iff_toInt_lt.mpr h1
          have h2 := mt Int32.le_iff_toInt_le.mpr h2
          rw [show (M.1 p 0) = nI (σ 0) from (hL.2.2.2.1 0 (by decide)), nI_toInt (by omega)] at h2
          have h3 := mt Int32.lt_iff_toInt_lt.mpr h3
          have h4 := mt Int32.le_iff_toInt_le.mpr h4
          rw [show (M.1 p 1) = nI (σ 1) from (hL.2.2.2.1 1 (by decide)), nI_toInt (by omega)] at h4
          have z9 : (0 : Int32).toInt = 0 := rfl
          exact Wn.zret rfl (Or.inr rfl) (by rw [b2_t (by omega)] at hQ; exact hQ)
set_option maxRecDepth 20000 in
theorem w_st_isFallen (d : Nat) (M : Mm) (b : Nat) (σ : Nat → Nat) (hS : StC M b σ) (hB : Bd σ) (q : Nat) (hq : q < 6) (Q : Po) (hQ : Q (some (.int (b2 (fal σ q = true)))) M) : Wn (d + 0) 200 Q (0, lv_args 0 [.ref b, .int (nI q)], [], M) := by
  refine Wn.run (tab := tb_st_isFallen) rfl 7 (c' := (if (((M.1 b 5) >>> ((nI q) &&& 31)) &&& (nI 1)) = 0 then 15 else 11, [(0, .ref b), (1, .int (nI q))], [], M)) (o := [shp b = (0, 5)]) rfl hS.1.1 ?_
  refine Wn.br (fun h1 => ?_) (fun h1 => ?_)
  · show Wn _ 200 _ (15, [(0, .ref b), (1, .int (nI q))], [], M)
    refine Wn.run (tab := tb_st_isFallen) rfl 1 (c' := (16, [(0, .ref b), (1, .int (nI q))], [.int (nI 0)], M)) (o := []) rfl trivial ?_
    rw [hS.2.2.1.1] at h1
    have h2 := (bit_okc (σ 91) (Bd_91 hB) q hq).mp h1
    exact Wn.zret rfl (Or.inl rfl) (by rw [b2_f (show ¬ fal σ q = true from h2)] at hQ; exact hQ)
  · show Wn _ 200 _ (11, [(0, .ref b), (1, .int (nI q))], [], M)
    refine Wn.run (tab := tb_st_isFallen) rfl 2 (c' := (16, [(0, .ref b), (1, .int (nI q))], [.int (nI 1)], M)) (o := []) rfl trivial ?_
    rw [hS.2.2.1.1] at h1
    have h2 := Classical.not_not.mp (mt (bit_okc (σ 91) (Bd_91 hB) q hq).mpr h1)
    exact Wn.zret rfl (Or.inr rfl) (by rw [b2_t (show fal σ q = true from h2)] at hQ; exact hQ)
/-- the loads on c but x's -/
def ldX (σ : Nat → Nat) (c : Nat) (x : Int32) : Nat → Nat
  | 0 => 0
  | q + 1 => ldX σ c x q + (if onC σ c q = true ∧ ¬ nI q = x then σ (78 + q) else 0)
theorem ldX_le (σ : Nat → Nat) (c : Nat) (x : Int32) (h : ∀ q, q < 6 → σ (78 + q) ≤ 5) : ∀ n, n ≤ 6 → ldX σ c x n ≤ 5 * n
  | 0, _ => Nat.le_refl 0
  | n + 1, hn => by
    have ih := ldX_le σ c x h n (by omega)
    have h1 := h n (by omega)
    unfold ldX
    split <;> omega
theorem ldX_none (σ : Nat → Nat) (c : Nat) : ∀ n, n ≤ 6 → ldX σ c (-1) n = ldN σ c n
  | 0, _ => rfl
  | n + 1, hn => by
    have ih := ldX_none σ c n (by omega)
    have hne : ¬ nI n = (-1 : Int32) := by
      intro h
      have h9 := congrArg Int32.toInt h
      rw [nI_toInt (by omega)] at h9
      have : ((-1 : Int32)).toInt = -1 := rfl
      omega
    unfold ldX ldN
    rw [ih]
    by_cases ho : onC σ c n = true
    · rw [if_pos ⟨ho, hne⟩, if_pos ho]
    · rw [if_neg (fun h => ho h.1), if_neg ho]
theorem ldX_off {σ : Nat → Nat} {c p : Nat} (hp : ¬ onC σ c p = true) (hp6 : p < 6) : ∀ n, n ≤ 6 → ldX σ c (nI p) n = ldN σ c n
  | 0, _ => rfl
  | n + 1, hn => by
    have ih := ldX_off hp hp6 n (by omega)
    unfold ldX ldN
    rw [ih]
    by_cases ho : onC σ c n = true
    · have hne : ¬ nI n = nI p := by
        rw [nI_eq (by omega) (by omega)]
        intro h
        exact hp (h ▸ ho)
      rw [if_pos ⟨ho, hne⟩, if_pos ho]
    · rw [if_neg (fun h => ho h.1), if_neg ho]
set_option maxRecDepth 20000 in
theorem w_st_loadOn (d : Nat) (M : Mm) (b : Nat) (σ : Nat → Nat) (hS : StC M b σ) (hB : Bd σ) (c : Nat) (hc : c < 2 ^ 31) (x : Int32) (Q : Po) (hQ : Q (some (.int (nI (ldX σ c x (σ 2))))) M) : Wn (d + 1) 202 Q (0, lv_args 0 [.ref b, .int (nI c), .int x], [], M) := by
  have c9_2 := Bd_2 hB
  refine Wn.run (tab := tb_st_loadOn) rfl 4 (c' := (5, [(4, .int (nI 0)), (3, .int (nI 0)), (0, .ref b), (1, .int (nI c)), (2, .int x)], [], M)) (o := []) rfl trivial ?_
  have loop : ∀ (m q : Nat), σ 2 - q = m → q ≤ σ 2 → Wn (d + 1) 202 Q (5, [(4, .int (nI q)), (3, .int (nI (ldX σ c x q))), (0, .ref b), (1, .int (nI c)), (2, .int x)], [], M) := by
    intro m
    induction m using Nat.strongRecOn with
    | _ m ih =>
      intro q hm hq
      refine Wn.run (tab := tb_st_loadOn) rfl 5 (c' := (if (M.1 (lkp b) 2) ≤ (nI q) then 62 else 17, [(4, .int (nI q)), (3, .int (nI (ldX σ c x q))), (0, .ref b), (1, .int (nI c)), (2, .int x)], [], M)) (o := [shp b = (0, 5), shp (lkp b) = (0, 2)]) rfl ⟨hS.1.1, hS.2.1.1⟩ ?_
      refine Wn.br (fun h1 => ?_) (fun h1 => ?_)
      · show Wn _ 202 _ (62, [(4, .int (nI q)), (3, .int (nI (ldX σ c x q))), (0, .ref b), (1, .int (nI c)), (2, .int x)], [], M)
        have c9_2 := Bd_2 hB
        have h1 := (n_le (hS.2.1.2.2.2.1 2 (by decide)) rfl (by omega) (by omega)).mp h1
        refine Wn.run (tab := tb_st_loadOn) rfl 1 (c' := (63, [(4, .int (nI q)), (3, .int (nI (ldX σ c x q))), (0, .ref b), (1, .int (nI c)), (2, .int x)], [.int (nI (ldX σ c x q))], M)) (o := []) rfl trivial ?_
        have e9 : q = σ 2 := by omega
        rw [e9]
        exact Wn.iret rfl hQ
      · show Wn _ 202 _ (17, [(4, .int (nI q)), (3, .int (nI (ldX σ c x q))), (0, .ref b), (1, .int (nI c)), (2, .int x)], [], M)
        have c9_2 := Bd_2 hB
        have h1 := mt (n_le (hS.2.1.2.2.2.1 2 (by decide)) rfl (by omega) (by omega)).mpr h1
        refine Wn.run (tab := tb_st_loadOn) rfl 6 (c' := (if ¬ (M.1 (b + 2) ((nI q)).toNatClampNeg) = (nI c) then 56 else 28, [(4, .int (nI q)), (3, .int (nI (ldX σ c x q))), (0, .ref b), (1, .int (nI c)), (2, .int x)], [], M)) (o := [shp b = (0, 5), aok shp (b + 2) 0 (nI q)]) rfl ⟨hS.1.1, (ak2 hS.1.2.2.1 rfl (by omega))⟩ ?_
        refine Wn.br (fun h2 => ?_) (fun h2 => ?_)
        · show Wn _ 202 _ (56, [(4, .int (nI q)), (3, .int (nI (ldX σ c x q))), (0, .ref b), (1, .int (nI c)), (2, .int x)], [], M)
          have f9 := Bd_q hB q (by omega)
          have h2 := mt (n_eq (rdq (v := fun z9 => σ (160 + z9)) hS.2.2.2.2.1 rfl (by omega) (by omega)) rfl (by omega) (by omega)).mpr h2
          refine Wn.run (tab := tb_st_loadOn) rfl 2 (c' := (5, [(4, .int ((nI q) + (nI 1))), (3, .int (nI (ldX σ c x q))), (0, .ref b), (1, .int (nI c)), (2, .int x)], [], M)) (o := []) rfl trivial ?_
          rw [show ((nI q) + (nI 1)) = (nI (q + 1)) from (n_add rfl rfl)]
          have on9 : ¬ (onC σ c q = true ∧ ¬ nI q = x) := by intro h9; have h8 := onC_iff.mp h9.1; exact h2 h8.1
          rw [show (nI (ldX σ c x q)) = (nI (ldX σ c x (q + 1))) from (by show _ = nI (ldX σ c x q + (if _ then σ (78 + q) else 0)); rw [if_neg on9]; rfl)]
          exact ih (σ 2 - (q + 1)) (by omega) (q + 1) rfl (by omega)
        · show Wn _ 202 _ (28, [(4, .int (nI q)), (3, .int (nI (ldX σ c x q))), (0, .ref b), (1, .int (nI c)), (2, .int x)], [], M)
          have f9 := Bd_q hB q (by omega)
          have h2 := (n_eq (rdq (v := fun z9 => σ (160 + z9)) hS.2.2.2.2.1 rfl (by omega) (by omega)) rfl (by omega) (by omega)).mp (Classical.not_not.mp h2)
          refine Wn.run (tab := tb_st_loadOn) rfl 3 (c' := (if (nI q) = x then 56 else 34, [(4, .int (nI q)), (3, .int (nI (ldX σ c x q))), (0, .ref b), (1, .int (nI c)), (2, .int x)], [], M)) (o := []) rfl trivial ?_
          refine Wn.br (fun h3 => ?_) (fun h3 => ?_)
          · show Wn _ 202 _ (56, [(4, .int (nI q)), (3, .int (nI (ldX σ c x q))), (0, .ref b), (1, .int (nI c)), (2, .int x)], [], M)
            refine Wn.run (tab := tb_st_loadOn) rfl 2 (c' := (5, [(4, .int ((nI q) + (nI 1))), (3, .int (nI (ldX σ c x q))), (0, .ref b), (1, .int (nI c)), (2, .int x)], [], M)) (o := []) rfl trivial ?_
            rw [show ((nI q) + (nI 1)) = (nI (q + 1)) from (n_add rfl rfl)]
            have on9 : ¬ (onC σ c q = true ∧ ¬ nI q = x) := by intro h9; have h8 := onC_iff.mp h9.1; exact h9.2 h3
            rw [show (nI (ldX σ c x q)) = (nI (ldX σ c x (q + 1))) from (by show _ = nI (ldX σ c x q + (if _ then σ (78 + q) else 0)); rw [if_neg on9]; rfl)]
            exact ih (σ 2 - (q + 1)) (by omega) (q + 1) rfl (by omega)
          · show Wn _ 202 _ (34, [(4, .int (nI q)), (3, .int (nI (ldX σ c x q))), (0, .ref b), (1, .int (nI c)), (2, .int x)], [], M)
            refine Wn.run (tab := tb_st_loadOn) rfl 2 (c' := (37, [(4, .int (nI q)), (3, .int (nI (ldX σ c x q))), (0, .ref b), (1, .int (nI c)), (2, .int x)], [.int (nI q), .ref b], M)) (o := []) rfl trivial ?_
            refine Wn.callV (p := b) (n := 2) (ix := 70) (ci := (5)) (fun r0 M0 => r0 = some (.int (b2 (fal σ q = true))) ∧ M = M0) [.int (nI q)] [] rfl rfl rfl hS.1.1 (Nat.le_of_ble_eq_true rfl) (Nat.le_of_ble_eq_true rfl) (w_st_isFallen _ M b σ hS hB q (by omega) _ ⟨rfl, rfl⟩) ?_
            rintro _ _ ⟨rfl, rfl⟩
            show Wn _ 202 _ (40, [(4, .int (nI q)), (3, .int (nI (ldX σ c x q))), (0, .ref b), (1, .int (nI c)), (2, .int x)], [.int (b2 (fal σ q = true))], M)
            refine Wn.run (tab := tb_st_loadOn) rfl 1 (c' := (if ¬ (b2 (fal σ q = true)) = 0 then 56 else 43, [(4, .int (nI q)), (3, .int (nI (ldX σ c x q))), (0, .ref b), (1, .int (nI c)), (2, .int x)], [], M)) (o := []) rfl trivial ?_
            refine Wn.br (fun h4 => ?_) (fun h4 => ?_)
            · show Wn _ 202 _ (56, [(4, .int (nI q)), (3, .int (nI (ldX σ c x q))), (0, .ref b), (1, .int (nI c)), (2, .int x)], [], M)
              have h4 := b2_pos h4
              refine Wn.run (tab := tb_st_loadOn) rfl 2 (c' := (5, [(4, .int ((nI q) + (nI 1))), (3, .int (nI (ldX σ c x q))), (0, .ref b), (1, .int (nI c)), (2, .int x)], [], M)) (o := []) rfl trivial ?_
              rw [show ((nI q) + (nI 1)) = (nI (q + 1)) from (n_add rfl rfl)]
              have on9 : ¬ (onC σ c q = true ∧ ¬ nI q = x) := by intro h9; have h8 := onC_iff.mp h9.1; exact h8.2 h4
              rw [show (nI (ldX σ c x q)) = (nI (ldX σ c x (q + 1))) from (by show _ = nI (ldX σ c x q + (if _ then σ (78 + q) else 0)); rw [if_neg on9]; rfl)]
              exact ih (σ 2 - (q + 1)) (by omega) (q + 1) rfl (by omega)
            · show Wn _ 202 _ (43, [(4, .int (nI q)), (3, .int (nI (ldX σ c x q))), (0, .ref b), (1, .int (nI c)), (2, .int x)], [], M)
              have h4 := b2_nneg h4
              refine Wn.run (tab := tb_st_loadOn) rfl 10 (c' := (5, [(4, .int ((nI q) + (nI 1))), (3, .int ((nI (ldX σ c x q)) + (M.1 ((lkp b) + 2) ((nI q)).toNatClampNeg))), (0, .ref b), (1, .int (nI c)), (2, .int x)], [], M)) (o := [shp b = (0, 5), shp (lkp b) = (0, 2), aok shp ((lkp b) + 2) 0 (nI q)]) rfl ⟨hS.1.1, hS.2.1.1, (ak2 hS.2.1.2.2.1 rfl (by omega))⟩ ?_
              have f9 := Bd_q hB q (by omega)
              rw [show (M.1 ((lkp b) + 2) ((nI q)).toNatClampNeg) = (nI (σ (78 + q))) from (rdq (v := fun z9 => σ (78 + z9)) hS.2.1.2.2.2.2 rfl (by omega) (by omega))]
              have f9 := Bd_q hB q (by omega)
              rw [show ((nI (ldX σ c x q)) + (nI (σ (78 + q)))) = (nI ((ldX σ c x q) + (σ (78 + q)))) from (n_add rfl rfl)]
              rw [show ((nI q) + (nI 1)) = (nI (q + 1)) from (n_add rfl rfl)]
              have on9 : onC σ c q = true ∧ ¬ nI q = x := ⟨onC_iff.mpr ⟨h2, h4⟩, h3⟩
              rw [show (nI ((ldX σ c x q) + (σ (78 + q)))) = (nI (ldX σ c x (q + 1))) from (by show _ = nI (ldX σ c x q + (if _ then σ (78 + q) else 0)); rw [if_pos on9])]
              exact ih (σ 2 - (q + 1)) (by omega) (q + 1) rfl (by omega)
  exact loop (σ 2 - 0) 0 rfl (by omega)
theorem w_st_loadOnN (d : Nat) (M : Mm) (b : Nat) (σ : Nat → Nat) (hS : StC M b σ) (hB : Bd σ) (c : Nat) (hc : c < 2 ^ 31) (Q : Po) (hQ : Q (some (.int (nI (ld σ c)))) M) : Wn (d + 1) 202 Q (0, lv_args 0 [.ref b, .int (nI c), .int (-1 : Int32)], [], M) := by
  refine w_st_loadOn d M b σ hS hB c hc (-1) Q ?_
  rw [ldX_none σ c (σ 2) (Bd_2 hB)]
  exact hQ
theorem ldX_le30 {σ : Nat → Nat} (h : Bd σ) (c : Nat) (x : Int32) : ldX σ c x (σ 2) ≤ 30 := by
  have h2 := Bd_2 h
  have h1 := ldX_le σ c x (fun q hq => (Bd_q h q hq).2.1) (σ 2) h2
  omega
set_option maxRecDepth 20000 in
theorem w_st_loadWith (d : Nat) (M : Mm) (b : Nat) (σ : Nat → Nat) (hS : StC M b σ) (hB : Bd σ) (q c : Nat) (hq : q < σ 2) (hc : c < 2 ^ 31) (Q : Po) (hQ : Q (some (.int (nI (ldX σ c (nI q) (σ 2) + σ (78 + q))))) M) : Wn (d + 2) 204 Q (0, lv_args 0 [.ref b, .int (nI q), .int (nI c)], [], M) := by
  have c9_2 := Bd_2 hB
  have r9 := ldX_le30 hB c (nI q)
  refine Wn.run (tab := tb_st_loadWith) rfl 3 (c' := (3, [(0, .ref b), (1, .int (nI q)), (2, .int (nI c))], [.int (nI q), .int (nI c), .ref b], M)) (o := []) rfl trivial ?_
  refine Wn.callV (p := b) (n := 3) (ix := 77) (ci := (5)) (fun r0 M0 => r0 = some (.int (nI (ldX σ c (nI q) (σ 2)))) ∧ M = M0) [.int (nI c), .int (nI q)] [] rfl rfl rfl hS.1.1 (Nat.le_of_ble_eq_true rfl) (Nat.le_of_ble_eq_true rfl) (w_st_loadOn _ M b σ hS hB c (by omega) (nI q) _ ⟨rfl, rfl⟩) ?_
  rintro _ _ ⟨rfl, rfl⟩
  show Wn _ 204 _ (6, [(0, .ref b), (1, .int (nI q)), (2, .int (nI c))], [.int (nI (ldX σ c (nI q) (σ 2)))], M)
  refine Wn.run (tab := tb_st_loadWith) rfl 6 (c' := (16, [(0, .ref b), (1, .int (nI q)), (2, .int (nI c))], [.int ((nI (ldX σ c (nI q) (σ 2))) + (M.1 ((lkp b) + 2) ((nI q)).toNatClampNeg))], M)) (o := [shp b = (0, 5), shp (lkp b) = (0, 2), aok shp ((lkp b) + 2) 0 (nI q)]) rfl ⟨hS.1.1, hS.2.1.1, (ak2 hS.2.1.2.2.1 rfl (by omega))⟩ ?_
  have f9 := Bd_q hB q (by omega)
  rw [show (M.1 ((lkp b) + 2) ((nI q)).toNatClampNeg) = (nI (σ (78 + q))) from (rdq (v := fun z9 => σ (78 + z9)) hS.2.1.2.2.2.2 rfl (by omega) (by omega))]
  have c9_2 := Bd_2 hB
  have f9 := Bd_q hB q (by omega)
  rw [show ((nI (ldX σ c (nI q) (σ 2))) + (nI (σ (78 + q)))) = (nI ((ldX σ c (nI q) (σ 2)) + (σ (78 + q)))) from (n_add rfl rfl)]
  exact Wn.iret rfl hQ
set_option maxRecDepth 20000 in
theorem w_st_personsOn (d : Nat) (M : Mm) (b : Nat) (σ : Nat → Nat) (hS : StC M b σ) (hB : Bd σ) (c : Nat) (hc : c < 2 ^ 31) (Q : Po) (hQ : Q (some (.int (nI (pon σ c)))) M) : Wn (d + 1) 203 Q (0, lv_args 0 [.ref b, .int (nI c)], [], M) := by
  have c9_2 := Bd_2 hB
  refine Wn.run (tab := tb_st_personsOn) rfl 4 (c' := (4, [(3, .int (nI 0)), (2, .int (nI 0)), (0, .ref b), (1, .int (nI c))], [], M)) (o := []) rfl trivial ?_
  have loop : ∀ (m q : Nat), σ 2 - q = m → q ≤ σ 2 → Wn (d + 1) 203 Q (4, [(3, .int (nI q)), (2, .int (nI (ponN σ c q))), (0, .ref b), (1, .int (nI c))], [], M) := by
    intro m
    induction m using Nat.strongRecOn with
    | _ m ih =>
      intro q hm hq
      have hlt := ponN_lt σ c q
      refine Wn.run (tab := tb_st_personsOn) rfl 5 (c' := (if (M.1 (lkp b) 2) ≤ (nI q) then 45 else 15, [(3, .int (nI q)), (2, .int (nI (ponN σ c q))), (0, .ref b), (1, .int (nI c))], [], M)) (o := [shp b = (0, 5), shp (lkp b) = (0, 2)]) rfl ⟨hS.1.1, hS.2.1.1⟩ ?_
      refine Wn.br (fun h1 => ?_) (fun h1 => ?_)
      · show Wn _ 203 _ (45, [(3, .int (nI q)), (2, .int (nI (ponN σ c q))), (0, .ref b), (1, .int (nI c))], [], M)
        have c9_2 := Bd_2 hB
        have h1 := (n_le (hS.2.1.2.2.2.1 2 (by decide)) rfl (by omega) (by omega)).mp h1
        refine Wn.run (tab := tb_st_personsOn) rfl 1 (c' := (46, [(3, .int (nI q)), (2, .int (nI (ponN σ c q))), (0, .ref b), (1, .int (nI c))], [.int (nI (ponN σ c q))], M)) (o := []) rfl trivial ?_
        have e9 : q = σ 2 := by omega
        rw [e9]
        exact Wn.iret rfl hQ
      · show Wn _ 203 _ (15, [(3, .int (nI q)), (2, .int (nI (ponN σ c q))), (0, .ref b), (1, .int (nI c))], [], M)
        have c9_2 := Bd_2 hB
        have h1 := mt (n_le (hS.2.1.2.2.2.1 2 (by decide)) rfl (by omega) (by omega)).mpr h1
        refine Wn.run (tab := tb_st_personsOn) rfl 6 (c' := (if ¬ (M.1 (b + 2) ((nI q)).toNatClampNeg) = (nI c) then 39 else 25, [(3, .int (nI q)), (2, .int (nI (ponN σ c q))), (0, .ref b), (1, .int (nI c))], [], M)) (o := [shp b = (0, 5), aok shp (b + 2) 0 (nI q)]) rfl ⟨hS.1.1, (ak2 hS.1.2.2.1 rfl (by omega))⟩ ?_
        refine Wn.br (fun h2 => ?_) (fun h2 => ?_)
        · show Wn _ 203 _ (39, [(3, .int (nI q)), (2, .int (nI (ponN σ c q))), (0, .ref b), (1, .int (nI c))], [], M)
          have f9 := Bd_q hB q (by omega)
          have h2 := mt (n_eq (rdq (v := fun z9 => σ (160 + z9)) hS.2.2.2.2.1 rfl (by omega) (by omega)) rfl (by omega) (by omega)).mpr h2
          refine Wn.run (tab := tb_st_personsOn) rfl 2 (c' := (4, [(3, .int ((nI q) + (nI 1))), (2, .int (nI (ponN σ c q))), (0, .ref b), (1, .int (nI c))], [], M)) (o := []) rfl trivial ?_
          rw [show ((nI q) + (nI 1)) = (nI (q + 1)) from (n_add rfl rfl)]
          have hq6 : q < 6 := by omega
          have on9 : ¬ onC σ c q = true := by intro h9; have h8 := onC_iff.mp h9; exact h2 h8.1
          rw [show (nI (ponN σ c q)) = (nI (ponN σ c (q + 1))) from (by show _ = nI (ponN σ c q + (if onC σ c q then 2 ^ q else 0)); rw [if_neg on9]; rfl)]
          exact ih (σ 2 - (q + 1)) (by omega) (q + 1) rfl (by omega)
        · show Wn _ 203 _ (25, [(3, .int (nI q)), (2, .int (nI (ponN σ c q))), (0, .ref b), (1, .int (nI c))], [], M)
          have f9 := Bd_q hB q (by omega)
          have h2 := (n_eq (rdq (v := fun z9 => σ (160 + z9)) hS.2.2.2.2.1 rfl (by omega) (by omega)) rfl (by omega) (by omega)).mp (Classical.not_not.mp h2)
          refine Wn.run (tab := tb_st_personsOn) rfl 2 (c' := (27, [(3, .int (nI q)), (2, .int (nI (ponN σ c q))), (0, .ref b), (1, .int (nI c))], [.int (nI q), .ref b], M)) (o := []) rfl trivial ?_
          refine Wn.callV (p := b) (n := 2) (ix := 70) (ci := (5)) (fun r0 M0 => r0 = some (.int (b2 (fal σ q = true))) ∧ M = M0) [.int (nI q)] [] rfl rfl rfl hS.1.1 (Nat.le_of_ble_eq_true rfl) (Nat.le_of_ble_eq_true rfl) (w_st_isFallen _ M b σ hS hB q (by omega) _ ⟨rfl, rfl⟩) ?_
          rintro _ _ ⟨rfl, rfl⟩
          show Wn _ 203 _ (30, [(3, .int (nI q)), (2, .int (nI (ponN σ c q))), (0, .ref b), (1, .int (nI c))], [.int (b2 (fal σ q = true))], M)
          refine Wn.run (tab := tb_st_personsOn) rfl 1 (c' := (if ¬ (b2 (fal σ q = true)) = 0 then 39 else 33, [(3, .int (nI q)), (2, .int (nI (ponN σ c q))), (0, .ref b), (1, .int (nI c))], [], M)) (o := []) rfl trivial ?_
          refine Wn.br (fun h3 => ?_) (fun h3 => ?_)
          · show Wn _ 203 _ (39, [(3, .int (nI q)), (2, .int (nI (ponN σ c q))), (0, .ref b), (1, .int (nI c))], [], M)
            have h3 := b2_pos h3
            refine Wn.run (tab := tb_st_personsOn) rfl 2 (c' := (4, [(3, .int ((nI q) + (nI 1))), (2, .int (nI (ponN σ c q))), (0, .ref b), (1, .int (nI c))], [], M)) (o := []) rfl trivial ?_
            rw [show ((nI q) + (nI 1)) = (nI (q + 1)) from (n_add rfl rfl)]
            have hq6 : q < 6 := by omega
            have on9 : ¬ onC σ c q = true := by intro h9; have h8 := onC_iff.mp h9; exact h8.2 h3
            rw [show (nI (ponN σ c q)) = (nI (ponN σ c (q + 1))) from (by show _ = nI (ponN σ c q + (if onC σ c q then 2 ^ q else 0)); rw [if_neg on9]; rfl)]
            exact ih (σ 2 - (q + 1)) (by omega) (q + 1) rfl (by omega)
          · show Wn _ 203 _ (33, [(3, .int (nI q)), (2, .int (nI (ponN σ c q))), (0, .ref b), (1, .int (nI c))], [], M)
            have h3 := b2_nneg h3
            refine Wn.run (tab := tb_st_personsOn) rfl 8 (c' := (4, [(3, .int ((nI q) + (nI 1))), (2, .int ((nI (ponN σ c q)) ||| ((nI 1) <<< ((nI q) &&& 31)))), (0, .ref b), (1, .int (nI c))], [], M)) (o := []) rfl trivial ?_
            have p9 := pow_lt6 (q := q) (by omega)
            rw [show ((nI 1) <<< ((nI q) &&& 31)) = (nI (2 ^ q)) from (n_shl rfl (by omega))]
            rw [show ((nI q) + (nI 1)) = (nI (q + 1)) from (n_add rfl rfl)]
            have hq6 : q < 6 := by omega
            have on9 : onC σ c q = true := onC_iff.mpr ⟨h2, h3⟩
            rw [show ((nI (ponN σ c q)) ||| (nI (2 ^ q))) = (nI (ponN σ c (q + 1))) from (by rw [or_ok2 q hq6 _ hlt]; show _ = nI (ponN σ c q + (if onC σ c q then 2 ^ q else 0)); rw [if_pos on9])]
            exact ih (σ 2 - (q + 1)) (by omega) (q + 1) rfl (by omega)
  exact loop (σ 2 - 0) 0 rfl (by omega)
set_option maxRecDepth 20000 in
theorem w_st_iceIfSworn (d : Nat) (M : Mm) (b : Nat) (σ : Nat → Nat) (hS : StC M b σ) (hB : Bd σ) (q c : Nat) (hq : q < σ 2) (hc : c < 64) (hin : inL σ c) (Q : Po) (hQ : Q (some (.int (nI (ifs σ q c)))) M) : Wn (d + 1) 210 Q (0, lv_args 0 [.ref b, .int (nI q), .int (nI c)], [], M) := by
  have c9_2 := Bd_2 hB
  have k3 := Bd_3 hB
  have k4 := Bd_4 hB
  have g9 := Bd_c hB c hc
  have f9 := Bd_q hB q (by omega)
  refine Wn.run (tab := tb_st_iceIfSworn) rfl 5 (c' := (7, [(0, .ref b), (1, .int (nI q)), (2, .int (nI c))], [.int (nI c), .int (M.1 (b + 2) ((nI q)).toNatClampNeg)], M)) (o := [shp b = (0, 5), aok shp (b + 2) 0 (nI q)]) rfl ⟨hS.1.1, (ak2 hS.1.2.2.1 rfl (by omega))⟩ ?_
  have f9 := Bd_q hB q (by omega)
  rw [show (M.1 (b + 2) ((nI q)).toNatClampNeg) = (nI (σ (160 + q))) from (rdq (v := fun z9 => σ (160 + z9)) hS.2.2.2.2.1 rfl (by omega) (by omega))]
  refine Wn.callS (n := 2) (ix := 80) (fun r0 M0 => r0 = some (.int (nI (far (σ (160 + q)) c))) ∧ M = M0) [.int (nI (σ (160 + q))), .int (nI c)] [] rfl rfl rfl (Nat.le_of_ble_eq_true rfl) (Nat.le_of_ble_eq_true rfl) (w_lk_far _ (σ (160 + q)) c (by omega) (by omega) M _ ⟨rfl, rfl⟩) ?_
  rintro _ _ ⟨rfl, rfl⟩
  show Wn _ 210 _ (10, [(0, .ref b), (1, .int (nI q)), (2, .int (nI c))], [.int (nI (far (σ (160 + q)) c))], M)
  refine Wn.run (tab := tb_st_iceIfSworn) rfl 4 (c' := (if (M.1 (lkp b) 4) < (nI (far (σ (160 + q)) c)) then 41 else 20, [(0, .ref b), (1, .int (nI q)), (2, .int (nI c))], [], M)) (o := [shp b = (0, 5), shp (lkp b) = (0, 2)]) rfl ⟨hS.1.1, hS.2.1.1⟩ ?_
  refine Wn.br (fun h1 => ?_) (fun h1 => ?_)
  · show Wn _ 210 _ (41, [(0, .ref b), (1, .int (nI q)), (2, .int (nI c))], [], M)
    have c9_4 := Bd_4 hB
    have f9 := Bd_q hB q (by omega)
    have r9 := far_lt (σ (160 + q)) c (by omega) (by omega)
    have h1 := (n_lt (hS.2.1.2.2.2.1 4 (by decide)) rfl (by omega) (by omega)).mp h1
    refine Wn.run (tab := tb_st_iceIfSworn) rfl 4 (c' := (47, [(0, .ref b), (1, .int (nI q)), (2, .int (nI c))], [.int (M.1 (b + 1) ((nI c)).toNatClampNeg)], M)) (o := [shp b = (0, 5), aok shp (b + 1) 0 (nI c)]) rfl ⟨hS.1.1, (ak2 hS.1.2.1 rfl (by omega))⟩ ?_
    have g9 := Bd_c hB c (by omega)
    rw [show (M.1 (b + 1) ((nI c)).toNatClampNeg) = (nI (σ (96 + c))) from (rdc hS.2.2.2.1 rfl (by omega) hin)]
    have e9 : ifs σ q c = σ (96 + c) := if_neg (by omega)
    rw [e9] at hQ
    exact Wn.iret rfl hQ
  · show Wn _ 210 _ (20, [(0, .ref b), (1, .int (nI q)), (2, .int (nI c))], [], M)
    have c9_4 := Bd_4 hB
    have f9 := Bd_q hB q (by omega)
    have r9 := far_lt (σ (160 + q)) c (by omega) (by omega)
    have h1 := mt (n_lt (hS.2.1.2.2.2.1 4 (by decide)) rfl (by omega) (by omega)).mpr h1
    refine Wn.run (tab := tb_st_iceIfSworn) rfl 11 (c' := (47, [(0, .ref b), (1, .int (nI q)), (2, .int (nI c))], [.int (if (nI 0) < ((M.1 (b + 1) ((nI c)).toNatClampNeg) - (M.1 (lkp b) 3)) then ((M.1 (b + 1) ((nI c)).toNatClampNeg) - (M.1 (lkp b) 3)) else (nI 0))], M)) (o := [shp b = (0, 5), aok shp (b + 1) 0 (nI c), shp b = (0, 5), shp (lkp b) = (0, 2), ct [] ≤ 8]) rfl ⟨hS.1.1, (ak2 hS.1.2.1 rfl (by omega)), hS.1.1, hS.2.1.1, (Nat.le_of_ble_eq_true rfl)⟩ ?_
    have c9_3 := Bd_3 hB
    rw [show (M.1 (lkp b) 3) = (nI (σ 3)) from (hS.2.1.2.2.2.1 3 (by decide))]
    have g9 := Bd_c hB c (by omega)
    rw [show (M.1 (b + 1) ((nI c)).toNatClampNeg) = (nI (σ (96 + c))) from (rdc hS.2.2.2.1 rfl (by omega) hin)]
    have c9_3 := Bd_3 hB
    have g9 := Bd_c hB c (by omega)
    rw [show (if (nI 0) < ((nI (σ (96 + c))) - (nI (σ 3))) then ((nI (σ (96 + c))) - (nI (σ 3))) else (nI 0)) = (nI ((σ (96 + c)) - (σ 3))) from (n_max0 rfl rfl (by omega) (by omega))]
    have e9 : ifs σ q c = σ (96 + c) - σ 3 := if_pos (by omega)
    rw [e9] at hQ
    exact Wn.iret rfl hQ
theorem has_iff {σ : Nat → Nat} (c : Nat) (hc : c < 64) : (0 ≤ (nI (c % 8)).toInt ∧ (nI (c % 8)).toInt < (σ 0 : Int) ∧ 0 ≤ (nI (c / 8)).toInt ∧ (nI (c / 8)).toInt < (σ 1 : Int)) ↔ inL σ c := by
  rw [nI_toInt (by omega), nI_toInt (by omega)]
  unfold inL
  omega
set_option maxRecDepth 20000 in
theorem w_lk_hasCell (d : Nat) (M : Mm) (p : Nat) (σ : Nat → Nat) (hL : LkC M p σ) (hB : Bd σ) (c : Nat) (hc : c < 64) (Q : Po) (hQ : Q (some (.int (b2 (inL σ c)))) M) : Wn (d + 1) 166 Q (0, lv_args 0 [.ref p, .int (nI c)], [], M) := by
  refine Wn.run (tab := tb_lk_hasCell) rfl 7 (c' := (9, [(0, .ref p), (1, .int (nI c))], [.int ((nI c) / (nI 8)), .int ((nI c) - (nI c) / (nI 8) * (nI 8)), .ref p], M)) (o := [¬ (nI 8) = 0, ¬ (nI 8) = 0]) rfl ⟨(show ¬ (nI 8) = 0 by decide), (show ¬ (nI 8) = 0 by decide)⟩ ?_
  rw [show ((nI c) - (nI c) / (nI 8) * (nI 8)) = (nI (c % 8)) from (n_rem rfl rfl (by omega) (by omega) (by omega))]
  rw [show ((nI c) / (nI 8)) = (nI (c / 8)) from (n_div rfl rfl (by omega) (by omega) (by omega))]
  refine Wn.callV (p := p) (n := 3) (ix := 53) (ci := (2)) (fun r0 M0 => r0 = some (.int (b2 (0 ≤ (nI (c % 8)).toInt ∧ (nI (c % 8)).toInt < (σ 0 : Int) ∧ 0 ≤ (nI (c / 8)).toInt ∧ (nI (c / 8)).toInt < (σ 1 : Int)))) ∧ M = M0) [.int (nI (c % 8)), .int (nI (c / 8))] [] rfl rfl rfl hL.1 (Nat.le_of_ble_eq_true rfl) (Nat.le_of_ble_eq_true rfl) (w_lk_isCell _ M p σ hL hB (nI (c % 8)) (nI (c / 8)) _ ⟨rfl, rfl⟩) ?_
  rintro _ _ ⟨rfl, rfl⟩
  show Wn _ 166 _ (12, [(0, .ref p), (1, .int (nI c))], [.int (b2 (0 ≤ (nI (c % 8)).toInt ∧ (nI (c % 8)).toInt < (σ 0 : Int) ∧ 0 ≤ (nI (c / 8)).toInt ∧ (nI (c / 8)).toInt < (σ 1 : Int)))], M)
  exact Wn.zret rfl (is01_b2 _) (by rw [b2_iff (has_iff c hc)]; exact hQ)
set_option maxRecDepth 20000 in
theorem w_lk_beside_0 (d : Nat) (M : Mm) (p : Nat) (σ : Nat → Nat) (hL : LkC M p σ) (hB : Bd σ) (c : Nat) (hc : c < 64) (Q : Po) (hQ : Q (some (.int (oI (bes σ c 0)))) M) : Wn (d + 2) 167 Q (0, lv_args 0 [.ref p, .int (nI c), .int (nI 0)], [], M) := by
  have k0 := Bd_0 hB
  have k1 := Bd_1 hB
  refine Wn.run (tab := tb_lk_beside) rfl 2 (c' := (if (nI 0) < 0 then 9 else 4, [(0, .ref p), (1, .int (nI c)), (2, .int (nI 0))], [], M)) (o := []) rfl trivial ?_
  rw [if_neg (show ¬ ((nI 0) < 0) by decide)]
  show Wn _ 167 _ (4, [(0, .ref p), (1, .int (nI c)), (2, .int (nI 0))], [], M)
  refine Wn.run (tab := tb_lk_beside) rfl 3 (c' := (if (nI 0) < (nI 4) then 11 else 9, [(0, .ref p), (1, .int (nI c)), (2, .int (nI 0))], [], M)) (o := []) rfl trivial ?_
  rw [if_pos (show (nI 0) < (nI 4) by decide)]
  show Wn _ 167 _ (11, [(0, .ref p), (1, .int (nI c)), (2, .int (nI 0))], [], M)
  refine Wn.run (tab := tb_lk_beside) rfl 19 (c' := (38, [(4, .int (((nI c) / (nI 8)) + (nI 0))), (3, .int (((nI c) - (nI c) / (nI 8) * (nI 8)) + (nI 1))), (0, .ref p), (1, .int (nI c)), (2, .int (nI 0))], [.int (((nI c) / (nI 8)) + (nI 0)), .int (((nI c) - (nI c) / (nI 8) * (nI 8)) + (nI 1)), .ref p], M)) (o := [¬ (nI 8) = 0, 200000 = 200000, vp_in (nI 0) 4, ¬ (nI 8) = 0, 200001 = 200001, vp_in (nI 0) 4]) rfl ⟨(show ¬ (nI 8) = 0 by decide), rfl, (vp_in_nI (by decide) (by decide)), (show ¬ (nI 8) = 0 by decide), rfl, (vp_in_nI (by decide) (by decide))⟩ ?_
  rw [show (((nI c) - (nI c) / (nI 8) * (nI 8)) + (nI 1)) = (nI ((c % 8) + 1)) from (n_add (n_rem rfl rfl (by omega) (by omega) (by omega)) rfl)]
  rw [show (((nI c) / (nI 8)) + (nI 0)) = (nI ((c / 8) + 0)) from (n_add (n_div rfl rfl (by omega) (by omega) (by omega)) rfl)]
  refine Wn.callV (p := p) (n := 3) (ix := 53) (ci := (2)) (fun r0 M0 => r0 = some (.int (b2 (0 ≤ (nI ((c % 8) + 1)).toInt ∧ (nI ((c % 8) + 1)).toInt < (σ 0 : Int) ∧ 0 ≤ (nI ((c / 8) + 0)).toInt ∧ (nI ((c / 8) + 0)).toInt < (σ 1 : Int)))) ∧ M = M0) [.int (nI ((c % 8) + 1)), .int (nI ((c / 8) + 0))] [] rfl rfl rfl hL.1 (Nat.le_of_ble_eq_true rfl) (Nat.le_of_ble_eq_true rfl) (w_lk_isCell _ M p σ hL hB (nI ((c % 8) + 1)) (nI ((c / 8) + 0)) _ ⟨rfl, rfl⟩) ?_
  rintro _ _ ⟨rfl, rfl⟩
  show Wn _ 167 _ (41, [(4, .int (nI ((c / 8) + 0))), (3, .int (nI ((c % 8) + 1))), (0, .ref p), (1, .int (nI c)), (2, .int (nI 0))], [.int (b2 (0 ≤ (nI ((c % 8) + 1)).toInt ∧ (nI ((c % 8) + 1)).toInt < (σ 0 : Int) ∧ 0 ≤ (nI ((c / 8) + 0)).toInt ∧ (nI ((c / 8) + 0)).toInt < (σ 1 : Int)))], M)
  refine Wn.run (tab := tb_lk_beside) rfl 1 (c' := (if (b2 (0 ≤ (nI ((c % 8) + 1)).toInt ∧ (nI ((c % 8) + 1)).toInt < (σ 0 : Int) ∧ 0 ≤ (nI ((c / 8) + 0)).toInt ∧ (nI ((c / 8) + 0)).toInt < (σ 1 : Int))) = 0 then 54 else 44, [(4, .int (nI ((c / 8) + 0))), (3, .int (nI ((c % 8) + 1))), (0, .ref p), (1, .int (nI c)), (2, .int (nI 0))], [], M)) (o := []) rfl trivial ?_
  refine Wn.br (fun h1 => ?_) (fun h1 => ?_)
  · show Wn _ 167 _ (54, [(4, .int (nI ((c / 8) + 0))), (3, .int (nI ((c % 8) + 1))), (0, .ref p), (1, .int (nI c)), (2, .int (nI 0))], [], M)
    have h1 := b2_neg h1
    refine Wn.run (tab := tb_lk_beside) rfl 1 (c' := (55, [(4, .int (nI ((c / 8) + 0))), (3, .int (nI ((c % 8) + 1))), (0, .ref p), (1, .int (nI c)), (2, .int (nI 0))], [.int (-1 : Int32)], M)) (o := []) rfl trivial ?_
    rw [nI_toInt (by omega), nI_toInt (by omega)] at h1
    have e9 : bes σ c 0 = none := by show (if c % 8 + 1 < σ 0 ∧ c / 8 < σ 1 then some (c + 1) else none) = _; rw [if_neg (by omega)]
    exact Wn.iret rfl (by rw [e9] at hQ; exact hQ)
  · show Wn _ 167 _ (44, [(4, .int (nI ((c / 8) + 0))), (3, .int (nI ((c % 8) + 1))), (0, .ref p), (1, .int (nI c)), (2, .int (nI 0))], [], M)
    have h1 := b2_pos h1
    refine Wn.run (tab := tb_lk_beside) rfl 6 (c' := (55, [(4, .int (nI ((c / 8) + 0))), (3, .int (nI ((c % 8) + 1))), (0, .ref p), (1, .int (nI c)), (2, .int (nI 0))], [.int (((nI 8) * (nI ((c / 8) + 0))) + (nI ((c % 8) + 1)))], M)) (o := []) rfl trivial ?_
    rw [show (((nI 8) * (nI ((c / 8) + 0))) + (nI ((c % 8) + 1))) = (nI ((8 * ((c / 8) + 0)) + ((c % 8) + 1))) from (n_add (n_mul rfl rfl) rfl)]
    rw [nI_toInt (by omega), nI_toInt (by omega)] at h1
    have e9 : bes σ c 0 = some (c + 1) := by show (if c % 8 + 1 < σ 0 ∧ c / 8 < σ 1 then some (c + 1) else none) = _; rw [if_pos (by omega)]
    exact Wn.iret rfl (by rw [e9] at hQ; rw [show (nI ((8 * ((c / 8) + 0)) + ((c % 8) + 1))) = nI (c + 1) from congrArg nI (by omega)]; exact hQ)
set_option maxRecDepth 20000 in
theorem w_lk_beside_1 (d : Nat) (M : Mm) (p : Nat) (σ : Nat → Nat) (hL : LkC M p σ) (hB : Bd σ) (c : Nat) (hc : c < 64) (Q : Po) (hQ : Q (some (.int (oI (bes σ c 1)))) M) : Wn (d + 2) 167 Q (0, lv_args 0 [.ref p, .int (nI c), .int (nI 1)], [], M) := by
  have k0 := Bd_0 hB
  have k1 := Bd_1 hB
  refine Wn.run (tab := tb_lk_beside) rfl 2 (c' := (if (nI 1) < 0 then 9 else 4, [(0, .ref p), (1, .int (nI c)), (2, .int (nI 1))], [], M)) (o := []) rfl trivial ?_
  rw [if_neg (show ¬ ((nI 1) < 0) by decide)]
  show Wn _ 167 _ (4, [(0, .ref p), (1, .int (nI c)), (2, .int (nI 1))], [], M)
  refine Wn.run (tab := tb_lk_beside) rfl 3 (c' := (if (nI 1) < (nI 4) then 11 else 9, [(0, .ref p), (1, .int (nI c)), (2, .int (nI 1))], [], M)) (o := []) rfl trivial ?_
  rw [if_pos (show (nI 1) < (nI 4) by decide)]
  show Wn _ 167 _ (11, [(0, .ref p), (1, .int (nI c)), (2, .int (nI 1))], [], M)
  refine Wn.run (tab := tb_lk_beside) rfl 19 (c' := (38, [(4, .int (((nI c) / (nI 8)) + (nI 1))), (3, .int (((nI c) - (nI c) / (nI 8) * (nI 8)) + (nI 0))), (0, .ref p), (1, .int (nI c)), (2, .int (nI 1))], [.int (((nI c) / (nI 8)) + (nI 1)), .int (((nI c) - (nI c) / (nI 8) * (nI 8)) + (nI 0)), .ref p], M)) (o := [¬ (nI 8) = 0, 200000 = 200000, vp_in (nI 1) 4, ¬ (nI 8) = 0, 200001 = 200001, vp_in (nI 1) 4]) rfl ⟨(show ¬ (nI 8) = 0 by decide), rfl, (vp_in_nI (by decide) (by decide)), (show ¬ (nI 8) = 0 by decide), rfl, (vp_in_nI (by decide) (by decide))⟩ ?_
  rw [show (((nI c) - (nI c) / (nI 8) * (nI 8)) + (nI 0)) = (nI ((c % 8) + 0)) from (n_add (n_rem rfl rfl (by omega) (by omega) (by omega)) rfl)]
  rw [show (((nI c) / (nI 8)) + (nI 1)) = (nI ((c / 8) + 1)) from (n_add (n_div rfl rfl (by omega) (by omega) (by omega)) rfl)]
  refine Wn.callV (p := p) (n := 3) (ix := 53) (ci := (2)) (fun r0 M0 => r0 = some (.int (b2 (0 ≤ (nI ((c % 8) + 0)).toInt ∧ (nI ((c % 8) + 0)).toInt < (σ 0 : Int) ∧ 0 ≤ (nI ((c / 8) + 1)).toInt ∧ (nI ((c / 8) + 1)).toInt < (σ 1 : Int)))) ∧ M = M0) [.int (nI ((c % 8) + 0)), .int (nI ((c / 8) + 1))] [] rfl rfl rfl hL.1 (Nat.le_of_ble_eq_true rfl) (Nat.le_of_ble_eq_true rfl) (w_lk_isCell _ M p σ hL hB (nI ((c % 8) + 0)) (nI ((c / 8) + 1)) _ ⟨rfl, rfl⟩) ?_
  rintro _ _ ⟨rfl, rfl⟩
  show Wn _ 167 _ (41, [(4, .int (nI ((c / 8) + 1))), (3, .int (nI ((c % 8) + 0))), (0, .ref p), (1, .int (nI c)), (2, .int (nI 1))], [.int (b2 (0 ≤ (nI ((c % 8) + 0)).toInt ∧ (nI ((c % 8) + 0)).toInt < (σ 0 : Int) ∧ 0 ≤ (nI ((c / 8) + 1)).toInt ∧ (nI ((c / 8) + 1)).toInt < (σ 1 : Int)))], M)
  refine Wn.run (tab := tb_lk_beside) rfl 1 (c' := (if (b2 (0 ≤ (nI ((c % 8) + 0)).toInt ∧ (nI ((c % 8) + 0)).toInt < (σ 0 : Int) ∧ 0 ≤ (nI ((c / 8) + 1)).toInt ∧ (nI ((c / 8) + 1)).toInt < (σ 1 : Int))) = 0 then 54 else 44, [(4, .int (nI ((c / 8) + 1))), (3, .int (nI ((c % 8) + 0))), (0, .ref p), (1, .int (nI c)), (2, .int (nI 1))], [], M)) (o := []) rfl trivial ?_
  refine Wn.br (fun h1 => ?_) (fun h1 => ?_)
  · show Wn _ 167 _ (54, [(4, .int (nI ((c / 8) + 1))), (3, .int (nI ((c % 8) + 0))), (0, .ref p), (1, .int (nI c)), (2, .int (nI 1))], [], M)
    have h1 := b2_neg h1
    refine Wn.run (tab := tb_lk_beside) rfl 1 (c' := (55, [(4, .int (nI ((c / 8) + 1))), (3, .int (nI ((c % 8) + 0))), (0, .ref p), (1, .int (nI c)), (2, .int (nI 1))], [.int (-1 : Int32)], M)) (o := []) rfl trivial ?_
    rw [nI_toInt (by omega), nI_toInt (by omega)] at h1
    have e9 : bes σ c 1 = none := by show (if c % 8 < σ 0 ∧ c / 8 + 1 < σ 1 then some (c + 8) else none) = _; rw [if_neg (by omega)]
    exact Wn.iret rfl (by rw [e9] at hQ; exact hQ)
  · show Wn _ 167 _ (44, [(4, .int (nI ((c / 8) + 1))), (3, .int (nI ((c % 8) + 0))), (0, .ref p), (1, .int (nI c)), (2, .int (nI 1))], [], M)
    have h1 := b2_pos h1
    refine Wn.run (tab := tb_lk_beside) rfl 6 (c' := (55, [(4, .int (nI ((c / 8) + 1))), (3, .int (nI ((c % 8) + 0))), (0, .ref p), (1, .int (nI c)), (2, .int (nI 1))], [.int (((nI 8) * (nI ((c / 8) + 1))) + (nI ((c % 8) + 0)))], M)) (o := []) rfl trivial ?_
    rw [show (((nI 8) * (nI ((c / 8) + 1))) + (nI ((c % 8) + 0))) = (nI ((8 * ((c / 8) + 1)) + ((c % 8) + 0))) from (n_add (n_mul rfl rfl) rfl)]
    rw [nI_toInt (by omega), nI_toInt (by omega)] at h1
    have e9 : bes σ c 1 = some (c + 8) := by show (if c % 8 < σ 0 ∧ c / 8 + 1 < σ 1 then some (c + 8) else none) = _; rw [if_pos (by omega)]
    exact Wn.iret rfl (by rw [e9] at hQ; rw [show (nI ((8 * ((c / 8) + 1)) + ((c % 8) + 0))) = nI (c + 8) from congrArg nI (by omega)]; exact hQ)
set_option maxRecDepth 20000 in
theorem w_lk_beside_2 (d : Nat) (M : Mm) (p : Nat) (σ : Nat → Nat) (hL : LkC M p σ) (hB : Bd σ) (c : Nat) (hc : c < 64) (Q : Po) (hQ : Q (some (.int (oI (bes σ c 2)))) M) : Wn (d + 2) 167 Q (0, lv_args 0 [.ref p, .int (nI c), .int (nI 2)], [], M) := by
  have k0 := Bd_0 hB
  have k1 := Bd_1 hB
  refine Wn.run (tab := tb_lk_beside) rfl 2 (c' := (if (nI 2) < 0 then 9 else 4, [(0, .ref p), (1, .int (nI c)), (2, .int (nI 2))], [], M)) (o := []) rfl trivial ?_
  rw [if_neg (show ¬ ((nI 2) < 0) by decide)]
  show Wn _ 167 _ (4, [(0, .ref p), (1, .int (nI c)), (2, .int (nI 2))], [], M)
  refine Wn.run (tab := tb_lk_beside) rfl 3 (c' := (if (nI 2) < (nI 4) then 11 else 9, [(0, .ref p), (1, .int (nI c)), (2, .int (nI 2))], [], M)) (o := []) rfl trivial ?_
  rw [if_pos (show (nI 2) < (nI 4) by decide)]
  show Wn _ 167 _ (11, [(0, .ref p), (1, .int (nI c)), (2, .int (nI 2))], [], M)
  refine Wn.run (tab := tb_lk_beside) rfl 19 (c' := (38, [(4, .int (((nI c) / (nI 8)) + (nI 0))), (3, .int (((nI c) - (nI c) / (nI 8) * (nI 8)) + (-1 : Int32))), (0, .ref p), (1, .int (nI c)), (2, .int (nI 2))], [.int (((nI c) / (nI 8)) + (nI 0)), .int (((nI c) - (nI c) / (nI 8) * (nI 8)) + (-1 : Int32)), .ref p], M)) (o := [¬ (nI 8) = 0, 200000 = 200000, vp_in (nI 2) 4, ¬ (nI 8) = 0, 200001 = 200001, vp_in (nI 2) 4]) rfl ⟨(show ¬ (nI 8) = 0 by decide), rfl, (vp_in_nI (by decide) (by decide)), (show ¬ (nI 8) = 0 by decide), rfl, (vp_in_nI (by decide) (by decide))⟩ ?_
  rw [show ((nI c) - (nI c) / (nI 8) * (nI 8)) = (nI (c % 8)) from (n_rem rfl rfl (by omega) (by omega) (by omega))]
  rw [show (((nI c) / (nI 8)) + (nI 0)) = (nI ((c / 8) + 0)) from (n_add (n_div rfl rfl (by omega) (by omega) (by omega)) rfl)]
  refine Wn.callV (p := p) (n := 3) (ix := 53) (ci := (2)) (fun r0 M0 => r0 = some (.int (b2 (0 ≤ ((nI (c % 8)) + (-1 : Int32)).toInt ∧ ((nI (c % 8)) + (-1 : Int32)).toInt < (σ 0 : Int) ∧ 0 ≤ (nI ((c / 8) + 0)).toInt ∧ (nI ((c / 8) + 0)).toInt < (σ 1 : Int)))) ∧ M = M0) [.int ((nI (c % 8)) + (-1 : Int32)), .int (nI ((c / 8) + 0))] [] rfl rfl rfl hL.1 (Nat.le_of_ble_eq_true rfl) (Nat.le_of_ble_eq_true rfl) (w_lk_isCell _ M p σ hL hB ((nI (c % 8)) + (-1 : Int32)) (nI ((c / 8) + 0)) _ ⟨rfl, rfl⟩) ?_
  rintro _ _ ⟨rfl, rfl⟩
  show Wn _ 167 _ (41, [(4, .int (nI ((c / 8) + 0))), (3, .int ((nI (c % 8)) + (-1 : Int32))), (0, .ref p), (1, .int (nI c)), (2, .int (nI 2))], [.int (b2 (0 ≤ ((nI (c % 8)) + (-1 : Int32)).toInt ∧ ((nI (c % 8)) + (-1 : Int32)).toInt < (σ 0 : Int) ∧ 0 ≤ (nI ((c / 8) + 0)).toInt ∧ (nI ((c / 8) + 0)).toInt < (σ 1 : Int)))], M)
  refine Wn.run (tab := tb_lk_beside) rfl 1 (c' := (if (b2 (0 ≤ ((nI (c % 8)) + (-1 : Int32)).toInt ∧ ((nI (c % 8)) + (-1 : Int32)).toInt < (σ 0 : Int) ∧ 0 ≤ (nI ((c / 8) + 0)).toInt ∧ (nI ((c / 8) + 0)).toInt < (σ 1 : Int))) = 0 then 54 else 44, [(4, .int (nI ((c / 8) + 0))), (3, .int ((nI (c % 8)) + (-1 : Int32))), (0, .ref p), (1, .int (nI c)), (2, .int (nI 2))], [], M)) (o := []) rfl trivial ?_
  refine Wn.br (fun h1 => ?_) (fun h1 => ?_)
  · show Wn _ 167 _ (54, [(4, .int (nI ((c / 8) + 0))), (3, .int ((nI (c % 8)) + (-1 : Int32))), (0, .ref p), (1, .int (nI c)), (2, .int (nI 2))], [], M)
    have h1 := b2_neg h1
    refine Wn.run (tab := tb_lk_beside) rfl 1 (c' := (55, [(4, .int (nI ((c / 8) + 0))), (3, .int ((nI (c % 8)) + (-1 : Int32))), (0, .ref p), (1, .int (nI c)), (2, .int (nI 2))], [.int (-1 : Int32)], M)) (o := []) rfl trivial ?_
    rw [m1_toInt (by omega), nI_toInt (by omega)] at h1
    have e9 : bes σ c 2 = none := by show (if 1 ≤ c % 8 ∧ c % 8 ≤ σ 0 ∧ c / 8 < σ 1 then some (c - 1) else none) = _; rw [if_neg (by omega)]
    exact Wn.iret rfl (by rw [e9] at hQ; exact hQ)
  · show Wn _ 167 _ (44, [(4, .int (nI ((c / 8) + 0))), (3, .int ((nI (c % 8)) + (-1 : Int32))), (0, .ref p), (1, .int (nI c)), (2, .int (nI 2))], [], M)
    have h1 := b2_pos h1
    refine Wn.run (tab := tb_lk_beside) rfl 6 (c' := (55, [(4, .int (nI ((c / 8) + 0))), (3, .int ((nI (c % 8)) + (-1 : Int32))), (0, .ref p), (1, .int (nI c)), (2, .int (nI 2))], [.int (((nI 8) * (nI ((c / 8) + 0))) + ((nI (c % 8)) + (-1 : Int32)))], M)) (o := []) rfl trivial ?_
    rw [show ((nI 8) * (nI ((c / 8) + 0))) = (nI (8 * ((c / 8) + 0))) from (n_mul rfl rfl)]
    rw [m1_toInt (by omega), nI_toInt (by omega)] at h1
    have e9 : bes σ c 2 = some (c - 1) := by show (if 1 ≤ c % 8 ∧ c % 8 ≤ σ 0 ∧ c / 8 < σ 1 then some (c - 1) else none) = _; rw [if_pos (by omega)]
    exact Wn.iret rfl (by rw [e9] at hQ; rw [m1_nat (n := c % 8) (by omega), nI_add]; rw [show 8 * (c / 8 + 0) + (c % 8 - 1) = c - 1 from by omega]; exact hQ)
set_option maxRecDepth 20000 in
theorem w_lk_beside_3 (d : Nat) (M : Mm) (p : Nat) (σ : Nat → Nat) (hL : LkC M p σ) (hB : Bd σ) (c : Nat) (hc : c < 64) (Q : Po) (hQ : Q (some (.int (oI (bes σ c 3)))) M) : Wn (d + 2) 167 Q (0, lv_args 0 [.ref p, .int (nI c), .int (nI 3)], [], M) := by
  have k0 := Bd_0 hB
  have k1 := Bd_1 hB
  refine Wn.run (tab := tb_lk_beside) rfl 2 (c' := (if (nI 3) < 0 then 9 else 4, [(0, .ref p), (1, .int (nI c)), (2, .int (nI 3))], [], M)) (o := []) rfl trivial ?_
  rw [if_neg (show ¬ ((nI 3) < 0) by decide)]
  show Wn _ 167 _ (4, [(0, .ref p), (1, .int (nI c)), (2, .int (nI 3))], [], M)
  refine Wn.run (tab := tb_lk_beside) rfl 3 (c' := (if (nI 3) < (nI 4) then 11 else 9, [(0, .ref p), (1, .int (nI c)), (2, .int (nI 3))], [], M)) (o := []) rfl trivial ?_
  rw [if_pos (show (nI 3) < (nI 4) by decide)]
  show Wn _ 167 _ (11, [(0, .ref p), (1, .int (nI c)), (2, .int (nI 3))], [], M)
  refine Wn.run (tab := tb_lk_beside) rfl 19 (c' := (38, [(4, .int (((nI c) / (nI 8)) + (-1 : Int32))), (3, .int (((nI c) - (nI c) / (nI 8) * (nI 8)) + (nI 0))), (0, .ref p), (1, .int (nI c)), (2, .int (nI 3))], [.int (((nI c) / (nI 8)) + (-1 : Int32)), .int (((nI c) - (nI c) / (nI 8) * (nI 8)) + (nI 0)), .ref p], M)) (o := [¬ (nI 8) = 0, 200000 = 200000, vp_in (nI 3) 4, ¬ (nI 8) = 0, 200001 = 200001, vp_in (nI 3) 4]) rfl ⟨(show ¬ (nI 8) = 0 by decide), rfl, (vp_in_nI (by decide) (by decide)), (show ¬ (nI 8) = 0 by decide), rfl, (vp_in_nI (by decide) (by decide))⟩ ?_
  rw [show (((nI c) - (nI c) / (nI 8) * (nI 8)) + (nI 0)) = (nI ((c % 8) + 0)) from (n_add (n_rem rfl rfl (by omega) (by omega) (by omega)) rfl)]
  rw [show ((nI c) / (nI 8)) = (nI (c / 8)) from (n_div rfl rfl (by omega) (by omega) (by omega))]
  refine Wn.callV (p := p) (n := 3) (ix := 53) (ci := (2)) (fun r0 M0 => r0 = some (.int (b2 (0 ≤ (nI ((c % 8) + 0)).toInt ∧ (nI ((c % 8) + 0)).toInt < (σ 0 : Int) ∧ 0 ≤ ((nI (c / 8)) + (-1 : Int32)).toInt ∧ ((nI (c / 8)) + (-1 : Int32)).toInt < (σ 1 : Int)))) ∧ M = M0) [.int (nI ((c % 8) + 0)), .int ((nI (c / 8)) + (-1 : Int32))] [] rfl rfl rfl hL.1 (Nat.le_of_ble_eq_true rfl) (Nat.le_of_ble_eq_true rfl) (w_lk_isCell _ M p σ hL hB (nI ((c % 8) + 0)) ((nI (c / 8)) + (-1 : Int32)) _ ⟨rfl, rfl⟩) ?_
  rintro _ _ ⟨rfl, rfl⟩
  show Wn _ 167 _ (41, [(4, .int ((nI (c / 8)) + (-1 : Int32))), (3, .int (nI ((c % 8) + 0))), (0, .ref p), (1, .int (nI c)), (2, .int (nI 3))], [.int (b2 (0 ≤ (nI ((c % 8) + 0)).toInt ∧ (nI ((c % 8) + 0)).toInt < (σ 0 : Int) ∧ 0 ≤ ((nI (c / 8)) + (-1 : Int32)).toInt ∧ ((nI (c / 8)) + (-1 : Int32)).toInt < (σ 1 : Int)))], M)
  refine Wn.run (tab := tb_lk_beside) rfl 1 (c' := (if (b2 (0 ≤ (nI ((c % 8) + 0)).toInt ∧ (nI ((c % 8) + 0)).toInt < (σ 0 : Int) ∧ 0 ≤ ((nI (c / 8)) + (-1 : Int32)).toInt ∧ ((nI (c / 8)) + (-1 : Int32)).toInt < (σ 1 : Int))) = 0 then 54 else 44, [(4, .int ((nI (c / 8)) + (-1 : Int32))), (3, .int (nI ((c % 8) + 0))), (0, .ref p), (1, .int (nI c)), (2, .int (nI 3))], [], M)) (o := []) rfl trivial ?_
  refine Wn.br (fun h1 => ?_) (fun h1 => ?_)
  · show Wn _ 167 _ (54, [(4, .int ((nI (c / 8)) + (-1 : Int32))), (3, .int (nI ((c % 8) + 0))), (0, .ref p), (1, .int (nI c)), (2, .int (nI 3))], [], M)
    have h1 := b2_neg h1
    refine Wn.run (tab := tb_lk_beside) rfl 1 (c' := (55, [(4, .int ((nI (c / 8)) + (-1 : Int32))), (3, .int (nI ((c % 8) + 0))), (0, .ref p), (1, .int (nI c)), (2, .int (nI 3))], [.int (-1 : Int32)], M)) (o := []) rfl trivial ?_
    rw [nI_toInt (by omega), m1_toInt (by omega)] at h1
    have e9 : bes σ c 3 = none := by show (if c % 8 < σ 0 ∧ 1 ≤ c / 8 ∧ c / 8 ≤ σ 1 then some (c - 8) else none) = _; rw [if_neg (by omega)]
    exact Wn.iret rfl (by rw [e9] at hQ; exact hQ)
  · show Wn _ 167 _ (44, [(4, .int ((nI (c / 8)) + (-1 : Int32))), (3, .int (nI ((c % 8) + 0))), (0, .ref p), (1, .int (nI c)), (2, .int (nI 3))], [], M)
    have h1 := b2_pos h1
    refine Wn.run (tab := tb_lk_beside) rfl 6 (c' := (55, [(4, .int ((nI (c / 8)) + (-1 : Int32))), (3, .int (nI ((c % 8) + 0))), (0, .ref p), (1, .int (nI c)), (2, .int (nI 3))], [.int (((nI 8) * ((nI (c / 8)) + (-1 : Int32))) + (nI ((c % 8) + 0)))], M)) (o := []) rfl trivial ?_
    rw [nI_toInt (by omega), m1_toInt (by omega)] at h1
    have e9 : bes σ c 3 = some (c - 8) := by show (if c % 8 < σ 0 ∧ 1 ≤ c / 8 ∧ c / 8 ≤ σ 1 then some (c - 8) else none) = _; rw [if_pos (by omega)]
    exact Wn.iret rfl (by rw [e9] at hQ; rw [m1_nat (n := c / 8) (by omega), pk_mul, nI_add]; rw [show 8 * (c / 8 - 1) + (c % 8 + 0) = c - 8 from by omega]; exact hQ)
theorem w_lk_beside (d : Nat) (M : Mm) (p : Nat) (σ : Nat → Nat) (hL : LkC M p σ) (hB : Bd σ) (c s : Nat) (hc : c < 64) (hs : s < 4) (Q : Po) (hQ : Q (some (.int (oI (bes σ c s)))) M) : Wn (d + 2) 167 Q (0, lv_args 0 [.ref p, .int (nI c), .int (nI s)], [], M) := by
  match s, hs, hQ with
  | 0, _, hQ => exact w_lk_beside_0 d M p σ hL hB c hc Q hQ
  | 1, _, hQ => exact w_lk_beside_1 d M p σ hL hB c hc Q hQ
  | 2, _, hQ => exact w_lk_beside_2 d M p σ hL hB c hc Q hQ
  | 3, _, hQ => exact w_lk_beside_3 d M p σ hL hB c hc Q hQ
  | k + 4, h, _ => exact absurd h (by omega)
