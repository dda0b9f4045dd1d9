/-! The reference's tokens. -/
def pkI (T : Nat → Nat) (L z : Nat) : Int32 := if z < L then nI (T z) else -1
theorem pkI_y {T : Nat → Nat} {L z : Nat} (h : z < L) : pkI T L z = nI (T z) := if_pos h
theorem pkI_n {T : Nat → Nat} {L z : Nat} (h : ¬ z < L) : pkI T L z = -1 := if_neg h
theorem pkI_eq {T : Nat → Nat} {L z c : Nat} (hT : ∀ k, k < L → T k < 256) (hc : c < 256) : pkI T L z = nI c ↔ (z < L ∧ T z = c) := by
  by_cases h : z < L
  · have := hT z h
    rw [pkI_y h, nI_eq (by omega) (by omega)]
    exact ⟨fun e => ⟨h, e⟩, fun e => e.2⟩
  · rw [pkI_n h]
    exact ⟨fun e => absurd e.symm (nI_m1 (by omega)), fun e => absurd e.1 h⟩
theorem pkI_ge {T : Nat → Nat} {L z : Nat} (hT : ∀ k, k < L → T k < 256) : 0 ≤ pkI T L z ↔ z < L := by
  by_cases h : z < L
  · have := hT z h
    rw [pkI_y h]
    exact ⟨fun _ => h, fun _ => nI_ge0 (by omega)⟩
  · rw [pkI_n h]
    exact ⟨fun e => absurd e (by decide), fun e => absurd e h⟩
theorem w_m_isSmallP (d : Nat) (T : Nat → Nat) (L z : Nat) (hT : ∀ k, k < L → T k < 256) (M : Mm) (Q : Po) (hQ : Q (some (.int (b2 (z < L ∧ isS (T z))))) M) : Wn (d + 0) 55 Q (0, lv_args 0 [.int (pkI T L z)], [], M) := by
  refine w_m_isSmall d _ M Q ?_
  by_cases h : z < L
  · have h9 := hT z h
    rw [pkI_y h]
    by_cases hs : isS (T z)
    · rw [b2_t ⟨h, hs⟩] at hQ
      rw [if_neg (by rw [nI_ltI (by omega) (by omega)]; omega), if_neg (by rw [nI_ltI (by omega) (by omega)]; omega)]
      exact hQ
    · rw [b2_f (fun h8 => hs h8.2)] at hQ
      by_cases h7 : T z < 97
      · rw [if_pos (by rw [nI_ltI (by omega) (by omega)]; omega)]; exact hQ
      · rw [if_neg (by rw [nI_ltI (by omega) (by omega)]; omega), if_pos (by rw [nI_ltI (by omega) (by omega)]; omega)]; exact hQ
  · rw [pkI_n h]
    rw [b2_f (fun h8 => h h8.1)] at hQ
    exact hQ
theorem w_m_isDigitP (d : Nat) (T : Nat → Nat) (L z : Nat) (hT : ∀ k, k < L → T k < 256) (M : Mm) (Q : Po) (hQ : Q (some (.int (b2 (z < L ∧ isD (T z))))) M) : Wn (d + 0) 56 Q (0, lv_args 0 [.int (pkI T L z)], [], M) := by
  refine w_m_isDigit d _ M Q ?_
  by_cases h : z < L
  · have h9 := hT z h
    rw [pkI_y h]
    by_cases hs : isD (T z)
    · rw [b2_t ⟨h, hs⟩] at hQ
      rw [if_neg (by rw [nI_ltI (by omega) (by omega)]; omega), if_neg (by rw [nI_ltI (by omega) (by omega)]; omega)]
      exact hQ
    · rw [b2_f (fun h8 => hs h8.2)] at hQ
      by_cases h7 : T z < 48
      · rw [if_pos (by rw [nI_ltI (by omega) (by omega)]; omega)]; exact hQ
      · rw [if_neg (by rw [nI_ltI (by omega) (by omega)]; omega), if_pos (by rw [nI_ltI (by omega) (by omega)]; omega)]; exact hQ
  · rw [pkI_n h]
    rw [b2_f (fun h8 => h h8.1)] at hQ
    exact hQ
def tCd (k : Nat) : Nat := if k = 0 then 0 else if k = 1 ∨ k = 36 then 4 else if k = 2 then 2 else if 4 ≤ k ∧ k ≤ 9 then 3 else 1
theorem kc_sg : ∀ c, c < 256 → ((c = 59 ∨ c = 40 ∨ c = 41 ∨ (60 ≤ c ∧ c ≤ 62)) ↔ ¬ kc (Int64.ofNat c) 1 = 1) := by decide +kernel
/-- the reference has the token at p -/
def TkM (M : Mm) (T : Nat → Nat) (L mo p : Nat) : Prop := M.1 114 3 = nI L ∧ M.1 114 5 = nI mo ∧ M.1 114 12 = nI (tAt T L mo p) ∧ M.1 114 11 = nI (tCd (tKd T L mo p)) ∧ (¬ tKd T L mo p = 0 → ¬ tKd T L mo p = 36 → M.1 114 4 = nI (tNx T L p)) ∧ (tKd T L mo p = 2 → M.1 114 14 = nI (tVl T L p)) ∧ (4 ≤ tKd T L mo p ∧ tKd T L mo p ≤ 9 → M.1 114 14 = nI (T (sk T L p))) ∧ (tKd T L mo p = 3 ∨ (10 ≤ tKd T L mo p ∧ tKd T L mo p < 36) → M.2.1 114 17 = tNm T L p) ∧ TM (M.1 115) T L ∧ L ≤ 940 ∧ mo ≤ 940 ∧ p ≤ L
def KN : List Nat := [4, 11, 12, 13, 14]
def PNx (M0 : Mm) (g : Nat → Int32) (T : Nat → Nat) (L mo p : Nat) : Po := fun r0 M' => r0 = none ∧ TkM M' T L mo p ∧ Gx KN g (M'.1 114) ∧ (∀ k, ¬ k = 17 → M'.2.1 114 k = M0.2.1 114 k) ∧ Fr [114] M0 M'
def aL (T : Nat → Nat) (s z : Nat) : Prop := if isS (T s) then nDg T s z = 0 else nLt T s z = 0
theorem w_m_peek (d : Nat) (M : Mm) (T : Nat → Nat) (L z : Nat) (h4 : M.1 114 4 = nI z) (h3 : M.1 114 3 = nI L) (hT : TM (M.1 115) T L) (hL : L ≤ 940) (hz : z ≤ 940) (Q : Po) (hQ : Q (some (.int (pkI T L z))) M) : Wn (d + 0) 54 Q (0, lv_args 0 [.ref 114], [], M) := by
  refine Wn.run (tab := tb_m_peek) rfl 5 (c' := (if (M.1 114 3) ≤ (M.1 114 4) then 27 else 11, [(0, .ref 114)], [], M)) (o := [shp 114 = (0, 10), shp 114 = (0, 10)]) rfl ⟨rfl, rfl⟩ ?_
  rw [h3, h4]
  refine Wn.br (fun h => ?_) (fun h => ?_)
  · have h := (n_le rfl rfl (by omega) (by omega)).mp h
    refine Wn.run (tab := tb_m_peek) rfl 1 (c' := (28, [(0, .ref 114)], [.int (-1 : Int32)], M)) (o := []) rfl trivial ?_
    exact Wn.iret rfl (by rw [pkI_n (by omega)] at hQ; exact hQ)
  · have h := mt (n_le rfl rfl (by omega) (by omega)).mpr h
    refine Wn.run (tab := tb_m_peek) rfl 8 (c' := (28, [(0, .ref 114)], [.int ((M.1 115 ((M.1 114 4)).toNatClampNeg) &&& (nI 255))], M)) (o := [shp 114 = (0, 10), shp 114 = (0, 10), aok shp 115 1 (M.1 114 4)]) rfl ⟨rfl, rfl, (ak1 (n := 940) rfl rfl h4 (by omega))⟩ ?_
    rw [h4, nI_clamp (by omega), (hT z (by omega)).1]
    exact Wn.iret rfl (by rw [pkI_y (by omega)] at hQ; exact hQ)
