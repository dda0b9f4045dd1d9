/-! Names are below 2 to the 56. -/
theorem wN_b {T : Nat → Nat} {s : Nat} : ∀ j, (∀ i, i < j → isS (T (s + i))) → ∀ k, wN T s j / 2 ^ (8 * k) % 256 < 128
  | 0, _, k => by
    show 0 / 2 ^ (8 * k) % 256 < 128
    rw [Nat.zero_div]
    decide
  | j + 1, h, k => by
    have hj := h j (by omega)
    show (wN T s j * 256 + T (s + j)) / 2 ^ (8 * k) % 256 < 128
    cases k with
    | zero =>
      show (wN T s j * 256 + T (s + j)) / 1 % 256 < 128
      omega
    | succ k =>
      have e : 2 ^ (8 * (k + 1)) = 256 * 2 ^ (8 * k) := by
        rw [show 8 * (k + 1) = 8 + 8 * k by omega, Nat.pow_add]
      rw [e, ← Nat.div_div_eq_div_mul, show (wN T s j * 256 + T (s + j)) / 256 = wN T s j by omega]
      exact wN_b j (fun i hi => h i (by omega)) k
theorem tNm_b {T : Nat → Nat} {L mo p : Nat} (hT : ∀ k, k < L → T k < 256) (h : tKd T L mo p = 3) : NmB1 (tNm T L p) := by
  rcases tKd_cases (mo := mo) (p := p) hT with ⟨_, h1 | h1⟩ | ⟨_, h1 | ⟨h0, hd, hl, _⟩ | h1 | h1⟩
  · omega
  · omega
  · omega
  · have hs := rl_sum T L (sk T L p)
    have hd : nDg T (sk T L p) (rl T L (sk T L p)) = 0 := hd
    have hl : nLt T (sk T L p) (rl T L (sk T L p)) ≤ 7 := hl
    have hw := word_S hd
    have h1 := wN_lt (T := T) (s := sk T L p) (rl T L (sk T L p)) (fun i hi => by have := hw i hi; omega)
    have h2 : 256 ^ rl T L (sk T L p) ≤ 256 ^ 7 := Nat.pow_le_pow_right (by decide) (by omega)
    exact ⟨_, Nat.lt_of_lt_of_le h1 h2, fun k _ => wN_b (rl T L (sk T L p)) hw k, nNm_nat (rl T L (sk T L p)) (by omega) hw⟩
  · omega
  · omega
theorem rdLk_nm {T : Nat → Nat} {L mo p : Nat} {δ : Nat → Nat} {ν : Nat → Int64} {o : Nat} {ic : Int64} {st : Dst} (hδ : DW δ) (hT : ∀ k, k < L → T k < 256) (hν : NmB ν (δ 2)) (h : rdLk T L mo p δ ν o ic = .inr st) : NmB st.2.2.1 (st.2.1 2) := by
  have hν2 : ∀ m, m = δ 2 → NmB ν m := fun m e => by rw [e]; exact hν
  unfold rdLk at h
  by_cases h0 : ¬ ic = 0 ∨ 0 < δ 2 ∨ o.testBit 4 = true
  · rw [if_pos h0] at h; cases h
  rw [if_neg h0] at h
  cases h1 : tkN T L mo (tNx T L p) 2 8 with
  | inl f => rw [h1] at h; cases h
  | inr v =>
    obtain ⟨w, p1⟩ := v
    rw [h1] at h; dsimp only at h
    have t1 : 2 ≤ w ∧ w ≤ 8 := by obtain ⟨_, q, e⟩ := tkN_inr h1; cases e; exact q
    cases h2 : tkN T L mo p1 2 8 with
    | inl f => rw [h2] at h; cases h
    | inr v =>
      obtain ⟨h9, p2⟩ := v
      rw [h2] at h; dsimp only at h
      have t2 : 2 ≤ h9 ∧ h9 ≤ 8 := by obtain ⟨_, q, e⟩ := tkN_inr h2; cases e; exact q
      cases h3 : tkN T L mo p2 0 9 with
      | inl f => rw [h3] at h; cases h
      | inr v =>
        obtain ⟨i, p3⟩ := v
        rw [h3] at h; dsimp only at h
        have t3 : 0 ≤ i ∧ i ≤ 9 := by obtain ⟨_, q, e⟩ := tkN_inr h3; cases e; exact q
        cases h
        show NmB ν (fz δ w h9 i 2)
        have e : fz δ w h9 i 2 = δ 2 := by
          show (if 8 ≤ 2 ∧ 2 < 8 + 64 then _ else su (su δ 0 w) 1 h9 2) = _
          rw [if_neg (by omega)]
          rfl
        rw [e]
        exact hν
theorem rdIc_nm {T : Nat → Nat} {L mo p : Nat} {δ : Nat → Nat} {ν : Nat → Int64} {o : Nat} {ic : Int64} {st : Dst} (hδ : DW δ) (hT : ∀ k, k < L → T k < 256) (hν : NmB ν (δ 2)) (h : rdIc T L mo p δ ν o ic = .inr st) : NmB st.2.2.1 (st.2.1 2) := by
  have hν2 : ∀ m, m = δ 2 → NmB ν m := fun m e => by rw [e]; exact hν
  unfold rdIc at h
  have d0 := hδ.1.1
  have d1 := hδ.1.2.1
  by_cases h0 : 0 < δ 2
  · rw [if_pos h0] at h; cases h
  rw [if_neg h0] at h
  cases h1 : tkN T L mo (tNx T L p) 0 (δ 0 - 1) with
  | inl f => rw [h1] at h; cases h
  | inr v =>
    obtain ⟨x, p1⟩ := v
    rw [h1] at h; dsimp only at h
    have t1 : 0 ≤ x ∧ x ≤ δ 0 - 1 := by obtain ⟨_, q, e⟩ := tkN_inr h1; cases e; exact q
    cases h2 : tkN T L mo p1 0 (δ 1 - 1) with
    | inl f => rw [h2] at h; cases h
    | inr v =>
      obtain ⟨y, p2⟩ := v
      rw [h2] at h; dsimp only at h
      have t2 : 0 ≤ y ∧ y ≤ δ 1 - 1 := by obtain ⟨_, q, e⟩ := tkN_inr h2; cases e; exact q
      by_cases hb : (ic >>> ((nI (8 * y + x)).toInt64 &&& 63)) &&& 1 = 1
      · rw [if_pos hb] at h; cases h
      rw [if_neg hb] at h
      cases h3 : tkN T L mo p2 0 9 with
      | inl f => rw [h3] at h; cases h
      | inr v =>
        obtain ⟨i, p3⟩ := v
        rw [h3] at h; dsimp only at h
        have t3 : 0 ≤ i ∧ i ≤ 9 := by obtain ⟨_, q, e⟩ := tkN_inr h3; cases e; exact q
        cases h
        exact hν2 _ (su_ne (by omega))
theorem rdPe_nm {T : Nat → Nat} {L mo p : Nat} {δ : Nat → Nat} {ν : Nat → Int64} {o : Nat} {ic : Int64} {st : Dst} (hδ : DW δ) (hT : ∀ k, k < L → T k < 256) (hν : NmB ν (δ 2)) (h : rdPe T L mo p δ ν o ic = .inr st) : NmB st.2.2.1 (st.2.1 2) := by
  have hν2 : ∀ m, m = δ 2 → NmB ν m := fun m e => by rw [e]; exact hν
  unfold rdPe at h
  have d0 := hδ.1.1
  have d1 := hδ.1.2.1
  by_cases h0 : δ 2 = 6
  · rw [if_pos h0] at h; cases h
  rw [if_neg h0] at h
  by_cases h3 : ¬ tKd T L mo (tNx T L p) = 3
  · rw [if_pos h3] at h; cases h
  rw [if_neg h3] at h
  cases hq : pcl ν (tNm T L (tNx T L p)) (δ 2) with
  | some _ => rw [hq] at h; cases h
  | none =>
    rw [hq] at h; dsimp only at h
    cases h1 : tkN T L mo (tNx T L (tNx T L p)) 0 (δ 0 - 1) with
    | inl f => rw [h1] at h; cases h
    | inr v =>
      obtain ⟨x, p1⟩ := v
      rw [h1] at h; dsimp only at h
      have t1 : 0 ≤ x ∧ x ≤ δ 0 - 1 := by obtain ⟨_, q, e⟩ := tkN_inr h1; cases e; exact q
      cases h2 : tkN T L mo p1 0 (δ 1 - 1) with
      | inl f => rw [h2] at h; cases h
      | inr v =>
        obtain ⟨y, p2⟩ := v
        rw [h2] at h; dsimp only at h
        have t2 : 0 ≤ y ∧ y ≤ δ 1 - 1 := by obtain ⟨_, q, e⟩ := tkN_inr h2; cases e; exact q
        cases h4 : tkN T L mo p2 1 5 with
        | inl f => rw [h4] at h; cases h
        | inr v =>
          obtain ⟨ld, p3⟩ := v
          rw [h4] at h; dsimp only at h
          have t4 : 1 ≤ ld ∧ ld ≤ 5 := by obtain ⟨_, q, e⟩ := tkN_inr h4; cases e; exact q
          by_cases hb : δ (8 + (8 * y + x)) < ld + dlN δ (8 * y + x) (δ 2)
          · rw [if_pos hb] at h; cases h
          rw [if_neg hb] at h
          cases h5 : tkN T L mo p3 0 8 with
          | inl f => rw [h5] at h; cases h
          | inr v =>
            obtain ⟨t, p4⟩ := v
            rw [h5] at h; dsimp only at h
            have t5 : 0 ≤ t ∧ t ≤ 8 := by obtain ⟨_, q, e⟩ := tkN_inr h5; cases e; exact q
            cases h
            have e2 : su (su (su (su δ (72 + δ 2) (8 * y + x)) (78 + δ 2) ld) (84 + δ 2) t) 2 (δ 2 + 1) 2 = δ 2 + 1 := su_eq rfl
            intro q hq9
            have hq9 : q < δ 2 + 1 := by rw [← e2]; exact hq9
            by_cases eq : q = δ 2
            · show NmB1 (vp_updL ν (δ 2) (tNm T L (tNx T L p)) q)
              rw [eq, pk_uLs]
              exact tNm_b hT (Classical.not_not.mp h3)
            · show NmB1 (vp_updL ν (δ 2) (tNm T L (tNx T L p)) q)
              rw [pk_uLn eq]
              exact hν q (by omega)
theorem rdRu_nm {T : Nat → Nat} {L mo p : Nat} {δ : Nat → Nat} {ν : Nat → Int64} {o : Nat} {ic : Int64} {st : Dst} (hδ : DW δ) (hT : ∀ k, k < L → T k < 256) (hν : NmB ν (δ 2)) (h : rdRu T L mo p δ ν o ic = .inr st) : NmB st.2.2.1 (st.2.1 2) := by
  have hν2 : ∀ m, m = δ 2 → NmB ν m := fun m e => by rw [e]; exact hν
  unfold rdRu at h
  by_cases h0 : o.testBit 0 = true
  · rw [if_pos h0] at h; cases h
  rw [if_neg h0] at h
  cases h1 : tkN T L mo (tNx T L p) 1 9 with
  | inl f => rw [h1] at h; cases h
  | inr v =>
    obtain ⟨x, p1⟩ := v
    rw [h1] at h; dsimp only at h
    have t1 : 1 ≤ x ∧ x ≤ 9 := by obtain ⟨_, q, e⟩ := tkN_inr h1; cases e; exact q
    cases h2 : tkN T L mo p1 0 3 with
    | inl f => rw [h2] at h; cases h
    | inr v =>
      obtain ⟨y, p2⟩ := v
      rw [h2] at h; dsimp only at h
      have t2 : 0 ≤ y ∧ y ≤ 3 := by obtain ⟨_, q, e⟩ := tkN_inr h2; cases e; exact q
      cases h
      exact hν2 _ (show su (su δ 3 x) 4 y 2 = δ 2 from by rw [su_ne (by omega), su_ne (by omega)])
theorem rdOn_nm {T : Nat → Nat} {L mo p : Nat} {δ : Nat → Nat} {ν : Nat → Int64} {o : Nat} {ic : Int64} {k to lo hi : Nat} {st : Dst} (hto : ¬ 2 = to) (hν : NmB ν (δ 2)) (h : rdOn T L mo p δ ν o ic k to lo hi = .inr st) : NmB st.2.2.1 (st.2.1 2) := by
  unfold rdOn at h
  by_cases h0 : o.testBit k = true
  · rw [if_pos h0] at h; cases h
  rw [if_neg h0] at h
  cases h1 : tkN T L mo (tNx T L p) lo hi with
  | inl f => rw [h1] at h; cases h
  | inr v =>
    obtain ⟨x, p1⟩ := v
    rw [h1] at h; dsimp only at h
    have t1 : lo ≤ x ∧ x ≤ hi := by obtain ⟨_, q, e⟩ := tkN_inr h1; cases e; exact q
    cases h
    show NmB ν (su δ to x 2)
    rw [su_ne hto]
    exact hν
theorem rdLn_nm {T : Nat → Nat} {L mo p : Nat} {δ : Nat → Nat} {ν : Nat → Int64} {o : Nat} {ic : Int64} {st : Dst} (hδ : DW δ) (hT : ∀ k, k < L → T k < 256) (hν : NmB ν (δ 2)) (h : rdLn T L mo p δ ν o ic = .inr st) : NmB st.2.2.1 (st.2.1 2) := by
  unfold rdLn at h
  by_cases h10 : tKd T L mo p = 10
  · rw [if_pos h10] at h; exact rdLk_nm hδ hT hν h
  rw [if_neg h10] at h
  by_cases h11 : tKd T L mo p = 11
  · rw [if_pos h11] at h; exact rdIc_nm hδ hT hν h
  rw [if_neg h11] at h
  by_cases h12 : tKd T L mo p = 12
  · rw [if_pos h12] at h; exact rdPe_nm hδ hT hν h
  rw [if_neg h12] at h
  by_cases h13 : tKd T L mo p = 13
  · rw [if_pos h13] at h; exact rdRu_nm hδ hT hν h
  rw [if_neg h13] at h
  by_cases h14 : tKd T L mo p = 14
  · rw [if_pos h14] at h; exact rdOn_nm (by decide) hν h
  rw [if_neg h14] at h
  by_cases h15 : tKd T L mo p = 15
  · rw [if_pos h15] at h; exact rdOn_nm (by decide) hν h
  rw [if_neg h15] at h
  by_cases h16 : tKd T L mo p = 16
  · rw [if_pos h16] at h; exact rdOn_nm (by decide) hν h
  rw [if_neg h16] at h
  cases h
theorem lnS_nm {T : Nat → Nat} {L mo : Nat} (hT : ∀ k, k < L → T k < 256) : ∀ (n k : Nat) (st : Dst) {k2 : Nat} {st2 : Dst}, st.1 ≤ L → DW st.2.1 → st.2.2.2.1 < 32 → NmB st.2.2.1 (st.2.1 2) → lnS T L mo n k st = .inr (k2, st2) → NmB st2.2.2.1 (st2.2.1 2)
  | 0, k, st, k2, st2, _, hδ, _, hν, h => by cases h; exact hν
  | n + 1, k, st, k2, st2, hp, hδ, ho, hν, h => by
    unfold lnS at h
    by_cases h0 : tKd T L mo st.1 = 0
    · rw [if_pos h0] at h; cases h; exact hν
    rw [if_neg h0] at h
    cases hq : rdLn T L mo st.1 st.2.1 st.2.2.1 st.2.2.2.1 st.2.2.2.2 with
    | inl f => rw [hq] at h; cases h
    | inr s2 =>
      rw [hq] at h; dsimp only at h
      by_cases h4 : tKd T L mo s2.1 = 4
      · rw [if_pos h4] at h
        have ok := rdLn_ok hp hδ.1 ho hq
        have tn := tNx_le (T := T) (mo := mo) ok.1 (by omega) (by omega)
        have hm := rdLn_nm hδ hT hν hq
        have hw := rdLn_w hδ hq
        exact lnS_nm hT n (k + 1) (tNx T L s2.1, s2.2) (by exact tn.1) hw ok.2.2.2 hm h
      · rw [if_neg h4] at h; cases h
