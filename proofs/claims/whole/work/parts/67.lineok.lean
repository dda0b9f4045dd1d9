/-! What a line of a lake's text keeps: the bounds of the draft, and the reader goes on. -/
theorem tkN_ok {T : Nat → Nat} {L mo p lo hi x p1 : Nat} (hp : p ≤ L) (h : tkN T L mo p lo hi = .inr (x, p1)) : (lo ≤ x ∧ x ≤ hi) ∧ p1 ≤ L ∧ p < p1 := by
  obtain ⟨h1, h2, e⟩ := tkN_inr h
  have hn := tNx_le (T := T) (mo := mo) hp (by omega) (by omega)
  cases e
  exact ⟨h2, hn⟩
theorem DB_fz {δ : Nat → Nat} {w h i : Nat} (hδ : DB δ) (hw : 2 ≤ w ∧ w ≤ 8) (hh : 2 ≤ h ∧ h ≤ 8) (hi : i ≤ 9) : DB (fz δ w h i) := by
  have e : ∀ k, fz δ w h i k = if 8 ≤ k ∧ k < 8 + 64 then (if (k - 8) % 8 < w ∧ (k - 8) / 8 < h then i else 0) else if k = 1 then h else if k = 0 then w else δ k := fun _ => rfl
  have e0 : fz δ w h i 0 = w := rfl
  have e1 : fz δ w h i 1 = h := rfl
  have e2 : fz δ w h i 2 = δ 2 := rfl
  have eq : ∀ k, 72 ≤ k → fz δ w h i k = δ k := fun k hk => by rw [e, if_neg (by omega), if_neg (by omega), if_neg (by omega)]
  obtain ⟨_, _, b2, bq, _⟩ := hδ
  refine ⟨by rw [e0]; exact hw, by rw [e1]; exact hh, by rw [e2]; exact b2, fun q hq => ?_, fun c hc => ?_⟩
  · rw [e2] at hq
    rw [eq _ (by omega), eq _ (by omega), eq _ (by omega)]
    exact bq q hq
  · rw [e, if_pos (by omega)]
    split <;> omega
theorem DB_su {δ : Nat → Nat} {k v : Nat} (hδ : DB δ) (h3 : 3 ≤ k) (h7 : k < 8) : DB (su δ k v) := by
  have e : ∀ x, ¬ x = k → su δ k v x = δ x := fun x hx => if_neg hx
  obtain ⟨b0, b1, b2, bq, bc⟩ := hδ
  refine ⟨by rw [e 0 (by omega)]; exact b0, by rw [e 1 (by omega)]; exact b1, by rw [e 2 (by omega)]; exact b2, fun q hq => ?_, fun c hc => ?_⟩
  · rw [e 2 (by omega)] at hq
    rw [e _ (by omega), e _ (by omega), e _ (by omega)]
    exact bq q hq
  · rw [e _ (by omega)]; exact bc c hc
theorem DB_ice {δ : Nat → Nat} {c v : Nat} (hδ : DB δ) (hc : c < 64) (hv : v ≤ 9) : DB (su δ (8 + c) v) := by
  have e : ∀ x, ¬ x = 8 + c → su δ (8 + c) v x = δ x := fun x hx => if_neg hx
  obtain ⟨b0, b1, b2, bq, bc⟩ := hδ
  refine ⟨by rw [e 0 (by omega)]; exact b0, by rw [e 1 (by omega)]; exact b1, by rw [e 2 (by omega)]; exact b2, fun q hq => ?_, fun x hx => ?_⟩
  · rw [e 2 (by omega)] at hq
    rw [e _ (by omega), e _ (by omega), e _ (by omega)]
    exact bq q hq
  · by_cases q : x = c
    · rw [q]; exact Nat.le_trans (Nat.le_of_eq (if_pos rfl)) hv
    · rw [e _ (by omega)]; exact bc x hx
theorem DB_pe {δ : Nat → Nat} {c ld t : Nat} (hδ : DB δ) (h6 : ¬ δ 2 = 6) (hc : c < 64) (hl : 1 ≤ ld ∧ ld ≤ 5) (ht : t ≤ 8) : DB (su (su (su (su δ (72 + δ 2) c) (78 + δ 2) ld) (84 + δ 2) t) 2 (δ 2 + 1)) := by
  obtain ⟨b0, b1, b2, bq, bc⟩ := hδ
  generalize hn : δ 2 = n at *
  have e : ∀ x, su (su (su (su δ (72 + n) c) (78 + n) ld) (84 + n) t) 2 (n + 1) x = if x = 2 then n + 1 else if x = 84 + n then t else if x = 78 + n then ld else if x = 72 + n then c else δ x := fun _ => rfl
  have e9 : ∀ x, ¬ x = 2 → ¬ x = 84 + n → ¬ x = 78 + n → ¬ x = 72 + n → su (su (su (su δ (72 + n) c) (78 + n) ld) (84 + n) t) 2 (n + 1) x = δ x := fun x h1 h2 h3 h4 => by rw [e, if_neg h1, if_neg h2, if_neg h3, if_neg h4]
  have e2 : su (su (su (su δ (72 + n) c) (78 + n) ld) (84 + n) t) 2 (n + 1) 2 = n + 1 := rfl
  refine ⟨by rw [e9 0 (by omega) (by omega) (by omega) (by omega)]; exact b0, by rw [e9 1 (by omega) (by omega) (by omega) (by omega)]; exact b1, by rw [e2]; omega, fun q hq => ?_, fun x hx => ?_⟩
  · rw [e2] at hq
    by_cases k : q = n
    · subst k
      rw [e (72 + q), if_neg (by omega), if_neg (by omega), if_neg (by omega), if_pos rfl, e (78 + q), if_neg (by omega), if_neg (by omega), if_pos rfl, e (84 + q), if_neg (by omega), if_pos rfl]
      exact ⟨hc, hl.1, hl.2, ht⟩
    · rw [e9 _ (by omega) (by omega) (by omega) (by omega), e9 _ (by omega) (by omega) (by omega) (by omega), e9 _ (by omega) (by omega) (by omega) (by omega)]
      exact bq q (by omega)
  · rw [e9 _ (by omega) (by omega) (by omega) (by omega)]; exact bc x hx
def LOk (L p : Nat) (st : Dst) : Prop := st.1 ≤ L ∧ p < st.1 ∧ DB st.2.1 ∧ st.2.2.2.1 < 32
theorem rdLk_ok {T : Nat → Nat} {L mo p : Nat} {δ : Nat → Nat} {ν : Nat → Int64} {o : Nat} {ic : Int64} {st : Dst} (hp : p ≤ L) (hk : tKd T L mo p = 10) (hδ : DB δ) (ho : o < 32) (h : rdLk T L mo p δ ν o ic = .inr st) : LOk L p st := by
  have hn := tNx_le (T := T) (mo := mo) hp (by omega) (by omega)
  unfold rdLk at h
  by_cases h0 : ¬ ic = 0 ∨ 0 < δ 2 ∨ o.testBit 4 = true
  · rw [if_pos h0] at h; cases h
  rw [if_neg h0] at h
  cases h1 : tkN T L mo (tNx T L p) 2 8 with
  | inl f => rw [h1] at h; cases h
  | inr v =>
    obtain ⟨w, p1⟩ := v
    rw [h1] at h; dsimp only at h
    have t1 := tkN_ok hn.1 h1
    cases h2 : tkN T L mo p1 2 8 with
    | inl f => rw [h2] at h; cases h
    | inr v =>
      obtain ⟨h9, p2⟩ := v
      rw [h2] at h; dsimp only at h
      have t2 := tkN_ok t1.2.1 h2
      cases h3 : tkN T L mo p2 0 9 with
      | inl f => rw [h3] at h; cases h
      | inr v =>
        obtain ⟨i, p3⟩ := v
        rw [h3] at h; dsimp only at h
        have t3 := tkN_ok t2.2.1 h3
        cases h
        exact ⟨t3.2.1, by dsimp only; omega, DB_fz hδ t1.1 t2.1 t3.1.2, or_lt5 4 (by decide) o ho⟩
theorem rdIc_ok {T : Nat → Nat} {L mo p : Nat} {δ : Nat → Nat} {ν : Nat → Int64} {o : Nat} {ic : Int64} {st : Dst} (hp : p ≤ L) (hk : tKd T L mo p = 11) (hδ : DB δ) (ho : o < 32) (h : rdIc T L mo p δ ν o ic = .inr st) : LOk L p st := by
  have hn := tNx_le (T := T) (mo := mo) hp (by omega) (by omega)
  unfold rdIc at h
  by_cases h0 : 0 < δ 2
  · rw [if_pos h0] at h; cases h
  rw [if_neg h0] at h
  cases h1 : tkN T L mo (tNx T L p) 0 (δ 0 - 1) with
  | inl f => rw [h1] at h; cases h
  | inr v =>
    obtain ⟨x, p1⟩ := v
    rw [h1] at h; dsimp only at h
    have t1 := tkN_ok hn.1 h1
    cases h2 : tkN T L mo p1 0 (δ 1 - 1) with
    | inl f => rw [h2] at h; cases h
    | inr v =>
      obtain ⟨y, p2⟩ := v
      rw [h2] at h; dsimp only at h
      have t2 := tkN_ok t1.2.1 h2
      by_cases hb : (ic >>> ((nI (8 * y + x)).toInt64 &&& 63)) &&& 1 = 1
      · rw [if_pos hb] at h; cases h
      rw [if_neg hb] at h
      cases h3 : tkN T L mo p2 0 9 with
      | inl f => rw [h3] at h; cases h
      | inr v =>
        obtain ⟨i, p3⟩ := v
        rw [h3] at h; dsimp only at h
        have t3 := tkN_ok t2.2.1 h3
        cases h
        exact ⟨t3.2.1, by dsimp only; omega, DB_ice hδ (by have := hδ.1; have := hδ.2.1; omega) t3.1.2, ho⟩
theorem rdPe_ok {T : Nat → Nat} {L mo p : Nat} {δ : Nat → Nat} {ν : Nat → Int64} {o : Nat} {ic : Int64} {st : Dst} (hp : p ≤ L) (hk : tKd T L mo p = 12) (hδ : DB δ) (ho : o < 32) (h : rdPe T L mo p δ ν o ic = .inr st) : LOk L p st := by
  have hn := tNx_le (T := T) (mo := mo) hp (by omega) (by omega)
  unfold rdPe at h
  by_cases h0 : δ 2 = 6
  · rw [if_pos h0] at h; cases h
  rw [if_neg h0] at h
  by_cases h3 : ¬ tKd T L mo (tNx T L p) = 3
  · rw [if_pos h3] at h; cases h
  rw [if_neg h3] at h
  have hm := tNx_le (T := T) (mo := mo) hn.1 (by omega) (by omega)
  cases hq : pcl ν (tNm T L (tNx T L p)) (δ 2) with
  | some _ => rw [hq] at h; cases h
  | none =>
    rw [hq] at h; dsimp only at h
    cases h1 : tkN T L mo (tNx T L (tNx T L p)) 0 (δ 0 - 1) with
    | inl f => rw [h1] at h; cases h
    | inr v =>
      obtain ⟨x, p1⟩ := v
      rw [h1] at h; dsimp only at h
      have t1 := tkN_ok hm.1 h1
      cases h2 : tkN T L mo p1 0 (δ 1 - 1) with
      | inl f => rw [h2] at h; cases h
      | inr v =>
        obtain ⟨y, p2⟩ := v
        rw [h2] at h; dsimp only at h
        have t2 := tkN_ok t1.2.1 h2
        cases h4 : tkN T L mo p2 1 5 with
        | inl f => rw [h4] at h; cases h
        | inr v =>
          obtain ⟨ld, p3⟩ := v
          rw [h4] at h; dsimp only at h
          have t4 := tkN_ok t2.2.1 h4
          by_cases hb : δ (8 + (8 * y + x)) < ld + dlN δ (8 * y + x) (δ 2)
          · rw [if_pos hb] at h; cases h
          rw [if_neg hb] at h
          cases h5 : tkN T L mo p3 0 8 with
          | inl f => rw [h5] at h; cases h
          | inr v =>
            obtain ⟨t, p4⟩ := v
            rw [h5] at h; dsimp only at h
            have t5 := tkN_ok t4.2.1 h5
            cases h
            exact ⟨t5.2.1, by dsimp only; omega, DB_pe hδ h0 (by have := hδ.1; have := hδ.2.1; omega) t4.1 t5.1.2, ho⟩
theorem rdRu_ok {T : Nat → Nat} {L mo p : Nat} {δ : Nat → Nat} {ν : Nat → Int64} {o : Nat} {ic : Int64} {st : Dst} (hp : p ≤ L) (hk : tKd T L mo p = 13) (hδ : DB δ) (ho : o < 32) (h : rdRu T L mo p δ ν o ic = .inr st) : LOk L p st := by
  have hn := tNx_le (T := T) (mo := mo) hp (by omega) (by omega)
  unfold rdRu at h
  by_cases h0 : o.testBit 0 = true
  · rw [if_pos h0] at h; cases h
  rw [if_neg h0] at h
  cases h1 : tkN T L mo (tNx T L p) 1 9 with
  | inl f => rw [h1] at h; cases h
  | inr v =>
    obtain ⟨x, p1⟩ := v
    rw [h1] at h; dsimp only at h
    have t1 := tkN_ok hn.1 h1
    cases h2 : tkN T L mo p1 0 3 with
    | inl f => rw [h2] at h; cases h
    | inr v =>
      obtain ⟨y, p2⟩ := v
      rw [h2] at h; dsimp only at h
      have t2 := tkN_ok t1.2.1 h2
      cases h
      exact ⟨t2.2.1, by dsimp only; omega, DB_su (DB_su hδ (by decide) (by decide)) (by decide) (by decide), or_lt5 0 (by decide) o ho⟩
theorem rdOn_ok {T : Nat → Nat} {L mo p : Nat} {δ : Nat → Nat} {ν : Nat → Int64} {o : Nat} {ic : Int64} {k to lo hi : Nat} {st : Dst} (hp : p ≤ L) (hk : 14 ≤ tKd T L mo p ∧ tKd T L mo p ≤ 16) (hk5 : k < 5) (ht : 3 ≤ to ∧ to < 8) (hδ : DB δ) (ho : o < 32) (h : rdOn T L mo p δ ν o ic k to lo hi = .inr st) : LOk L p st := by
  have hn := tNx_le (T := T) (mo := mo) hp (by omega) (by omega)
  unfold rdOn at h
  by_cases h0 : o.testBit k = true
  · rw [if_pos h0] at h; cases h
  rw [if_neg h0] at h
  cases h1 : tkN T L mo (tNx T L p) lo hi with
  | inl f => rw [h1] at h; cases h
  | inr v =>
    obtain ⟨x, p1⟩ := v
    rw [h1] at h; dsimp only at h
    have t1 := tkN_ok hn.1 h1
    cases h
    exact ⟨t1.2.1, by dsimp only; omega, DB_su hδ ht.1 ht.2, or_lt5 k hk5 o ho⟩
theorem rdLn_ok {T : Nat → Nat} {L mo p : Nat} {δ : Nat → Nat} {ν : Nat → Int64} {o : Nat} {ic : Int64} {st : Dst} (hp : p ≤ L) (hδ : DB δ) (ho : o < 32) (h : rdLn T L mo p δ ν o ic = .inr st) : LOk L p st := by
  unfold rdLn at h
  by_cases h10 : tKd T L mo p = 10
  · rw [if_pos h10] at h; exact rdLk_ok hp h10 hδ ho h
  rw [if_neg h10] at h
  by_cases h11 : tKd T L mo p = 11
  · rw [if_pos h11] at h; exact rdIc_ok hp h11 hδ ho h
  rw [if_neg h11] at h
  by_cases h12 : tKd T L mo p = 12
  · rw [if_pos h12] at h; exact rdPe_ok hp h12 hδ ho h
  rw [if_neg h12] at h
  by_cases h13 : tKd T L mo p = 13
  · rw [if_pos h13] at h; exact rdRu_ok hp h13 hδ ho h
  rw [if_neg h13] at h
  by_cases h14 : tKd T L mo p = 14
  · rw [if_pos h14] at h; exact rdOn_ok hp (by omega) (by decide) (by decide) hδ ho h
  rw [if_neg h14] at h
  by_cases h15 : tKd T L mo p = 15
  · rw [if_pos h15] at h; exact rdOn_ok hp (by omega) (by decide) (by decide) hδ ho h
  rw [if_neg h15] at h
  by_cases h16 : tKd T L mo p = 16
  · rw [if_pos h16] at h; exact rdOn_ok hp (by omega) (by decide) (by decide) hδ ho h
  rw [if_neg h16] at h
  cases h
