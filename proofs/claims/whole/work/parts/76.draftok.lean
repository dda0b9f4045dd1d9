/-! What the lines of a lake's text keep, all of it; the state that a told lake begins with. -/
theorem dlN_cg {δ ε : Nat → Nat} {c : Nat} : ∀ n, (∀ q, q < n → ε (72 + q) = δ (72 + q) ∧ ε (78 + q) = δ (78 + q)) → dlN ε c n = dlN δ c n
  | 0, _ => rfl
  | n + 1, h => by
    show dlN ε c n + (if ε (72 + n) = c then ε (78 + n) else 0) = dlN δ c n + (if δ (72 + n) = c then δ (78 + n) else 0)
    rw [dlN_cg n (fun q hq => h q (by omega)), (h n (by omega)).1, (h n (by omega)).2]
def DF (δ : Nat → Nat) : Prop := (1 ≤ δ 3 ∧ δ 3 ≤ 9) ∧ δ 4 ≤ 3 ∧ (2 ≤ δ 5 ∧ δ 5 ≤ 9) ∧ (1 ≤ δ 6 ∧ δ 6 ≤ 9) ∧ 1 ≤ δ 7 ∧ δ 7 ≤ 30
def DQ (δ : Nat → Nat) : Prop := ∀ q, q < 6 → δ (72 + q) < 64 ∧ δ (78 + q) ≤ 5 ∧ δ (84 + q) ≤ 8
def DW (δ : Nat → Nat) : Prop := DB δ ∧ DF δ ∧ DQ δ ∧ (∀ q, q < δ 2 → inL δ (δ (72 + q))) ∧ (∀ c, c < 64 → ¬ inL δ c → δ (8 + c) = 0) ∧ ∀ q, q < δ 2 → dlN δ (δ (72 + q)) (δ 2) ≤ δ (8 + δ (72 + q))
theorem DW_0 : DW dl0 := by
  refine ⟨DB_0, by unfold DF; decide, by unfold DQ; decide, fun q hq => absurd hq (by show ¬ q < 0; omega), ?_, fun q hq => absurd hq (by show ¬ q < 0; omega)⟩
  decide
theorem DW_su {δ : Nat → Nat} {k v : Nat} (hδ : DW δ) (h3 : 3 ≤ k) (h7 : k < 8) (hv : DF (su δ k v)) : DW (su δ k v) := by
  have e : ∀ x, ¬ x = k → su δ k v x = δ x := fun x hx => if_neg hx
  obtain ⟨b0, b1, b2, b3, b4, b5⟩ := hδ
  refine ⟨DB_su b0 h3 h7, hv, fun q hq => ?_, fun q hq => ?_, fun c hc hn => ?_, fun q hq => ?_⟩
  · rw [e _ (by omega), e _ (by omega), e _ (by omega)]; exact b2 q hq
  · rw [e 2 (by omega)] at hq
    show (su δ k v (72 + q)) % 8 < su δ k v 0 ∧ (su δ k v (72 + q)) / 8 < su δ k v 1
    rw [e _ (by omega), e _ (by omega), e _ (by omega)]; exact b3 q hq
  · rw [e _ (by omega)]
    refine b4 c hc (fun q9 => hn ?_)
    show c % 8 < su δ k v 0 ∧ c / 8 < su δ k v 1
    rw [e _ (by omega), e _ (by omega)]; exact q9
  · rw [e 2 (by omega)] at hq
    have h64 := (b0.2.2.2.1 q hq).1
    rw [e (72 + q) (by omega), e 2 (by omega), e (8 + δ (72 + q)) (by omega), dlN_cg (δ := δ) _ (fun r hr => ⟨e _ (by omega), e _ (by omega)⟩)]
    exact b5 q hq
theorem DW_fz {δ : Nat → Nat} {w h i : Nat} (hδ : DW δ) (h0 : δ 2 = 0) (hw : 2 ≤ w ∧ w ≤ 8) (hh : 2 ≤ h ∧ h ≤ 8) (hi : i ≤ 9) : DW (fz δ w h i) := by
  have e : ∀ k, fz δ w h i k = if 8 ≤ k ∧ k < 8 + 64 then (if (k - 8) % 8 < w ∧ (k - 8) / 8 < h then i else 0) else if k = 1 then h else if k = 0 then w else δ k := fun _ => rfl
  have e2 : fz δ w h i 2 = 0 := h0
  have eq : ∀ k, 72 ≤ k → fz δ w h i k = δ k := fun k hk => by rw [e, if_neg (by omega), if_neg (by omega), if_neg (by omega)]
  obtain ⟨b0, b1, b2, b3, b4, b5⟩ := hδ
  refine ⟨DB_fz b0 hw hh hi, b1, fun q hq => ?_, fun q hq => ?_, fun c hc hn => ?_, fun q hq => ?_⟩
  · rw [eq _ (by omega), eq _ (by omega), eq _ (by omega)]; exact b2 q hq
  · rw [e2] at hq; omega
  · rw [e, if_pos (by omega), show 8 + c - 8 = c by omega]
    exact if_neg hn
  · rw [e2] at hq; omega
theorem DW_ice {δ : Nat → Nat} {c v : Nat} (hδ : DW δ) (h0 : δ 2 = 0) (hc : c < 64) (hi : inL δ c) (hv : v ≤ 9) : DW (su δ (8 + c) v) := by
  have e : ∀ x, ¬ x = 8 + c → su δ (8 + c) v x = δ x := fun x hx => if_neg hx
  have e2 : su δ (8 + c) v 2 = 0 := by rw [e 2 (by omega)]; exact h0
  obtain ⟨b0, b1, b2, b3, b4, b5⟩ := hδ
  refine ⟨DB_ice b0 hc hv, ?_, fun q hq => ?_, fun q hq => ?_, fun x hx hn => ?_, fun q hq => ?_⟩
  · unfold DF
    rw [e 3 (by omega), e 4 (by omega), e 5 (by omega), e 6 (by omega), e 7 (by omega)]; exact b1
  · rw [e _ (by omega), e _ (by omega), e _ (by omega)]; exact b2 q hq
  · rw [e2] at hq; omega
  · have hn2 : ¬ inL δ x := fun q9 => hn (by
      show x % 8 < su δ (8 + c) v 0 ∧ x / 8 < su δ (8 + c) v 1
      rw [e _ (by omega), e _ (by omega)]; exact q9)
    have hne : ¬ x = c := fun q9 => hn2 (by rw [q9]; exact hi)
    rw [e _ (by omega)]
    exact b4 x hx hn2
  · rw [e2] at hq; omega
theorem DW_pe {δ : Nat → Nat} {c ld t : Nat} (hδ : DW δ) (h6 : ¬ δ 2 = 6) (hc : c < 64) (hi : inL δ c) (hl : 1 ≤ ld ∧ ld ≤ 5) (ht : t ≤ 8) (hb : ld + dlN δ c (δ 2) ≤ δ (8 + c)) : DW (su (su (su (su δ (72 + δ 2) c) (78 + δ 2) ld) (84 + δ 2) t) 2 (δ 2 + 1)) := by
  have hdb := DB_pe hδ.1 h6 hc hl ht
  obtain ⟨b0, b1, b2, b3, b4, b5⟩ := hδ
  have n6 := b0.2.2.1
  have bq := b0.2.2.2.1
  generalize hn : δ 2 = n at *
  have e : ∀ x, su (su (su (su δ (72 + n) c) (78 + n) ld) (84 + n) t) 2 (n + 1) x = if x = 2 then n + 1 else if x = 84 + n then t else if x = 78 + n then ld else if x = 72 + n then c else δ x := fun _ => rfl
  have e9 : ∀ x, ¬ x = 2 → ¬ x = 84 + n → ¬ x = 78 + n → ¬ x = 72 + n → su (su (su (su δ (72 + n) c) (78 + n) ld) (84 + n) t) 2 (n + 1) x = δ x := fun x h1 h2 h3 h4 => by rw [e, if_neg h1, if_neg h2, if_neg h3, if_neg h4]
  have e2 : su (su (su (su δ (72 + n) c) (78 + n) ld) (84 + n) t) 2 (n + 1) 2 = n + 1 := rfl
  have ea : su (su (su (su δ (72 + n) c) (78 + n) ld) (84 + n) t) 2 (n + 1) (72 + n) = c := by rw [e, if_neg (by omega), if_neg (by omega), if_neg (by omega), if_pos rfl]
  have el : su (su (su (su δ (72 + n) c) (78 + n) ld) (84 + n) t) 2 (n + 1) (78 + n) = ld := by rw [e, if_neg (by omega), if_neg (by omega), if_pos rfl]
  have et : su (su (su (su δ (72 + n) c) (78 + n) ld) (84 + n) t) 2 (n + 1) (84 + n) = t := by rw [e, if_neg (by omega), if_pos rfl]
  generalize su (su (su (su δ (72 + n) c) (78 + n) ld) (84 + n) t) 2 (n + 1) = ε at *
  have f0 : ε 0 = δ 0 := e9 0 (by omega) (by omega) (by omega) (by omega)
  have f1 : ε 1 = δ 1 := e9 1 (by omega) (by omega) (by omega) (by omega)
  have fi : ∀ x, x < 64 → ε (8 + x) = δ (8 + x) := fun x hx => e9 _ (by omega) (by omega) (by omega) (by omega)
  have fq : ∀ q, q < n → ε (72 + q) = δ (72 + q) ∧ ε (78 + q) = δ (78 + q) ∧ ε (84 + q) = δ (84 + q) := fun q hq => ⟨e9 _ (by omega) (by omega) (by omega) (by omega), e9 _ (by omega) (by omega) (by omega) (by omega), e9 _ (by omega) (by omega) (by omega) (by omega)⟩
  have fl : ∀ x, dlN ε x (n + 1) = dlN δ x n + (if c = x then ld else 0) := fun x => by
    show dlN ε x n + (if ε (72 + n) = x then ε (78 + n) else 0) = _
    rw [ea, el, dlN_cg (δ := δ) n (fun q hq => ⟨(fq q hq).1, (fq q hq).2.1⟩)]
  refine ⟨hdb, ?_, fun q hq => ?_, fun q hq => ?_, fun x hx hn2 => ?_, fun q hq => ?_⟩
  · unfold DF
    rw [e9 3 (by omega) (by omega) (by omega) (by omega), e9 4 (by omega) (by omega) (by omega) (by omega), e9 5 (by omega) (by omega) (by omega) (by omega), e9 6 (by omega) (by omega) (by omega) (by omega), e9 7 (by omega) (by omega) (by omega) (by omega)]
    exact b1
  · by_cases k : q = n
    · rw [k, ea, el, et]; exact ⟨hc, hl.2, ht⟩
    · rw [e9 _ (by omega) (by omega) (by omega) (by omega), e9 _ (by omega) (by omega) (by omega) (by omega), e9 _ (by omega) (by omega) (by omega) (by omega)]
      exact b2 q hq
  · rw [e2] at hq
    show (ε (72 + q)) % 8 < ε 0 ∧ (ε (72 + q)) / 8 < ε 1
    rw [f0, f1]
    by_cases k : q = n
    · rw [k, ea]; exact hi
    · rw [(fq q (by omega)).1]; exact b3 q (by omega)
  · rw [fi x hx]
    refine b4 x hx (fun q9 => hn2 ?_)
    show x % 8 < ε 0 ∧ x / 8 < ε 1
    rw [f0, f1]; exact q9
  · rw [e2] at hq
    rw [e2, fl]
    by_cases k : q = n
    · rw [k, ea, if_pos rfl, fi c hc]; omega
    · have hq2 : q < n := by omega
      have h64 := (bq q hq2).1
      rw [(fq q hq2).1, fi _ h64]
      by_cases k2 : c = δ (72 + q)
      · rw [if_pos k2, ← k2]; omega
      · rw [if_neg k2]; exact b5 q hq2
theorem rdLk_w {T : Nat → Nat} {L mo p : Nat} {δ : Nat → Nat} {ν : Nat → Int64} {o : Nat} {ic : Int64} {st : Dst} (hδ : DW δ) (h : rdLk T L mo p δ ν o ic = .inr st) : DW st.2.1 := by
  unfold rdLk at h
  by_cases h0 : ¬ ic = 0 ∨ 0 < δ 2 ∨ o.testBit 4 = true
  · rw [if_pos h0] at h; cases h
  rw [if_neg h0] at h
  cases h1 : tkN T L mo (tNx T L p) 2 8 with
  | inl f => rw [h1] at h; cases h
  | inr v =>
    obtain ⟨w, p1⟩ := v
    rw [h1] at h; dsimp only at h
    have t1 : 2 ≤ w ∧ w ≤ 8 := by obtain ⟨_, q, e⟩ := tkN_inr h1; cases e; exact q
    cases h2 : tkN T L mo p1 2 8 with
    | inl f => rw [h2] at h; cases h
    | inr v =>
      obtain ⟨h9, p2⟩ := v
      rw [h2] at h; dsimp only at h
      have t2 : 2 ≤ h9 ∧ h9 ≤ 8 := by obtain ⟨_, q, e⟩ := tkN_inr h2; cases e; exact q
      cases h3 : tkN T L mo p2 0 9 with
      | inl f => rw [h3] at h; cases h
      | inr v =>
        obtain ⟨i, p3⟩ := v
        rw [h3] at h; dsimp only at h
        have t3 : 0 ≤ i ∧ i ≤ 9 := by obtain ⟨_, q, e⟩ := tkN_inr h3; cases e; exact q
        cases h
        have h02 : ¬ 0 < δ 2 := fun q => h0 (Or.inr (Or.inl q))
        exact DW_fz hδ (by omega) t1 t2 t3.2
theorem rdIc_w {T : Nat → Nat} {L mo p : Nat} {δ : Nat → Nat} {ν : Nat → Int64} {o : Nat} {ic : Int64} {st : Dst} (hδ : DW δ) (h : rdIc T L mo p δ ν o ic = .inr st) : DW st.2.1 := by
  unfold rdIc at h
  have d0 := hδ.1.1
  have d1 := hδ.1.2.1
  by_cases h0 : 0 < δ 2
  · rw [if_pos h0] at h; cases h
  rw [if_neg h0] at h
  cases h1 : tkN T L mo (tNx T L p) 0 (δ 0 - 1) with
  | inl f => rw [h1] at h; cases h
  | inr v =>
    obtain ⟨x, p1⟩ := v
    rw [h1] at h; dsimp only at h
    have t1 : 0 ≤ x ∧ x ≤ δ 0 - 1 := by obtain ⟨_, q, e⟩ := tkN_inr h1; cases e; exact q
    cases h2 : tkN T L mo p1 0 (δ 1 - 1) with
    | inl f => rw [h2] at h; cases h
    | inr v =>
      obtain ⟨y, p2⟩ := v
      rw [h2] at h; dsimp only at h
      have t2 : 0 ≤ y ∧ y ≤ δ 1 - 1 := by obtain ⟨_, q, e⟩ := tkN_inr h2; cases e; exact q
      by_cases hb : (ic >>> ((nI (8 * y + x)).toInt64 &&& 63)) &&& 1 = 1
      · rw [if_pos hb] at h; cases h
      rw [if_neg hb] at h
      cases h3 : tkN T L mo p2 0 9 with
      | inl f => rw [h3] at h; cases h
      | inr v =>
        obtain ⟨i, p3⟩ := v
        rw [h3] at h; dsimp only at h
        have t3 : 0 ≤ i ∧ i ≤ 9 := by obtain ⟨_, q, e⟩ := tkN_inr h3; cases e; exact q
        cases h
        exact DW_ice hδ (by omega) (by omega) ⟨by omega, by omega⟩ t3.2
theorem rdPe_w {T : Nat → Nat} {L mo p : Nat} {δ : Nat → Nat} {ν : Nat → Int64} {o : Nat} {ic : Int64} {st : Dst} (hδ : DW δ) (h : rdPe T L mo p δ ν o ic = .inr st) : DW st.2.1 := by
  unfold rdPe at h
  have d0 := hδ.1.1
  have d1 := hδ.1.2.1
  by_cases h0 : δ 2 = 6
  · rw [if_pos h0] at h; cases h
  rw [if_neg h0] at h
  by_cases h3 : ¬ tKd T L mo (tNx T L p) = 3
  · rw [if_pos h3] at h; cases h
  rw [if_neg h3] at h
  cases hq : pcl ν (tNm T L (tNx T L p)) (δ 2) with
  | some _ => rw [hq] at h; cases h
  | none =>
    rw [hq] at h; dsimp only at h
    cases h1 : tkN T L mo (tNx T L (tNx T L p)) 0 (δ 0 - 1) with
    | inl f => rw [h1] at h; cases h
    | inr v =>
      obtain ⟨x, p1⟩ := v
      rw [h1] at h; dsimp only at h
      have t1 : 0 ≤ x ∧ x ≤ δ 0 - 1 := by obtain ⟨_, q, e⟩ := tkN_inr h1; cases e; exact q
      cases h2 : tkN T L mo p1 0 (δ 1 - 1) with
      | inl f => rw [h2] at h; cases h
      | inr v =>
        obtain ⟨y, p2⟩ := v
        rw [h2] at h; dsimp only at h
        have t2 : 0 ≤ y ∧ y ≤ δ 1 - 1 := by obtain ⟨_, q, e⟩ := tkN_inr h2; cases e; exact q
        cases h4 : tkN T L mo p2 1 5 with
        | inl f => rw [h4] at h; cases h
        | inr v =>
          obtain ⟨ld, p3⟩ := v
          rw [h4] at h; dsimp only at h
          have t4 : 1 ≤ ld ∧ ld ≤ 5 := by obtain ⟨_, q, e⟩ := tkN_inr h4; cases e; exact q
          by_cases hb : δ (8 + (8 * y + x)) < ld + dlN δ (8 * y + x) (δ 2)
          · rw [if_pos hb] at h; cases h
          rw [if_neg hb] at h
          cases h5 : tkN T L mo p3 0 8 with
          | inl f => rw [h5] at h; cases h
          | inr v =>
            obtain ⟨t, p4⟩ := v
            rw [h5] at h; dsimp only at h
            have t5 : 0 ≤ t ∧ t ≤ 8 := by obtain ⟨_, q, e⟩ := tkN_inr h5; cases e; exact q
            cases h
            exact DW_pe hδ h0 (by omega) ⟨by omega, by omega⟩ t4 t5.2 (by omega)
theorem rdRu_w {T : Nat → Nat} {L mo p : Nat} {δ : Nat → Nat} {ν : Nat → Int64} {o : Nat} {ic : Int64} {st : Dst} (hδ : DW δ) (h : rdRu T L mo p δ ν o ic = .inr st) : DW st.2.1 := by
  unfold rdRu at h
  by_cases h0 : o.testBit 0 = true
  · rw [if_pos h0] at h; cases h
  rw [if_neg h0] at h
  cases h1 : tkN T L mo (tNx T L p) 1 9 with
  | inl f => rw [h1] at h; cases h
  | inr v =>
    obtain ⟨x, p1⟩ := v
    rw [h1] at h; dsimp only at h
    have t1 : 1 ≤ x ∧ x ≤ 9 := by obtain ⟨_, q, e⟩ := tkN_inr h1; cases e; exact q
    cases h2 : tkN T L mo p1 0 3 with
    | inl f => rw [h2] at h; cases h
    | inr v =>
      obtain ⟨y, p2⟩ := v
      rw [h2] at h; dsimp only at h
      have t2 : 0 ≤ y ∧ y ≤ 3 := by obtain ⟨_, q, e⟩ := tkN_inr h2; cases e; exact q
      cases h
      have f1 := hδ.2.1
      have w1 : DW (su δ 3 x) := DW_su hδ (by decide) (by decide) ⟨t1, f1.2⟩
      exact DW_su w1 (by decide) (by decide) ⟨t1, t2.2, f1.2.2⟩
theorem rdOn_w {T : Nat → Nat} {L mo p : Nat} {δ : Nat → Nat} {ν : Nat → Int64} {o : Nat} {ic : Int64} {k to lo hi : Nat} {st : Dst} (hto : ∀ x, lo ≤ x → x ≤ hi → DW (su δ to x)) (h : rdOn T L mo p δ ν o ic k to lo hi = .inr st) : DW st.2.1 := by
  unfold rdOn at h
  by_cases h0 : o.testBit k = true
  · rw [if_pos h0] at h; cases h
  rw [if_neg h0] at h
  cases h1 : tkN T L mo (tNx T L p) lo hi with
  | inl f => rw [h1] at h; cases h
  | inr v =>
    obtain ⟨x, p1⟩ := v
    rw [h1] at h; dsimp only at h
    have t1 : lo ≤ x ∧ x ≤ hi := by obtain ⟨_, q, e⟩ := tkN_inr h1; cases e; exact q
    cases h
    exact hto x t1.1 t1.2
theorem rdLn_w {T : Nat → Nat} {L mo p : Nat} {δ : Nat → Nat} {ν : Nat → Int64} {o : Nat} {ic : Int64} {st : Dst} (hδ : DW δ) (h : rdLn T L mo p δ ν o ic = .inr st) : DW st.2.1 := by
  have f1 := hδ.2.1
  unfold rdLn at h
  by_cases h10 : tKd T L mo p = 10
  · rw [if_pos h10] at h; exact rdLk_w hδ h
  rw [if_neg h10] at h
  by_cases h11 : tKd T L mo p = 11
  · rw [if_pos h11] at h; exact rdIc_w hδ h
  rw [if_neg h11] at h
  by_cases h12 : tKd T L mo p = 12
  · rw [if_pos h12] at h; exact rdPe_w hδ h
  rw [if_neg h12] at h
  by_cases h13 : tKd T L mo p = 13
  · rw [if_pos h13] at h; exact rdRu_w hδ h
  rw [if_neg h13] at h
  by_cases h14 : tKd T L mo p = 14
  · rw [if_pos h14] at h; exact rdOn_w (to := 5) (lo := 2) (hi := 9) (δ := δ) (fun x h1 h2 => DW_su hδ (by decide) (by decide) ⟨f1.1, f1.2.1, ⟨h1, h2⟩, f1.2.2.2⟩) h
  rw [if_neg h14] at h
  by_cases h15 : tKd T L mo p = 15
  · rw [if_pos h15] at h; exact rdOn_w (to := 6) (lo := 1) (hi := 9) (δ := δ) (fun x h1 h2 => DW_su hδ (by decide) (by decide) ⟨f1.1, f1.2.1, f1.2.2.1, ⟨h1, h2⟩, f1.2.2.2.2⟩) h
  rw [if_neg h15] at h
  by_cases h16 : tKd T L mo p = 16
  · rw [if_pos h16] at h; exact rdOn_w (to := 7) (lo := 1) (hi := 30) (δ := δ) (fun x h1 h2 => DW_su hδ (by decide) (by decide) ⟨f1.1, f1.2.1, f1.2.2.1, f1.2.2.2.1, h1, h2⟩) h
  rw [if_neg h16] at h
  cases h
/-! the state -/
theorem lkS_e (δ : Nat → Nat) (k : Nat) : lkS δ k = if 160 ≤ k ∧ k < 166 then e2S (fun k => if k < 90 then δ k else 0) 64 (k - 88) else if 166 ≤ k ∧ k < 172 then e2S (fun k => if k < 90 then δ k else 0) 64 (k - 82) else e2S (fun k => if k < 90 then δ k else 0) 64 k := rfl
theorem e2_e (a : Nat → Nat) (k : Nat) : e2S a 64 k = if 96 ≤ k ∧ k < 160 then a (k - 88) else a k := rfl
theorem lkS_lo (δ : Nat → Nat) {k : Nat} (h : k < 90) : lkS δ k = δ k := by rw [lkS_e, if_neg (by omega), if_neg (by omega), e2_e, if_neg (by omega)]; exact if_pos h
theorem lkS_0 (δ : Nat → Nat) {k : Nat} (h : 90 ≤ k) (h2 : k < 96) : lkS δ k = 0 := by rw [lkS_e, if_neg (by omega), if_neg (by omega), e2_e, if_neg (by omega)]; exact if_neg (by omega)
theorem lkS_ic (δ : Nat → Nat) {c : Nat} (h : c < 64) : lkS δ (96 + c) = δ (8 + c) := by rw [lkS_e, if_neg (by omega), if_neg (by omega), e2_e, if_pos (by omega), show 96 + c - 88 = 8 + c by omega]; exact if_pos (by omega)
theorem lkS_at (δ : Nat → Nat) {q : Nat} (h : q < 6) : lkS δ (160 + q) = δ (72 + q) := by rw [lkS_e, if_pos (by omega), e2_e, if_neg (by omega), show 160 + q - 88 = 72 + q by omega]; exact if_pos (by omega)
theorem lkS_te (δ : Nat → Nat) {q : Nat} (h : q < 6) : lkS δ (166 + q) = δ (84 + q) := by rw [lkS_e, if_neg (by omega), if_pos (by omega), e2_e, if_neg (by omega), show 166 + q - 82 = 84 + q by omega]; exact if_pos (by omega)
theorem lkS_hi (δ : Nat → Nat) {k : Nat} (h : 172 ≤ k) : lkS δ k = 0 := by rw [lkS_e, if_neg (by omega), if_neg (by omega), e2_e, if_neg (by omega)]; exact if_neg (by omega)
theorem lkS_fal (δ : Nat → Nat) (q : Nat) : fal (lkS δ) q = false := by unfold fal; rw [lkS_0 δ (by decide) (by decide)]; exact Nat.zero_testBit q
theorem lkS_on (δ : Nat → Nat) {c q : Nat} (h : q < 6) : onC (lkS δ) c q = decide (δ (72 + q) = c) := by unfold onC; rw [lkS_fal, lkS_at δ h]; simp
theorem lkS_ldN (δ : Nat → Nat) (c : Nat) : ∀ n, n ≤ 6 → ldN (lkS δ) c n = dlN δ c n
  | 0, _ => rfl
  | n + 1, hn => by
    show ldN (lkS δ) c n + (if onC (lkS δ) c n then lkS δ (78 + n) else 0) = dlN δ c n + (if δ (72 + n) = c then δ (78 + n) else 0)
    rw [lkS_ldN δ c n (by omega), lkS_on δ (by omega), lkS_lo δ (by omega)]
    simp
theorem lkS_ldX (δ : Nat → Nat) (c m : Nat) (hm : m ≤ 6) : ∀ n, n ≤ m → ldX (lkS δ) c (nI m) n = dlN δ c n
  | 0, _ => rfl
  | n + 1, hn => by
    have hne : ¬ nI n = nI m := fun e => by have := (nI_eq (by omega) (by omega)).mp e; omega
    show ldX (lkS δ) c (nI m) n + (if onC (lkS δ) c n = true ∧ ¬ nI n = nI m then lkS δ (78 + n) else 0) = dlN δ c n + (if δ (72 + n) = c then δ (78 + n) else 0)
    rw [lkS_ldX δ c m hm n (by omega), lkS_on δ (by omega), lkS_lo δ (by omega)]
    by_cases e : δ (72 + n) = c
    · rw [if_pos e, if_pos ⟨decide_eq_true e, hne⟩]
    · rw [if_neg e, if_neg (fun q => e (of_decide_eq_true q.1))]
theorem lkS_inv {δ : Nat → Nat} (h : DW δ) : Inv (lkS δ) := by
  obtain ⟨b0, b1, b2, b3, b4, b5⟩ := h
  obtain ⟨d0, d1, d2, d3, d4⟩ := b0
  obtain ⟨f3, f4, f5, f6, f7⟩ := b1
  have e2 := lkS_lo δ (k := 2) (by decide)
  have e0 := lkS_lo δ (k := 0) (by decide)
  have e1 := lkS_lo δ (k := 1) (by decide)
  refine ⟨?_, fun q hq => ?_, fun c hc hn => ?_, fun q hq hf => ?_⟩
  · unfold Bd
    rw [e0, e1, e2, lkS_lo δ (k := 3) (by decide), lkS_lo δ (k := 4) (by decide), lkS_lo δ (k := 5) (by decide), lkS_lo δ (k := 6) (by decide), lkS_lo δ (k := 7) (by decide), lkS_0 δ (k := 90) (by decide) (by decide), lkS_0 δ (k := 91) (by decide) (by decide), lkS_0 δ (k := 92) (by decide) (by decide)]
    refine ⟨d0.1, d0.2, d1.1, d1.2, d2, f3.1, f3.2, f4, f5.1, f5.2, f6.1, f6.2, f7.1, f7.2, by decide, by decide, by decide, fun q hq => ?_, fun c hc => ?_⟩
    · have h2 := b2 q hq
      rw [lkS_at δ hq, lkS_lo δ (by omega), lkS_te δ hq, lkS_hi δ (by omega)]
      exact ⟨h2.1, h2.2.1, by omega, by decide⟩
    · rw [lkS_ic δ hc]; exact d4 c hc
  · rw [e2] at hq
    show (lkS δ (160 + q)) % 8 < lkS δ 0 ∧ (lkS δ (160 + q)) / 8 < lkS δ 1
    rw [lkS_at δ (by omega), e0, e1]; exact b3 q hq
  · rw [lkS_ic δ hc]
    refine b4 c hc (fun q9 => hn ?_)
    show c % 8 < lkS δ 0 ∧ c / 8 < lkS δ 1
    rw [e0, e1]; exact q9
  · rw [e2] at hq
    have h64 := (d3 q hq).1
    unfold ld
    rw [e2, lkS_at δ (by omega), lkS_ldN δ _ _ d2, lkS_ic δ h64]
    exact b5 q hq
theorem lnS_w {T : Nat → Nat} {L mo : Nat} : ∀ (n k : Nat) (st : Dst) {k2 : Nat} {st2 : Dst}, st.1 ≤ L → DW st.2.1 → st.2.2.2.1 < 32 → lnS T L mo n k st = .inr (k2, st2) → DW st2.2.1 ∧ k2 ≤ k + n
  | 0, k, st, k2, st2, _, hδ, _, h => by cases h; exact ⟨hδ, by omega⟩
  | n + 1, k, st, k2, st2, hp, hδ, ho, h => by
    unfold lnS at h
    by_cases h0 : tKd T L mo st.1 = 0
    · rw [if_pos h0] at h; cases h; exact ⟨hδ, by omega⟩
    rw [if_neg h0] at h
    cases hq : rdLn T L mo st.1 st.2.1 st.2.2.1 st.2.2.2.1 st.2.2.2.2 with
    | inl f => rw [hq] at h; cases h
    | inr s2 =>
      rw [hq] at h; dsimp only at h
      by_cases h4 : tKd T L mo s2.1 = 4
      · rw [if_pos h4] at h
        have ok := rdLn_ok hp hδ.1 ho hq
        have tn := tNx_le (T := T) (mo := mo) ok.1 (by omega) (by omega)
        have hw := rdLn_w hδ hq
        have r := lnS_w n (k + 1) (tNx T L s2.1, s2.2) (by exact tn.1) hw ok.2.2.2 h
        exact ⟨r.1, by omega⟩
      · rw [if_neg h4] at h; cases h
