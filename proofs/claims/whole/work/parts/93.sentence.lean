/-! Sentences: where one is, how many parts, how many ones, the parts (ordinals of kinds), their signs, their numbers. -/
abbrev Sst : Type := Nat × Nat × Nat × (Nat → Nat) × (Nat → Nat) × (Nat → Nat)
def sAdd (a s u : Nat) (st : Sst) : Sst := (st.1, st.2.1 + 1, st.2.2.1, su st.2.2.2.1 st.2.1 a, su st.2.2.2.2.1 st.2.1 s, su st.2.2.2.2.2 st.2.1 u)
abbrev begK (c : Nat) : Prop := c = 8 ∨ c = 11 ∨ (27 ≤ c ∧ c ≤ 35)
def allL (T : Nat → Nat) (L mo : Nat) (o : Sst → Flt ⊕ Sst) : Nat → Sst → Flt ⊕ Sst
  | 0, st => .inr st
  | f + 1, st => if tKd T L mo st.1 = 26 then match o (tNx T L st.1, st.2) with
    | .inl e => .inl e
    | .inr s2 => allL T L mo o f (sAdd 26 0 0 s2) else .inr st
def allS (T : Nat → Nat) (L mo : Nat) (o : Sst → Flt ⊕ Sst) (st : Sst) : Flt ⊕ Sst := match o st with
  | .inl e => .inl e
  | .inr s2 => allL T L mo o 20 s2
def someL (T : Nat → Nat) (L mo : Nat) (o : Sst → Flt ⊕ Sst) : Nat → Sst → Flt ⊕ Sst
  | 0, st => .inr st
  | f + 1, st => if tKd T L mo st.1 = 25 then match allS T L mo o (tNx T L st.1, st.2) with
    | .inl e => .inl e
    | .inr s2 => someL T L mo o f (sAdd 25 0 0 s2) else .inr st
def someS (T : Nat → Nat) (L mo : Nat) (o : Sst → Flt ⊕ Sst) (st : Sst) : Flt ⊕ Sst := match allS T L mo o st with
  | .inl e => .inl e
  | .inr s2 => someL T L mo o 20 s2
/-- what is all there behind its first word -/
def leafS (T : Nat → Nat) (L mo : Nat) (ν : Nat → Int64) (np c : Nat) (s1 : Sst) : Flt ⊕ Sst :=
  if c = 28 ∨ c = 29 then .inr (sAdd c 0 0 s1)
  else if c = 30 ∨ c = 31 then (if ¬ tKd T L mo s1.1 = 3 then .inl (1, tAt T L mo s1.1) else match pcl ν (tNm T L s1.1) np with
    | none => .inl (3, tAt T L mo s1.1)
    | some q => .inr (sAdd c 0 q (tNx T L s1.1, s1.2)))
  else if ¬ (5 ≤ tKd T L mo s1.1 ∧ tKd T L mo s1.1 ≤ 7) then .inl (1, tAt T L mo s1.1) else match tkN T L mo (tNx T L s1.1) 0 999 with
    | .inl e => .inl e
    | .inr (x, p3) => .inr (sAdd c (tKd T L mo s1.1) x (p3, s1.2))
def oneS (T : Nat → Nat) (L mo : Nat) (ν : Nat → Int64) (np : Nat) : Nat → Sst → Flt ⊕ Sst
  | 0, st => if ¬ begK (tKd T L mo st.1) then .inl (1, tAt T L mo st.1) else .inl (4, tAt T L mo st.1)
  | b + 1, st => if ¬ begK (tKd T L mo st.1) then .inl (1, tAt T L mo st.1) else if 20 ≤ st.2.2.1 then .inl (4, tAt T L mo st.1) else
    if tKd T L mo st.1 = 27 then (match oneS T L mo ν np b (tNx T L st.1, st.2.1, st.2.2.1 + 1, st.2.2.2) with
      | .inl e => .inl e
      | .inr s2 => .inr (sAdd 27 0 0 s2))
    else if tKd T L mo st.1 = 8 then (match someS T L mo (oneS T L mo ν np b) (tNx T L st.1, st.2.1, st.2.2.1 + 1, st.2.2.2) with
      | .inl e => .inl e
      | .inr s2 => if tKd T L mo s2.1 = 9 then .inr (tNx T L s2.1, s2.2) else .inl (1, tAt T L mo s2.1))
    else leafS T L mo ν np (tKd T L mo st.1) (tNx T L st.1, st.2.1, st.2.2.1 + 1, st.2.2.2)
/-- the height of what waits, ahead of part i -/
def hgS (A : Nat → Nat) : Nat → Nat
  | 0 => 0
  | i + 1 => if A i = 27 then hgS A i else if A i = 25 ∨ A i = 26 then hgS A i - 1 else hgS A i + 1
def wfS (A : Nat → Nat) (i : Nat) : Prop := (A i = 27 → 1 ≤ hgS A i) ∧ (A i = 25 ∨ A i = 26 → 2 ≤ hgS A i)
def vlS (np : Nat) (a s u : Nat) : Prop := (25 ≤ a ∧ a ≤ 29 ∧ s = 0) ∨ ((a = 30 ∨ a = 31) ∧ s = 0 ∧ u < np) ∨ ((a = 11 ∨ (32 ≤ a ∧ a ≤ 35)) ∧ (5 ≤ s ∧ s ≤ 7) ∧ u ≤ 999)
theorem hgS_cg {A B : Nat → Nat} : ∀ n, (∀ i, i < n → B i = A i) → hgS B n = hgS A n
  | 0, _ => rfl
  | n + 1, h => by
    unfold hgS
    rw [h n (by omega), hgS_cg n (fun i hi => h i (by omega))]
theorem hgS_le (A : Nat → Nat) : ∀ n, hgS A n ≤ n
  | 0 => Nat.le_refl _
  | n + 1 => by
    have := hgS_le A n
    unfold hgS
    split
    · omega
    · split <;> omega
/-- behind what was read: k more waits than ahead of it -/
def SGo (L np k : Nat) (st s2 : Sst) : Prop := (st.1 < s2.1 ∧ s2.1 ≤ L) ∧ (st.2.2.1 < s2.2.2.1 ∧ s2.2.2.1 ≤ 20) ∧ (st.2.1 ≤ s2.2.1 ∧ s2.2.1 + k ≤ st.2.1 + 2 * (s2.2.2.1 - st.2.2.1)) ∧ (∀ i, i < st.2.1 → s2.2.2.2.1 i = st.2.2.2.1 i ∧ s2.2.2.2.2.1 i = st.2.2.2.2.1 i ∧ s2.2.2.2.2.2 i = st.2.2.2.2.2 i) ∧ (∀ i, st.2.1 ≤ i → i < s2.2.1 → wfS s2.2.2.2.1 i ∧ vlS np (s2.2.2.2.1 i) (s2.2.2.2.2.1 i) (s2.2.2.2.2.2 i)) ∧ hgS s2.2.2.2.1 s2.2.1 = hgS st.2.2.2.1 st.2.1 + k
/-- a leaf -/
theorem SGo_leaf {L np : Nat} {p p2 n o : Nat} {A S U : Nat → Nat} {c s u : Nat} (hp : p < p2) (hp2 : p2 ≤ L) (ho : o < 20) (hc : ¬ c = 27 ∧ ¬ c = 25 ∧ ¬ c = 26) (hv : vlS np c s u) : SGo L np 1 (p, n, o, A, S, U) (sAdd c s u (p2, n, o + 1, A, S, U)) := by
  have e : ∀ (X : Nat → Nat) (v i : Nat), ¬ i = n → su X n v i = X i := fun X v i h => if_neg h
  have ea : ∀ (X : Nat → Nat) (v : Nat), su X n v n = v := fun X v => if_pos rfl
  have hh : hgS (su A n c) n = hgS A n := hgS_cg n (fun i hi => e A c i (by omega))
  refine ⟨⟨hp, hp2⟩, ⟨by show o < o + 1; omega, by show o + 1 ≤ 20; omega⟩, ⟨by show n ≤ n + 1; omega, by show n + 1 + 1 ≤ n + 2 * (o + 1 - o); omega⟩, fun i hi => ⟨e _ _ _ (by have : i < n := hi; omega), e _ _ _ (by have : i < n := hi; omega), e _ _ _ (by have : i < n := hi; omega)⟩, fun i h1 h2 => ?_, ?_⟩
  · have h1 : n ≤ i := h1
    have h2 : i < n + 1 := h2
    have ei : i = n := by omega
    subst ei
    show wfS (su A i c) i ∧ vlS np (su A i c i) (su S i s i) (su U i u i)
    unfold wfS
    rw [ea, ea, ea]
    exact ⟨⟨fun q => absurd q hc.1, fun q => q.elim (fun q => absurd q hc.2.1) (fun q => absurd q hc.2.2)⟩, hv⟩
  · show hgS (su A n c) (n + 1) = hgS A n + 1
    show (if su A n c n = 27 then hgS (su A n c) n else if su A n c n = 25 ∨ su A n c n = 26 then hgS (su A n c) n - 1 else hgS (su A n c) n + 1) = _
    rw [ea, if_neg hc.1, if_neg (fun q => q.elim hc.2.1 hc.2.2), hh]
/-- one that joins nothing: not -/
theorem SGo_not {L np : Nat} {st s2 : Sst} (h : SGo L np 1 st s2) (hn : s2.2.1 + 2 ≤ st.2.1 + 2 * (s2.2.2.1 - st.2.2.1)) : SGo L np 1 st (sAdd 27 0 0 s2) := by
  obtain ⟨⟨a1, a2⟩, ⟨a3, a4⟩, ⟨a5, a6⟩, a7, a8, a9⟩ := h
  have e : ∀ (X : Nat → Nat) (v i : Nat), ¬ i = s2.2.1 → su X s2.2.1 v i = X i := fun X v i h => if_neg h
  have ea : ∀ (X : Nat → Nat) (v : Nat), su X s2.2.1 v s2.2.1 = v := fun X v => if_pos rfl
  have hh : ∀ m, m ≤ s2.2.1 → hgS (su s2.2.2.2.1 s2.2.1 27) m = hgS s2.2.2.2.1 m := fun m hm => hgS_cg m (fun i hi => e _ _ i (by omega))
  refine ⟨⟨a1, a2⟩, ⟨a3, a4⟩, ⟨Nat.le_succ_of_le a5, by show s2.2.1 + 1 + 1 ≤ st.2.1 + 2 * (s2.2.2.1 - st.2.2.1); omega⟩, fun i hi => ?_, fun i h1 h2 => ?_, ?_⟩
  · have := a7 i hi
    show su s2.2.2.2.1 s2.2.1 27 i = _ ∧ su s2.2.2.2.2.1 s2.2.1 0 i = _ ∧ su s2.2.2.2.2.2 s2.2.1 0 i = _
    rw [e _ _ _ (by omega), e _ _ _ (by omega), e _ _ _ (by omega)]; exact this
  · have h2 : i < s2.2.1 + 1 := h2
    show wfS (su s2.2.2.2.1 s2.2.1 27) i ∧ vlS np (su s2.2.2.2.1 s2.2.1 27 i) (su s2.2.2.2.2.1 s2.2.1 0 i) (su s2.2.2.2.2.2 s2.2.1 0 i)
    unfold wfS
    rw [hh i (by omega)]
    by_cases ei : i = s2.2.1
    · rw [ei, ea, ea, ea, a9]
      exact ⟨⟨fun _ => by omega, fun q => absurd q (by omega)⟩, Or.inl ⟨by omega, by omega, rfl⟩⟩
    · rw [e _ _ _ ei, e _ _ _ ei, e _ _ _ ei]; exact a8 i h1 (by omega)
  · show hgS (su s2.2.2.2.1 s2.2.1 27) (s2.2.1 + 1) = _
    show (if su s2.2.2.2.1 s2.2.1 27 s2.2.1 = 27 then hgS (su s2.2.2.2.1 s2.2.1 27) s2.2.1 else _) = _
    rw [ea, if_pos rfl, hh _ (Nat.le_refl _), a9]
/-- a joining word behind two -/
theorem SGo_join {L np : Nat} {st s1 s2 : Sst} {p : Nat} {c : Nat} (hc : c = 25 ∨ c = 26) (h1 : SGo L np 1 st s1) (hp : s1.1 < p) (h2 : SGo L np 1 (p, s1.2) s2) : SGo L np 1 st (sAdd c 0 0 s2) := by
  obtain ⟨⟨a1, a2⟩, ⟨a3, a4⟩, ⟨a5, a6⟩, a7, a8, a9⟩ := h1
  obtain ⟨⟨b1, b2⟩, ⟨b3, b4⟩, ⟨b5, b6⟩, b7, b8, b9⟩ := h2
  dsimp only at b1 b3 b5 b6 b7 b8 b9
  have e : ∀ (X : Nat → Nat) (v i : Nat), ¬ i = s2.2.1 → su X s2.2.1 v i = X i := fun X v i h => if_neg h
  have ea : ∀ (X : Nat → Nat) (v : Nat), su X s2.2.1 v s2.2.1 = v := fun X v => if_pos rfl
  have hh : ∀ m, m ≤ s2.2.1 → hgS (su s2.2.2.2.1 s2.2.1 c) m = hgS s2.2.2.2.1 m := fun m hm => hgS_cg m (fun i hi => e _ _ i (by omega))
  have hg2 : ∀ m, m ≤ s1.2.1 → hgS s2.2.2.2.1 m = hgS s1.2.2.2.1 m := fun m hm => hgS_cg m (fun i hi => (b7 i (by omega)).1)
  refine ⟨⟨by show st.1 < s2.1; omega, b2⟩, ⟨by show st.2.2.1 < s2.2.2.1; omega, b4⟩, ⟨by show st.2.1 ≤ s2.2.1 + 1; omega, by show s2.2.1 + 1 + 1 ≤ st.2.1 + 2 * (s2.2.2.1 - st.2.2.1); omega⟩, fun i hi => ?_, fun i h3 h4 => ?_, ?_⟩
  · have x := a7 i hi
    have y := b7 i (by omega)
    show su s2.2.2.2.1 s2.2.1 c i = _ ∧ su s2.2.2.2.2.1 s2.2.1 0 i = _ ∧ su s2.2.2.2.2.2 s2.2.1 0 i = _
    rw [e _ _ _ (by omega), e _ _ _ (by omega), e _ _ _ (by omega)]
    exact ⟨y.1.trans x.1, y.2.1.trans x.2.1, y.2.2.trans x.2.2⟩
  · have h4 : i < s2.2.1 + 1 := h4
    show wfS (su s2.2.2.2.1 s2.2.1 c) i ∧ vlS np (su s2.2.2.2.1 s2.2.1 c i) (su s2.2.2.2.2.1 s2.2.1 0 i) (su s2.2.2.2.2.2 s2.2.1 0 i)
    unfold wfS
    rw [hh i (by omega)]
    by_cases ei : i = s2.2.1
    · rw [ei, ea, ea, ea, b9, a9]
      exact ⟨⟨fun q => absurd q (by omega), fun _ => by omega⟩, Or.inl ⟨by omega, by omega, rfl⟩⟩
    · rw [e _ _ _ ei, e _ _ _ ei, e _ _ _ ei]
      by_cases e1 : i < s1.2.1
      · rw [hg2 i (by omega), (b7 i e1).1, (b7 i e1).2.1, (b7 i e1).2.2]
        exact a8 i h3 e1
      · exact b8 i (by omega) (by omega)
  · show hgS (su s2.2.2.2.1 s2.2.1 c) (s2.2.1 + 1) = _
    show (if su s2.2.2.2.1 s2.2.1 c s2.2.1 = 27 then _ else if su s2.2.2.2.1 s2.2.1 c s2.2.1 = 25 ∨ su s2.2.2.2.1 s2.2.1 c s2.2.1 = 26 then hgS (su s2.2.2.2.1 s2.2.1 c) s2.2.1 - 1 else _) = _
    rw [ea, if_neg (by omega), if_pos hc, hh _ (Nat.le_refl _), b9, a9]
    omega
theorem SGo_from {L np : Nat} {p : Nat} {st s2 : Sst} (hp : st.1 < p) (h : SGo L np 1 (p, st.2.1, st.2.2.1 + 1, st.2.2.2) s2) : SGo L np 1 st s2 ∧ s2.2.1 + 2 ≤ st.2.1 + 2 * (s2.2.2.1 - st.2.2.1) := by
  obtain ⟨⟨a1, a2⟩, ⟨a3, a4⟩, ⟨a5, a6⟩, a7, a8, a9⟩ := h
  dsimp only at a1 a3 a5 a6 a7 a8 a9
  exact ⟨⟨⟨by omega, a2⟩, ⟨by omega, a4⟩, ⟨a5, by omega⟩, a7, a8, a9⟩, by omega⟩
theorem SGo_adv {L np : Nat} {p : Nat} {st s2 : Sst} (hp : s2.1 < p) (hpL : p ≤ L) (h : SGo L np 1 st s2) : SGo L np 1 st (p, s2.2) := by
  obtain ⟨⟨a1, a2⟩, a3, a5, a7, a8, a9⟩ := h
  exact ⟨⟨by show st.1 < p; omega, hpL⟩, a3, a5, a7, a8, a9⟩
def OGo (L np : Nat) (o : Sst → Flt ⊕ Sst) : Prop := ∀ st s2, st.1 ≤ L → o st = .inr s2 → SGo L np 1 st s2
theorem allL_go {T : Nat → Nat} {L mo np : Nat} {o : Sst → Flt ⊕ Sst} (ho : OGo L np o) (st : Sst) : ∀ f s1 s2, SGo L np 1 st s1 → allL T L mo o f s1 = .inr s2 → SGo L np 1 st s2
  | 0, s1, s2, h1, h => by cases h; exact h1
  | f + 1, s1, s2, h1, h => by
    unfold allL at h
    by_cases c : tKd T L mo s1.1 = 26
    · rw [if_pos c] at h
      have hn := tNx_le (T := T) (mo := mo) h1.1.2 (by omega) (by omega)
      cases hq : o (tNx T L s1.1, s1.2) with
      | inl e => rw [hq] at h; cases h
      | inr s3 =>
        rw [hq] at h; dsimp only at h
        exact allL_go ho st f _ s2 (SGo_join (Or.inr rfl) h1 hn.2 (ho _ _ hn.1 hq)) h
    · rw [if_neg c] at h; cases h; exact h1
theorem allS_go {T : Nat → Nat} {L mo np : Nat} {o : Sst → Flt ⊕ Sst} (ho : OGo L np o) : OGo L np (allS T L mo o) := by
  intro st s2 hp h
  unfold allS at h
  cases hq : o st with
  | inl e => rw [hq] at h; cases h
  | inr s1 => rw [hq] at h; exact allL_go ho st 20 s1 s2 (ho _ _ hp hq) h
theorem someL_go {T : Nat → Nat} {L mo np : Nat} {o : Sst → Flt ⊕ Sst} (ho : OGo L np o) (st : Sst) : ∀ f s1 s2, SGo L np 1 st s1 → someL T L mo o f s1 = .inr s2 → SGo L np 1 st s2
  | 0, s1, s2, h1, h => by cases h; exact h1
  | f + 1, s1, s2, h1, h => by
    unfold someL at h
    by_cases c : tKd T L mo s1.1 = 25
    · rw [if_pos c] at h
      have hn := tNx_le (T := T) (mo := mo) h1.1.2 (by omega) (by omega)
      cases hq : allS T L mo o (tNx T L s1.1, s1.2) with
      | inl e => rw [hq] at h; cases h
      | inr s3 =>
        rw [hq] at h; dsimp only at h
        exact someL_go ho st f _ s2 (SGo_join (Or.inl rfl) h1 hn.2 (allS_go ho _ _ hn.1 hq)) h
    · rw [if_neg c] at h; cases h; exact h1
theorem someS_go {T : Nat → Nat} {L mo np : Nat} {o : Sst → Flt ⊕ Sst} (ho : OGo L np o) : OGo L np (someS T L mo o) := by
  intro st s2 hp h
  unfold someS at h
  cases hq : allS T L mo o st with
  | inl e => rw [hq] at h; cases h
  | inr s1 => rw [hq] at h; exact someL_go ho st 20 s1 s2 (allS_go ho _ _ hp hq) h
theorem leafS_go {T : Nat → Nat} {L mo : Nat} {ν : Nat → Int64} {np c p : Nat} {n o : Nat} {A S U : Nat → Nat} {s2 : Sst} (hpL : p ≤ L) (hc : c = 11 ∨ (28 ≤ c ∧ c ≤ 35)) (h : leafS T L mo ν np c (p, n, o + 1, A, S, U) = .inr s2) (ho : o < 20) (p0 : Nat) (hp0 : p0 < p) : SGo L np 1 (p0, n, o, A, S, U) s2 := by
  unfold leafS at h
  dsimp only at h
  by_cases c1 : c = 28 ∨ c = 29
  · rw [if_pos c1] at h; cases h
    exact SGo_leaf hp0 hpL ho (by omega) (Or.inl ⟨by omega, by omega, rfl⟩)
  rw [if_neg c1] at h
  by_cases c2 : c = 30 ∨ c = 31
  · rw [if_pos c2] at h
    by_cases c3 : ¬ tKd T L mo p = 3
    · rw [if_pos c3] at h; cases h
    rw [if_neg c3] at h
    have hn := tNx_le (T := T) (mo := mo) hpL (by omega) (by omega)
    cases hq : pcl ν (tNm T L p) np with
    | none => rw [hq] at h; cases h
    | some q =>
      rw [hq] at h; cases h
      exact SGo_leaf (by omega) hn.1 ho (by omega) (Or.inr (Or.inl ⟨c2, rfl, pcl_lt hq⟩))
  rw [if_neg c2] at h
  by_cases c3 : ¬ (5 ≤ tKd T L mo p ∧ tKd T L mo p ≤ 7)
  · rw [if_pos c3] at h; cases h
  rw [if_neg c3] at h
  have hn := tNx_le (T := T) (mo := mo) hpL (by omega) (by omega)
  cases hq : tkN T L mo (tNx T L p) 0 999 with
  | inl e => rw [hq] at h; cases h
  | inr v =>
    obtain ⟨x, p3⟩ := v
    rw [hq] at h; cases h
    have t1 := tkN_ok hn.1 hq
    exact SGo_leaf (by omega) t1.2.1 ho (by omega) (Or.inr (Or.inr ⟨by omega, by omega, t1.1.2⟩))
theorem oneS_go {T : Nat → Nat} {L mo : Nat} {ν : Nat → Int64} {np : Nat} : ∀ b, OGo L np (oneS T L mo ν np b)
  | 0 => by
    intro st s2 hp h
    unfold oneS at h
    split at h <;> cases h
  | b + 1 => by
    intro st s2 hp h
    unfold oneS at h
    by_cases c0 : ¬ begK (tKd T L mo st.1)
    · rw [if_pos c0] at h; cases h
    rw [if_neg c0] at h
    have hb := Classical.not_not.mp c0
    by_cases c1 : 20 ≤ st.2.2.1
    · rw [if_pos c1] at h; cases h
    rw [if_neg c1] at h
    have hn := tNx_le (T := T) (mo := mo) hp (by unfold begK at hb; omega) (by unfold begK at hb; omega)
    by_cases c2 : tKd T L mo st.1 = 27
    · rw [if_pos c2] at h
      cases hq : oneS T L mo ν np b (tNx T L st.1, st.2.1, st.2.2.1 + 1, st.2.2.2) with
      | inl e => rw [hq] at h; cases h
      | inr s3 =>
        rw [hq] at h; cases h
        have g := SGo_from hn.2 (oneS_go b _ _ hn.1 hq)
        exact SGo_not g.1 g.2
    rw [if_neg c2] at h
    by_cases c3 : tKd T L mo st.1 = 8
    · rw [if_pos c3] at h
      cases hq : someS T L mo (oneS T L mo ν np b) (tNx T L st.1, st.2.1, st.2.2.1 + 1, st.2.2.2) with
      | inl e => rw [hq] at h; cases h
      | inr s3 =>
        rw [hq] at h; dsimp only at h
        have g := SGo_from hn.2 (someS_go (oneS_go b) _ _ hn.1 hq)
        by_cases c4 : tKd T L mo s3.1 = 9
        · rw [if_pos c4] at h; cases h
          have hm := tNx_le (T := T) (mo := mo) g.1.1.2 (by omega) (by omega)
          exact SGo_adv hm.2 hm.1 g.1
        · rw [if_neg c4] at h; cases h
    rw [if_neg c3] at h
    obtain ⟨p, n, o, A, S, U⟩ := st
    exact leafS_go hn.1 (by unfold begK at hb; dsimp only at hb c2 c3 ⊢; omega) h (by have c9 : ¬ 20 ≤ o := c1; show o < 20; omega) p hn.2
