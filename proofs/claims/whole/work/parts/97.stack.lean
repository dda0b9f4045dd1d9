/-! The reference's way with sentences: a stack of what waits (27 not, 26 and, 25 or, 8 a bracket), the top first. -/
def ntS : List Nat → Sst → List Nat × Sst
  | [], st => ([], st)
  | x :: S, st => if x = 27 then ntS S (sAdd 27 0 0 st) else (x :: S, st)
def jnS (till : Nat) : List Nat → Sst → List Nat × Sst
  | [], st => ([], st)
  | x :: S, st => if x = 26 ∨ (x = 25 ∧ till = 25) then jnS till S (sAdd x 0 0 st) else (x :: S, st)
def cnS : List Nat → Nat
  | [] => 0
  | x :: S => cnS S + (if x = 27 ∨ x = 8 then 1 else 0)
/-- where the reference is: is an operand whole, what waits, what was read -/
abbrev Cst : Type := Bool × List Nat × Sst
def opS (T : Nat → Nat) (L mo : Nat) (ν : Nat → Int64) (np : Nat) (S : List Nat) (st : Sst) : Flt ⊕ Cst :=
  if ¬ begK (tKd T L mo st.1) then .inl (1, tAt T L mo st.1) else if st.2.2.1 = 20 ∨ 8 ≤ cnS S then .inl (4, tAt T L mo st.1) else
  if tKd T L mo st.1 = 27 ∨ tKd T L mo st.1 = 8 then .inr (false, tKd T L mo st.1 :: S, (tNx T L st.1, st.2.1, st.2.2.1 + 1, st.2.2.2))
  else match leafS T L mo ν np (tKd T L mo st.1) (tNx T L st.1, st.2.1, st.2.2.1 + 1, st.2.2.2) with
    | .inl e => .inl e
    | .inr s2 => .inr (true, S, s2)
def bhS (T : Nat → Nat) (L mo : Nat) (S : List Nat) (st : Sst) : Flt ⊕ Cst :=
  if tKd T L mo st.1 = 26 ∨ tKd T L mo st.1 = 25 then .inr (false, tKd T L mo st.1 :: (jnS (tKd T L mo st.1) (ntS S st).1 (ntS S st).2).1, (tNx T L st.1, (jnS (tKd T L mo st.1) (ntS S st).1 (ntS S st).2).2.2))
  else if ¬ tKd T L mo st.1 = 9 ∨ (jnS 25 (ntS S st).1 (ntS S st).2).1 = [] then .inl (1, tAt T L mo st.1)
  else .inr (true, (jnS 25 (ntS S st).1 (ntS S st).2).1.tail, (tNx T L st.1, (jnS 25 (ntS S st).1 (ntS S st).2).2.2))
def mcS (T : Nat → Nat) (L mo : Nat) (ν : Nat → Int64) (np : Nat) : Nat → Cst → Flt ⊕ Sst
  | 0, c => .inr c.2.2
  | f + 1, c => if c.1 = true ∧ tKd T L mo c.2.2.1 = 0 then (if (jnS 25 (ntS c.2.1 c.2.2).1 (ntS c.2.1 c.2.2).2).1 = [] then .inr (jnS 25 (ntS c.2.1 c.2.2).1 (ntS c.2.1 c.2.2).2).2 else .inl (1, tAt T L mo c.2.2.1))
    else match (if c.1 = true then bhS T L mo c.2.1 c.2.2 else opS T L mo ν np c.2.1 c.2.2) with
      | .inl e => .inl e
      | .inr c2 => mcS T L mo ν np f c2
theorem ntS_p (S : List Nat) : ∀ st, (ntS S st).2.1 = st.1 ∧ (ntS S st).2.2.2.1 = st.2.2.1 := by
  induction S with
  | nil => intro st; exact ⟨rfl, rfl⟩
  | cons x S ih =>
    intro st
    unfold ntS
    by_cases c : x = 27
    · rw [if_pos c]; exact ih _
    · rw [if_neg c]; exact ⟨rfl, rfl⟩
theorem jnS_p (till : Nat) (S : List Nat) : ∀ st, (jnS till S st).2.1 = st.1 ∧ (jnS till S st).2.2.2.1 = st.2.2.1 := by
  induction S with
  | nil => intro st; exact ⟨rfl, rfl⟩
  | cons x S ih =>
    intro st
    unfold jnS
    by_cases c : x = 26 ∨ (x = 25 ∧ till = 25)
    · rw [if_pos c]; exact ih _
    · rw [if_neg c]; exact ⟨rfl, rfl⟩
theorem leafS_p {T : Nat → Nat} {L mo : Nat} {ν : Nat → Int64} {np c : Nat} {s1 s2 : Sst} (hp : s1.1 ≤ L) (h : leafS T L mo ν np c s1 = .inr s2) : s1.1 ≤ s2.1 ∧ s2.1 ≤ L := by
  unfold leafS at h
  by_cases c1 : c = 28 ∨ c = 29
  · rw [if_pos c1] at h; cases h; exact ⟨Nat.le_refl _, hp⟩
  rw [if_neg c1] at h
  by_cases c2 : c = 30 ∨ c = 31
  · rw [if_pos c2] at h
    by_cases c3 : ¬ tKd T L mo s1.1 = 3
    · rw [if_pos c3] at h; cases h
    rw [if_neg c3] at h
    have hn := tNx_le (T := T) (mo := mo) hp (by omega) (by omega)
    cases hq : pcl ν (tNm T L s1.1) np with
    | none => rw [hq] at h; cases h
    | some q => rw [hq] at h; cases h; exact ⟨by show s1.1 ≤ tNx T L s1.1; omega, hn.1⟩
  rw [if_neg c2] at h
  by_cases c3 : ¬ (5 ≤ tKd T L mo s1.1 ∧ tKd T L mo s1.1 ≤ 7)
  · rw [if_pos c3] at h; cases h
  rw [if_neg c3] at h
  have hn := tNx_le (T := T) (mo := mo) hp (by omega) (by omega)
  cases hq : tkN T L mo (tNx T L s1.1) 0 999 with
  | inl e => rw [hq] at h; cases h
  | inr v =>
    obtain ⟨x, p3⟩ := v
    rw [hq] at h; cases h
    have t1 := tkN_ok hn.1 hq
    exact ⟨by show s1.1 ≤ p3; omega, t1.2.1⟩
/-- a step goes on -/
theorem stp_p {T : Nat → Nat} {L mo : Nat} {ν : Nat → Int64} {np : Nat} {c c2 : Cst} (hp : c.2.2.1 ≤ L) (h : (if c.1 = true then bhS T L mo c.2.1 c.2.2 else opS T L mo ν np c.2.1 c.2.2) = .inr c2) : c.2.2.1 < c2.2.2.1 ∧ c2.2.2.1 ≤ L := by
  by_cases c0 : c.1 = true
  · rw [if_pos c0] at h
    unfold bhS at h
    by_cases c1 : tKd T L mo c.2.2.1 = 26 ∨ tKd T L mo c.2.2.1 = 25
    · rw [if_pos c1] at h
      have hn := tNx_le (T := T) (mo := mo) hp (by omega) (by omega)
      cases h; exact ⟨hn.2, hn.1⟩
    rw [if_neg c1] at h
    by_cases c2 : ¬ tKd T L mo c.2.2.1 = 9 ∨ (jnS 25 (ntS c.2.1 c.2.2).1 (ntS c.2.1 c.2.2).2).1 = []
    · rw [if_pos c2] at h; cases h
    rw [if_neg c2] at h
    have c9 : tKd T L mo c.2.2.1 = 9 := Classical.not_not.mp (fun q => c2 (Or.inl q))
    have hn := tNx_le (T := T) (mo := mo) hp (by omega) (by omega)
    cases h; exact ⟨hn.2, hn.1⟩
  · rw [if_neg c0] at h
    unfold opS at h
    by_cases c1 : ¬ begK (tKd T L mo c.2.2.1)
    · rw [if_pos c1] at h; cases h
    rw [if_neg c1] at h
    have hb := Classical.not_not.mp c1
    by_cases c2 : c.2.2.2.2.1 = 20 ∨ 8 ≤ cnS c.2.1
    · rw [if_pos c2] at h; cases h
    rw [if_neg c2] at h
    have hn := tNx_le (T := T) (mo := mo) hp (by unfold begK at hb; omega) (by unfold begK at hb; omega)
    by_cases c3 : tKd T L mo c.2.2.1 = 27 ∨ tKd T L mo c.2.2.1 = 8
    · rw [if_pos c3] at h; cases h; exact ⟨hn.2, hn.1⟩
    rw [if_neg c3] at h
    cases hq : leafS T L mo ν np (tKd T L mo c.2.2.1) (tNx T L c.2.2.1, c.2.2.2.1, c.2.2.2.2.1 + 1, c.2.2.2.2.2) with
    | inl e => rw [hq] at h; cases h
    | inr s2 =>
      rw [hq] at h; cases h
      have l := leafS_p (by exact hn.1) hq
      exact ⟨Nat.lt_of_lt_of_le hn.2 l.1, l.2⟩
theorem mcS_fuel {T : Nat → Nat} {L mo : Nat} {ν : Nat → Int64} {np : Nat} : ∀ f f2 c, c.2.2.1 ≤ L → L < c.2.2.1 + f → L < c.2.2.1 + f2 → mcS T L mo ν np f c = mcS T L mo ν np f2 c
  | 0, f2, c, hp, h1, h2 => by omega
  | f + 1, 0, c, hp, h1, h2 => by omega
  | f + 1, f2 + 1, c, hp, h1, h2 => by
    unfold mcS
    by_cases c0 : c.1 = true ∧ tKd T L mo c.2.2.1 = 0
    · rw [if_pos c0, if_pos c0]
    rw [if_neg c0, if_neg c0]
    cases hq : (if c.1 = true then bhS T L mo c.2.1 c.2.2 else opS T L mo ν np c.2.1 c.2.2) with
    | inl e => rfl
    | inr c2 =>
      have hs := stp_p hp hq
      exact mcS_fuel f f2 c2 hs.2 (by omega) (by omega)
/-- the reference, from where it is -/
def mS9 (T : Nat → Nat) (L mo : Nat) (ν : Nat → Int64) (np : Nat) (c : Cst) : Flt ⊕ Sst := mcS T L mo ν np (L + 1) c
theorem mS9_op {T : Nat → Nat} {L mo : Nat} {ν : Nat → Int64} {np : Nat} {S : List Nat} {st : Sst} (hp : st.1 ≤ L) : mS9 T L mo ν np (false, S, st) = match opS T L mo ν np S st with
    | .inl e => .inl e
    | .inr c2 => mS9 T L mo ν np c2 := by
  have hf := fun c2 => stp_p (T := T) (mo := mo) (ν := ν) (np := np) (c := (false, S, st)) (c2 := c2) (L := L)
  unfold mS9
  show ((if false = true ∧ _ then _ else match (if false = true then bhS T L mo S st else opS T L mo ν np S st) with | .inl e => Sum.inl e | .inr c2 => mcS T L mo ν np L c2) : Flt ⊕ Sst) = _
  rw [if_neg (by simp), if_neg (by simp)]
  cases hq : opS T L mo ν np S st with
  | inl e => rfl
  | inr c2 =>
    have hs := hf c2 hp (by rw [if_neg (by simp)]; exact hq)
    have h1 : st.1 < c2.2.2.1 := hs.1
    exact mcS_fuel L (L + 1) c2 hs.2 (by omega) (by omega)
theorem mS9_end {T : Nat → Nat} {L mo : Nat} {ν : Nat → Int64} {np : Nat} {S : List Nat} {st : Sst} (h0 : tKd T L mo st.1 = 0) : mS9 T L mo ν np (true, S, st) = if (jnS 25 (ntS S st).1 (ntS S st).2).1 = [] then .inr (jnS 25 (ntS S st).1 (ntS S st).2).2 else .inl (1, tAt T L mo st.1) := by
  unfold mS9
  show (if true = true ∧ tKd T L mo st.1 = 0 then _ else _) = _
  rw [if_pos ⟨rfl, h0⟩]
theorem mS9_bh {T : Nat → Nat} {L mo : Nat} {ν : Nat → Int64} {np : Nat} {S : List Nat} {st : Sst} (hp : st.1 ≤ L) (h0 : ¬ tKd T L mo st.1 = 0) : mS9 T L mo ν np (true, S, st) = match bhS T L mo S st with
    | .inl e => .inl e
    | .inr c2 => mS9 T L mo ν np c2 := by
  have hf := fun c2 => stp_p (T := T) (mo := mo) (ν := ν) (np := np) (c := (true, S, st)) (c2 := c2) (L := L)
  unfold mS9
  show ((if true = true ∧ tKd T L mo st.1 = 0 then _ else match (if true = true then bhS T L mo S st else opS T L mo ν np S st) with | .inl e => Sum.inl e | .inr c2 => mcS T L mo ν np L c2) : Flt ⊕ Sst) = _
  rw [if_neg (fun q => h0 q.2), if_pos rfl]
  cases hq : bhS T L mo S st with
  | inl e => rfl
  | inr c2 =>
    have hs := hf c2 hp (by rw [if_pos rfl]; exact hq)
    have h1 : st.1 < c2.2.2.1 := hs.1
    exact mcS_fuel L (L + 1) c2 hs.2 (by omega) (by omega)
/-- two that wait alike -/
theorem mS9_cg {T : Nat → Nat} {L mo : Nat} {ν : Nat → Int64} {np : Nat} {S S2 : List Nat} {st s2 : Sst} (hp : st.1 ≤ L) (e1 : s2.1 = st.1) (h26 : tKd T L mo st.1 = 26 → jnS 26 (ntS S st).1 (ntS S st).2 = jnS 26 (ntS S2 s2).1 (ntS S2 s2).2) (h25 : ¬ tKd T L mo st.1 = 26 → jnS 25 (ntS S st).1 (ntS S st).2 = jnS 25 (ntS S2 s2).1 (ntS S2 s2).2) : mS9 T L mo ν np (true, S, st) = mS9 T L mo ν np (true, S2, s2) := by
  by_cases h0 : tKd T L mo st.1 = 0
  · rw [mS9_end h0, mS9_end (by rw [e1]; exact h0), h25 (by omega), e1]
  · rw [mS9_bh hp h0, mS9_bh (by rw [e1]; exact hp) (by rw [e1]; exact h0)]
    have e : bhS T L mo S st = bhS T L mo S2 s2 := by
      unfold bhS
      rw [e1]
      by_cases c : tKd T L mo st.1 = 26
      · rw [if_pos (Or.inl c), if_pos (Or.inl c), c, h26 c]
      · by_cases c5 : tKd T L mo st.1 = 25
        · rw [if_pos (Or.inr c5), if_pos (Or.inr c5), c5, h25 c]
        · have c9 : ¬ (tKd T L mo st.1 = 26 ∨ tKd T L mo st.1 = 25) := fun q => q.elim c c5
          rw [if_neg c9, if_neg c9, h25 c]
    rw [e]
theorem mS9_not {T : Nat → Nat} {L mo : Nat} {ν : Nat → Int64} {np : Nat} {S : List Nat} {st : Sst} (hp : st.1 ≤ L) : mS9 T L mo ν np (true, 27 :: S, st) = mS9 T L mo ν np (true, S, sAdd 27 0 0 st) := by
  have e : ntS (27 :: S) st = ntS S (sAdd 27 0 0 st) := if_pos rfl
  exact mS9_cg hp rfl (fun _ => by rw [e]) (fun _ => by rw [e])
def hdS (S : List Nat) : Nat := match S with
  | [] => 0
  | x :: _ => x
theorem ntS_no {S : List Nat} {st : Sst} (h : ¬ hdS S = 27) : ntS S st = (S, st) := by
  cases S with
  | nil => rfl
  | cons x S => exact if_neg h
theorem jnS_no {S : List Nat} {st : Sst} {till : Nat} (h : ¬ hdS S = 26) (h2 : hdS S = 25 → ¬ till = 25) : jnS till S st = (S, st) := by
  cases S with
  | nil => rfl
  | cons x S => exact if_neg (fun q => q.elim h (fun q => h2 q.1 q.2))
theorem mS9_and {T : Nat → Nat} {L mo : Nat} {ν : Nat → Int64} {np : Nat} {S : List Nat} {st : Sst} (hp : st.1 ≤ L) (hS : ¬ hdS S = 27) : mS9 T L mo ν np (true, 26 :: S, st) = mS9 T L mo ν np (true, S, sAdd 26 0 0 st) := by
  have e1 : ntS (26 :: S) st = (26 :: S, st) := if_neg (by decide)
  have e3 : ∀ t, jnS t (26 :: S) st = jnS t S (sAdd 26 0 0 st) := fun t => if_pos (Or.inl rfl)
  exact mS9_cg hp rfl (fun _ => by rw [e1, ntS_no hS, e3]) (fun _ => by rw [e1, ntS_no hS, e3])
theorem mS9_or {T : Nat → Nat} {L mo : Nat} {ν : Nat → Int64} {np : Nat} {S : List Nat} {st : Sst} (hp : st.1 ≤ L) (hS : ¬ hdS S = 27) (h26 : ¬ tKd T L mo st.1 = 26) : mS9 T L mo ν np (true, 25 :: S, st) = mS9 T L mo ν np (true, S, sAdd 25 0 0 st) := by
  have e1 : ntS (25 :: S) st = (25 :: S, st) := if_neg (by decide)
  have e3 : jnS 25 (25 :: S) st = jnS 25 S (sAdd 25 0 0 st) := if_pos (Or.inr ⟨rfl, rfl⟩)
  exact mS9_cg hp rfl (fun q => absurd q h26) (fun _ => by rw [e1, ntS_no hS, e3])
/-- what the reference does from an operand's beginning is what o says -/
def MOk (T : Nat → Nat) (L mo : Nat) (ν : Nat → Int64) (np : Nat) (o : Sst → Flt ⊕ Sst) (S : List Nat) (P : Sst → Prop) : Prop := ∀ st, st.1 ≤ L → st.2.2.1 ≤ 20 → match o st with
  | .inl e => mS9 T L mo ν np (false, S, st) = .inl e
  | .inr s2 => mS9 T L mo ν np (false, S, st) = mS9 T L mo ν np (true, S, s2) ∧ P s2
theorem allL_ok {T : Nat → Nat} {L mo : Nat} {ν : Nat → Int64} {np : Nat} {o : Sst → Flt ⊕ Sst} {S : List Nat} (ho : OGo L np o) (h : MOk T L mo ν np o (26 :: S) (fun _ => True)) (h27 : ¬ hdS S = 27) (h26 : ¬ hdS S = 26) : ∀ f st, st.1 ≤ L → st.2.2.1 ≤ 20 → 21 ≤ st.2.2.1 + f → (match allL T L mo o f st with
  | .inl e => mS9 T L mo ν np (true, S, st) = .inl e
  | .inr s2 => mS9 T L mo ν np (true, S, st) = mS9 T L mo ν np (true, S, s2) ∧ ¬ tKd T L mo s2.1 = 26)
  | 0, st, hp, h20, hf => by omega
  | f + 1, st, hp, h20, hf => by
    unfold allL
    by_cases c : tKd T L mo st.1 = 26
    · rw [if_pos c]
      have hn := tNx_le (T := T) (mo := mo) hp (by omega) (by omega)
      have e1 : mS9 T L mo ν np (true, S, st) = mS9 T L mo ν np (false, 26 :: S, (tNx T L st.1, st.2)) := by
        rw [mS9_bh hp (by omega)]
        unfold bhS
        rw [if_pos (Or.inl c), ntS_no h27, c, jnS_no h26 (fun _ => by decide)]
      have hh := h (tNx T L st.1, st.2) hn.1 h20
      cases hq : o (tNx T L st.1, st.2) with
      | inl e => rw [hq] at hh; exact e1.trans hh
      | inr s2 =>
        rw [hq] at hh
        have go := ho _ _ hn.1 hq
        have g1 : st.2.2.1 < s2.2.2.1 := go.2.1.1
        have e2 := e1.trans (hh.1.trans (mS9_and go.1.2 h27))
        have ih := allL_ok ho h h27 h26 f (sAdd 26 0 0 s2) go.1.2 go.2.1.2 (by show 21 ≤ s2.2.2.1 + f; omega)
        dsimp only
        cases hq2 : allL T L mo o f (sAdd 26 0 0 s2) with
        | inl e => rw [hq2] at ih; exact e2.trans ih
        | inr s3 => rw [hq2] at ih; exact ⟨e2.trans ih.1, ih.2⟩
    · rw [if_neg c]; exact ⟨rfl, c⟩
theorem allS_ok {T : Nat → Nat} {L mo : Nat} {ν : Nat → Int64} {np : Nat} {o : Sst → Flt ⊕ Sst} {S : List Nat} (ho : OGo L np o) (h0 : MOk T L mo ν np o S (fun _ => True)) (h : MOk T L mo ν np o (26 :: S) (fun _ => True)) (h27 : ¬ hdS S = 27) (h26 : ¬ hdS S = 26) : MOk T L mo ν np (allS T L mo o) S (fun s2 => ¬ tKd T L mo s2.1 = 26) := by
  intro st hp h20
  have hh := h0 st hp h20
  unfold allS
  cases hq : o st with
  | inl e => rw [hq] at hh; exact hh
  | inr s2 =>
    rw [hq] at hh
    have go := ho _ _ hp hq
    have g1 : st.2.2.1 < s2.2.2.1 := go.2.1.1
    have al := allL_ok ho h h27 h26 20 s2 go.1.2 go.2.1.2 (by omega)
    dsimp only
    cases hq2 : allL T L mo o 20 s2 with
    | inl e => rw [hq2] at al; exact hh.1.trans al
    | inr s3 => rw [hq2] at al; exact ⟨hh.1.trans al.1, al.2⟩
theorem someL_ok {T : Nat → Nat} {L mo : Nat} {ν : Nat → Int64} {np : Nat} {o : Sst → Flt ⊕ Sst} {S : List Nat} (ho : OGo L np o) (h : MOk T L mo ν np (allS T L mo o) (25 :: S) (fun s2 => ¬ tKd T L mo s2.1 = 26)) (h27 : ¬ hdS S = 27) (h26 : ¬ hdS S = 26) (h25 : ¬ hdS S = 25) : ∀ f st, st.1 ≤ L → st.2.2.1 ≤ 20 → 21 ≤ st.2.2.1 + f → ¬ tKd T L mo st.1 = 26 → (match someL T L mo o f st with
  | .inl e => mS9 T L mo ν np (true, S, st) = .inl e
  | .inr s2 => mS9 T L mo ν np (true, S, st) = mS9 T L mo ν np (true, S, s2) ∧ ¬ tKd T L mo s2.1 = 26 ∧ ¬ tKd T L mo s2.1 = 25)
  | 0, st, hp, h20, hf, _ => by omega
  | f + 1, st, hp, h20, hf, hn6 => by
    unfold someL
    by_cases c : tKd T L mo st.1 = 25
    · rw [if_pos c]
      have hn := tNx_le (T := T) (mo := mo) hp (by omega) (by omega)
      have e1 : mS9 T L mo ν np (true, S, st) = mS9 T L mo ν np (false, 25 :: S, (tNx T L st.1, st.2)) := by
        rw [mS9_bh hp (by omega)]
        unfold bhS
        rw [if_pos (Or.inr c), ntS_no h27, c, jnS_no h26 (fun q => absurd q h25)]
      have hh := h (tNx T L st.1, st.2) hn.1 h20
      cases hq : allS T L mo o (tNx T L st.1, st.2) with
      | inl e => rw [hq] at hh; exact e1.trans hh
      | inr s2 =>
        rw [hq] at hh
        have go := allS_go ho _ _ hn.1 hq
        have g1 : st.2.2.1 < s2.2.2.1 := go.2.1.1
        have e2 := e1.trans (hh.1.trans (mS9_or go.1.2 h27 hh.2))
        have ih := someL_ok ho h h27 h26 h25 f (sAdd 25 0 0 s2) go.1.2 go.2.1.2 (by show 21 ≤ s2.2.2.1 + f; omega) hh.2
        dsimp only
        cases hq2 : someL T L mo o f (sAdd 25 0 0 s2) with
        | inl e => rw [hq2] at ih; exact e2.trans ih
        | inr s3 => rw [hq2] at ih; exact ⟨e2.trans ih.1, ih.2⟩
    · rw [if_neg c]; exact ⟨rfl, hn6, c⟩
theorem someS_ok {T : Nat → Nat} {L mo : Nat} {ν : Nat → Int64} {np : Nat} {o : Sst → Flt ⊕ Sst} {S : List Nat} (ho : OGo L np o) (h0 : MOk T L mo ν np (allS T L mo o) S (fun s2 => ¬ tKd T L mo s2.1 = 26)) (h : MOk T L mo ν np (allS T L mo o) (25 :: S) (fun s2 => ¬ tKd T L mo s2.1 = 26)) (h27 : ¬ hdS S = 27) (h26 : ¬ hdS S = 26) (h25 : ¬ hdS S = 25) : MOk T L mo ν np (someS T L mo o) S (fun s2 => ¬ tKd T L mo s2.1 = 26 ∧ ¬ tKd T L mo s2.1 = 25) := by
  intro st hp h20
  have hh := h0 st hp h20
  unfold someS
  cases hq : allS T L mo o st with
  | inl e => rw [hq] at hh; exact hh
  | inr s2 =>
    rw [hq] at hh
    have go := allS_go ho _ _ hp hq
    have g1 : st.2.2.1 < s2.2.2.1 := go.2.1.1
    have al := someL_ok ho h h27 h26 h25 20 s2 go.1.2 go.2.1.2 (by omega) hh.2
    dsimp only
    cases hq2 : someL T L mo o 20 s2 with
    | inl e => rw [hq2] at al; exact hh.1.trans al
    | inr s3 => rw [hq2] at al; exact ⟨hh.1.trans al.1, al.2⟩
theorem cnS_c (x : Nat) (S : List Nat) : cnS (x :: S) = cnS S + (if x = 27 ∨ x = 8 then 1 else 0) := rfl
theorem someO_ok {T : Nat → Nat} {L mo : Nat} {ν : Nat → Int64} {np b : Nat} (h : ∀ S, cnS S + b = 8 → MOk T L mo ν np (oneS T L mo ν np b) S (fun _ => True)) (S : List Nat) (hc : cnS S + b = 8) (h27 : ¬ hdS S = 27) (h26 : ¬ hdS S = 26) (h25 : ¬ hdS S = 25) : MOk T L mo ν np (someS T L mo (oneS T L mo ν np b)) S (fun s2 => ¬ tKd T L mo s2.1 = 26 ∧ ¬ tKd T L mo s2.1 = 25) := by
  have c6 : ∀ S, cnS (26 :: S) = cnS S := fun S => by rw [cnS_c, if_neg (by decide)]; omega
  have c5 : ∀ S, cnS (25 :: S) = cnS S := fun S => by rw [cnS_c, if_neg (by decide)]; omega
  refine someS_ok (oneS_go b) (allS_ok (oneS_go b) (h S hc) (h (26 :: S) (by rw [c6]; exact hc)) h27 h26) (allS_ok (oneS_go b) (h (25 :: S) (by rw [c5]; exact hc)) (h (26 :: 25 :: S) (by rw [c6, c5]; exact hc)) (by show ¬ 25 = 27; decide) (by show ¬ 25 = 26; decide)) h27 h26 h25
theorem oneS_ok {T : Nat → Nat} {L mo : Nat} {ν : Nat → Int64} {np : Nat} : ∀ b S, cnS S + b = 8 → MOk T L mo ν np (oneS T L mo ν np b) S (fun _ => True)
  | 0, S, hc => by
    intro st hp h20
    rw [mS9_op hp]
    unfold oneS opS
    by_cases c0 : ¬ begK (tKd T L mo st.1)
    · rw [if_pos c0, if_pos c0]
    · rw [if_neg c0, if_neg c0, if_pos (Or.inr (by omega))]
  | b + 1, S, hc => by
    intro st hp h20
    have ih := oneS_ok (T := T) (L := L) (mo := mo) (ν := ν) (np := np) b
    rw [mS9_op hp]
    unfold oneS opS
    by_cases c0 : ¬ begK (tKd T L mo st.1)
    · rw [if_pos c0, if_pos c0]
    rw [if_neg c0, if_neg c0]
    have hb := Classical.not_not.mp c0
    by_cases c1 : 20 ≤ st.2.2.1
    · rw [if_pos c1, if_pos (Or.inl (by omega))]
    rw [if_neg c1, if_neg (show ¬ (st.2.2.1 = 20 ∨ 8 ≤ cnS S) by omega)]
    have hn := tNx_le (T := T) (mo := mo) hp (by unfold begK at hb; omega) (by unfold begK at hb; omega)
    by_cases c2 : tKd T L mo st.1 = 27
    · rw [if_pos c2, if_pos (Or.inl c2), c2]
      have hh := ih (27 :: S) (by rw [cnS_c, if_pos (Or.inl rfl)]; omega) (tNx T L st.1, st.2.1, st.2.2.1 + 1, st.2.2.2) hn.1 (by show st.2.2.1 + 1 ≤ 20; omega)
      cases hq : oneS T L mo ν np b (tNx T L st.1, st.2.1, st.2.2.1 + 1, st.2.2.2) with
      | inl e => rw [hq] at hh; exact hh
      | inr s2 =>
        rw [hq] at hh
        exact ⟨hh.1.trans (mS9_not (oneS_go b _ _ hn.1 hq).1.2), trivial⟩
    rw [if_neg c2]
    by_cases c3 : tKd T L mo st.1 = 8
    · rw [if_pos c3, if_pos (Or.inr c3), c3]
      have hh := someO_ok ih (8 :: S) (by rw [cnS_c, if_pos (Or.inr rfl)]; omega) (by show ¬ 8 = 27; decide) (by show ¬ 8 = 26; decide) (by show ¬ 8 = 25; decide) (tNx T L st.1, st.2.1, st.2.2.1 + 1, st.2.2.2) hn.1 (by show st.2.2.1 + 1 ≤ 20; omega)
      cases hq : someS T L mo (oneS T L mo ν np b) (tNx T L st.1, st.2.1, st.2.2.1 + 1, st.2.2.2) with
      | inl e => rw [hq] at hh; exact hh
      | inr s2 =>
        rw [hq] at hh
        obtain ⟨e1, n6, n5⟩ := hh
        have go := someS_go (oneS_go b) _ _ hn.1 hq
        have e2 : ntS (8 :: S) s2 = (8 :: S, s2) := ntS_no (by show ¬ 8 = 27; decide)
        have e3 : jnS 25 (8 :: S) s2 = (8 :: S, s2) := jnS_no (by show ¬ 8 = 26; decide) (fun q => absurd q (by show ¬ 8 = 25; decide))
        dsimp only
        by_cases c4 : tKd T L mo s2.1 = 9
        · rw [if_pos c4]
          refine ⟨e1.trans ?_, trivial⟩
          rw [mS9_bh go.1.2 (by omega)]
          unfold bhS
          rw [if_neg (by omega), e2, e3, if_neg (fun q => q.elim (fun q => q c4) (fun q => by cases q))]
          rfl
        · rw [if_neg c4]
          refine e1.trans ?_
          by_cases c5 : tKd T L mo s2.1 = 0
          · rw [mS9_end c5, e2, e3, if_neg (fun q => by cases q)]
          · rw [mS9_bh go.1.2 c5]
            unfold bhS
            rw [if_neg (by omega), if_pos (Or.inl c4)]
    rw [if_neg c3, if_neg (fun q => q.elim c2 c3)]
    cases hq : leafS T L mo ν np (tKd T L mo st.1) (tNx T L st.1, st.2.1, st.2.2.1 + 1, st.2.2.2) with
    | inl e => rfl
    | inr s2 => exact ⟨rfl, trivial⟩
/-- the reference reads what the class reads -/
theorem mS9_sen {T : Nat → Nat} {L mo : Nat} {ν : Nat → Int64} {np : Nat} : mS9 T L mo ν np (false, [], sn0) = senS T L mo ν np := by
  have hh := someO_ok (oneS_ok 8) [] rfl (by show ¬ 0 = 27; decide) (by show ¬ 0 = 26; decide) (by show ¬ 0 = 25; decide) sn0 (Nat.zero_le L) (by decide) (T := T) (mo := mo) (ν := ν) (np := np)
  unfold senS
  cases hq : someS T L mo (oneS T L mo ν np 8) sn0 with
  | inl e => rw [hq] at hh; exact hh
  | inr s2 =>
    rw [hq] at hh
    obtain ⟨e1, n6, n5⟩ := hh
    have go := someS_go (oneS_go 8) _ _ (Nat.zero_le L) hq
    dsimp only
    rw [e1]
    by_cases c : tKd T L mo s2.1 = 0
    · rw [if_pos c, mS9_end c]; exact if_pos rfl
    · rw [if_neg c, mS9_bh go.1.2 c]
      unfold bhS
      rw [if_neg (show ¬ (tKd T L mo s2.1 = 26 ∨ tKd T L mo s2.1 = 25) by omega), if_pos (Or.inr (show (jnS 25 (ntS [] s2).1 (ntS [] s2).2).1 = [] from rfl))]
