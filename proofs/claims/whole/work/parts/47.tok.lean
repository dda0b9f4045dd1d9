/-! Tokens: what they are. -/
abbrev isS (c : Nat) : Prop := 97 ≤ c ∧ c ≤ 122
abbrev isD (c : Nat) : Prop := 48 ≤ c ∧ c ≤ 57
abbrev isW (T : Nat → Nat) (L p : Nat) : Prop := p < L ∧ (isS (T p) ∨ isD (T p))
abbrev isB (T : Nat → Nat) (L p : Nat) : Prop := p < L ∧ (T p = 32 ∨ T p = 10)
/-- behind the blanks from p on -/
def skp (T : Nat → Nat) (L : Nat) : Nat → Nat → Nat
  | 0, p => p
  | n + 1, p => if isB T L p then skp T L n (p + 1) else p
def sk (T : Nat → Nat) (L p : Nat) : Nat := skp T L (L - p) p
theorem sk_y {T : Nat → Nat} {L p : Nat} (h : isB T L p) : sk T L p = sk T L (p + 1) := by
  unfold sk
  rw [show L - p = (L - (p + 1)) + 1 by omega]
  show (if isB T L p then _ else _) = _
  rw [if_pos h]
theorem sk_n {T : Nat → Nat} {L p : Nat} (h : ¬ isB T L p) : sk T L p = p := by
  unfold sk
  cases L - p with
  | zero => rfl
  | succ n => show (if isB T L p then _ else _) = _; rw [if_neg h]
theorem skp_le (T : Nat → Nat) (L : Nat) : ∀ n p, p ≤ skp T L n p ∧ (p ≤ L → skp T L n p ≤ L)
  | 0, p => ⟨Nat.le_refl _, fun h => h⟩
  | n + 1, p => by
    unfold skp
    split
    · have ih := skp_le T L n (p + 1)
      rename_i h
      exact ⟨by omega, fun _ => ih.2 (by omega)⟩
    · exact ⟨Nat.le_refl _, fun h => h⟩
theorem sk_le (T : Nat → Nat) (L p : Nat) : p ≤ sk T L p ∧ (p ≤ L → sk T L p ≤ L) := skp_le T L _ p
/-- how long the run of letters and digits is -/
def rlp (T : Nat → Nat) (L : Nat) : Nat → Nat → Nat
  | 0, _ => 0
  | n + 1, p => if isW T L p then rlp T L n (p + 1) + 1 else 0
def rl (T : Nat → Nat) (L p : Nat) : Nat := rlp T L (L - p) p
theorem rlp_eq {T : Nat → Nat} {L : Nat} : ∀ z n s, z ≤ n → (∀ i, i < z → isW T L (s + i)) → (¬ isW T L (s + z)) → rlp T L n s = z
  | 0, 0, _, _, _, _ => rfl
  | 0, n + 1, s, _, _, h => by
    show (if isW T L s then _ else _) = _
    rw [if_neg (by simpa using h)]
  | z + 1, n + 1, s, hn, h1, h2 => by
    show (if isW T L s then _ else _) = _
    rw [if_pos (by simpa using h1 0 (by omega))]
    rw [rlp_eq z n (s + 1) (by omega) (fun i hi => by rw [show s + 1 + i = s + (i + 1) by omega]; exact h1 (i + 1) (by omega)) (by rw [show s + 1 + z = s + (z + 1) by omega]; exact h2)]
theorem rl_eq {T : Nat → Nat} {L z s : Nat} (h1 : ∀ i, i < z → isW T L (s + i)) (h2 : ¬ isW T L (s + z)) : rl T L s = z := by
  refine rlp_eq z _ s ?_ h1 h2
  rcases Nat.eq_zero_or_pos z with h | h
  · omega
  · have := (h1 (z - 1) (by omega)).1
    omega
/-- letters and digits among the first j of a run; its word, its number -/
def nLt (T : Nat → Nat) (s : Nat) : Nat → Nat
  | 0 => 0
  | j + 1 => nLt T s j + (if isS (T (s + j)) then 1 else 0)
def nDg (T : Nat → Nat) (s : Nat) : Nat → Nat
  | 0 => 0
  | j + 1 => nDg T s j + (if isD (T (s + j)) then 1 else 0)
def nNm (T : Nat → Nat) (s : Nat) : Nat → Int64
  | 0 => 0
  | j + 1 => if isS (T (s + j)) then (nNm T s j <<< ((nI 8).toInt64 &&& 63)) ||| (nI (T (s + j))).toInt64 else nNm T s j
def nVl (T : Nat → Nat) (s : Nat) : Nat → Nat
  | 0 => 0
  | j + 1 => if isD (T (s + j)) then 10 * nVl T s j + T (s + j) - 48 else nVl T s j
theorem nLD {T : Nat → Nat} {L s : Nat} : ∀ z, (∀ i, i < z → isW T L (s + i)) → nLt T s z + nDg T s z = z
  | 0, _ => rfl
  | z + 1, h => by
    have ih := nLD z (fun i hi => h i (by omega))
    have h1 := h z (by omega)
    unfold nLt nDg
    by_cases hs : isS (T (s + z))
    · rw [if_pos hs, if_neg (by omega)]; omega
    · rw [if_neg hs, if_pos (by omega)]; omega
/-- which Kind has the code -/
def kcs (n : Int64) (d : Nat) : List Int → Nat → Nat
  | [], _ => d
  | c :: r, k => if Int64.ofInt c = n then k else kcs n d r (k + 1)
def kc (n : Int64) (d : Nat) : Nat := kcs n d kcodes 0
/-- of a token at p: its kind (0 to 35; 36: behind the most bytes), where it is, what is behind it -/
def tB (L m : Nat) : Nat := mn L m
def tS (T : Nat → Nat) (L p : Nat) : Nat := sk T L p
def tAt (T : Nat → Nat) (L m p : Nat) : Nat := mn (sk T L p) (mn L m)
def tRl (T : Nat → Nat) (L p : Nat) : Nat := rl T L (sk T L p)
def tNm (T : Nat → Nat) (L p : Nat) : Int64 := nNm T (sk T L p) (tRl T L p)
def tVl (T : Nat → Nat) (L p : Nat) : Nat := nVl T (sk T L p) (tRl T L p)
def tNx (T : Nat → Nat) (L p : Nat) : Nat := if tRl T L p = 0 then sk T L p + 1 else sk T L p + tRl T L p
def tKd (T : Nat → Nat) (L m p : Nat) : Nat :=
  if mn L m ≤ sk T L p then (if m < L then 36 else 0)
  else if tRl T L p = 0 then kc (nI (T (sk T L p))).toInt64 1
  else if nDg T (sk T L p) (tRl T L p) = 0 ∧ nLt T (sk T L p) (tRl T L p) ≤ 7 then kc (tNm T L p) 3
  else if nLt T (sk T L p) (tRl T L p) = 0 ∧ nDg T (sk T L p) (tRl T L p) ≤ 3 then 2 else 1
theorem kcs_lt (n : Int64) (d : Nat) : ∀ (l : List Int) (k : Nat), kcs n d l k = d ∨ kcs n d l k < k + l.length
  | [], k => Or.inl rfl
  | c :: r, k => by
    unfold kcs
    split
    · exact Or.inr (by simp)
    · rcases kcs_lt n d r (k + 1) with h | h
      · exact Or.inl h
      · exact Or.inr (by simp; omega)
theorem kc_lt (n : Int64) (d : Nat) (hd : d < 36) : kc n d < 36 := by
  rcases kcs_lt n d kcodes 0 with h | h
  · unfold kc; omega
  · unfold kc
    have : kcodes.length = 36 := by decide
    omega
theorem kc_is {n : Int64} {d k : Nat} : ∀ (z : Nat) (l : List Int) (k0 : Nat), z < l.length → (∀ i, i < z → ¬ Int64.ofInt (l.getD i 0) = n) → Int64.ofInt (l.getD z 0) = n → kcs n d l k0 = k0 + z
  | _, [], _, h, _, _ => absurd h (by simp)
  | 0, c :: r, k0, _, _, h2 => by
    unfold kcs
    rw [if_pos (by simpa using h2)]
    rfl
  | z + 1, c :: r, k0, h, h1, h2 => by
    unfold kcs
    rw [if_neg (by simpa using h1 0 (by omega)), kc_is (k := k) z r (k0 + 1) (by simpa using h) (fun i hi => by simpa using h1 (i + 1) (by omega)) (by simpa using h2)]
    omega
theorem kc_none {n : Int64} {d : Nat} : ∀ (l : List Int) (k0 : Nat), (∀ i, i < l.length → ¬ Int64.ofInt (l.getD i 0) = n) → kcs n d l k0 = d
  | [], _, _ => rfl
  | c :: r, k0, h => by
    unfold kcs
    rw [if_neg (by simpa using h 0 (by simp)), kc_none r (k0 + 1) (fun i hi => by simpa using h (i + 1) (by simpa using hi))]
