/-! What a sentence says of somebody. -/
theorem nI_orN (a b : Nat) : nI a ||| nI b = nI (a ||| b) := by
  apply Int32.toBitVec_inj.mp
  show BitVec.ofNat 32 a ||| BitVec.ofNat 32 b = BitVec.ofNat 32 (a ||| b)
  rw [BitVec.ofNat_or]
theorem nI_andN (a b : Nat) : nI a &&& nI b = nI (a &&& b) := by
  apply Int32.toBitVec_inj.mp
  show BitVec.ofNat 32 a &&& BitVec.ofNat 32 b = BitVec.ofNat 32 (a &&& b)
  rw [BitVec.ofNat_and]
theorem nI_xorN (a b : Nat) : nI a ^^^ nI b = nI (a ^^^ b) := by
  apply Int32.toBitVec_inj.mp
  show BitVec.ofNat 32 a ^^^ BitVec.ofNat 32 b = BitVec.ofNat 32 (a ^^^ b)
  rw [BitVec.ofNat_xor]
theorem tb_succ (x i : Nat) : x.testBit (i + 1) = (x / 2).testBit i := Nat.testBit_succ x i
theorem or2 {r b : Nat} (hb : b < 2) : 2 * r ||| b = 2 * r + b := by
  apply Nat.eq_of_testBit_eq
  intro i
  rw [Nat.testBit_or]
  cases i with
  | zero =>
    rw [Nat.testBit_zero, Nat.testBit_zero, Nat.testBit_zero]
    have : b = 0 ∨ b = 1 := by omega
    rcases this with rfl | rfl <;> simp
  | succ i =>
    rw [tb_succ, tb_succ, tb_succ, show 2 * r / 2 = r by omega, show b / 2 = 0 by omega, show (2 * r + b) / 2 = r by omega]
    simp
theorem or1 {r a b : Nat} (ha : a < 2) (hb : b < 2) : 2 * r + a ||| b = 2 * r + (if a = 1 ∨ b = 1 then 1 else 0) := by
  apply Nat.eq_of_testBit_eq
  intro i
  rw [Nat.testBit_or]
  have h1 : a = 0 ∨ a = 1 := by omega
  have h2 : b = 0 ∨ b = 1 := by omega
  cases i with
  | zero =>
    rw [Nat.testBit_zero, Nat.testBit_zero, Nat.testBit_zero]
    rcases h1 with rfl | rfl <;> rcases h2 with rfl | rfl <;> simp
  | succ i =>
    rw [tb_succ, tb_succ, tb_succ, show (2 * r + a) / 2 = r by omega, show b / 2 = 0 by omega, show (2 * r + (if a = 1 ∨ b = 1 then 1 else 0)) / 2 = r by split <;> omega]
    simp
theorem xor1 {r b : Nat} (hb : b < 2) : 2 * r + b ^^^ 1 = 2 * r + (1 - b) := by
  apply Nat.eq_of_testBit_eq
  intro i
  rw [Nat.testBit_xor]
  have h2 : b = 0 ∨ b = 1 := by omega
  cases i with
  | zero =>
    rw [Nat.testBit_zero, Nat.testBit_zero, Nat.testBit_zero]
    rcases h2 with rfl | rfl <;> simp
  | succ i =>
    rw [tb_succ, tb_succ, tb_succ, show (2 * r + b) / 2 = r by omega, show 1 / 2 = 0 by decide, show (2 * r + (1 - b)) / 2 = r by omega]
    simp
theorem and1 {r b : Nat} (hb : b < 2) : (2 * r + b) &&& 1 = b := by rw [Nat.and_one_is_mod]; omega
theorem m2_bits : ∀ i, i < 32 → (BitVec.ofInt 32 (-2)).getLsbD i = !decide (i = 0) := by decide
theorem m1_bits : ∀ i, i < 32 → (BitVec.ofInt 32 (-1)).getLsbD i = true := by decide
theorem and_m2 {r a : Nat} (ha : a < 2) : nI (2 * r + a) &&& (-2 : Int32) = nI (2 * r) := by
  apply Int32.toBitVec_inj.mp
  show BitVec.ofNat 32 (2 * r + a) &&& BitVec.ofInt 32 (-2) = BitVec.ofNat 32 (2 * r)
  apply BitVec.eq_of_getLsbD_eq
  intro i hi
  rw [BitVec.getLsbD_and, m2_bits i hi, BitVec.getLsbD_ofNat, BitVec.getLsbD_ofNat]
  cases i with
  | zero => simp
  | succ i => rw [tb_succ, tb_succ, show (2 * r + a) / 2 = r by omega, show 2 * r / 2 = r by omega]; simp
theorem and_m1 (x : Int32) : x &&& (-1 : Int32) = x := by
  apply Int32.toBitVec_inj.mp
  show x.toBitVec &&& BitVec.ofInt 32 (-1) = x.toBitVec
  apply BitVec.eq_of_getLsbD_eq
  intro i hi
  rw [BitVec.getLsbD_and, m1_bits i hi, Bool.and_true]
theorem or_m2 : (-2 : Int32) ||| nI 0 = -2 ∧ (-2 : Int32) ||| nI 1 = -1 := by decide
theorem shr1 {x : Nat} (hx : x < 2 ^ 31) : ((nI x).toUInt32 >>> ((nI 1).toUInt32 &&& Int32.toUInt32 31)).toInt32 = nI (x / 2) := by
  have e : (nI 1).toUInt32 &&& Int32.toUInt32 31 = 1 := by decide
  rw [e]
  have hn : (nI x).toUInt32.toNat = x := by
    show (BitVec.ofNat 32 x).toNat = x
    rw [BitVec.toNat_ofNat, Nat.mod_eq_of_lt (by omega)]
  have h : ((nI x).toUInt32 >>> 1).toNat = x / 2 := by
    rw [UInt32.toNat_shiftRight, hn]
    show x >>> (1 % 32) = _
    rw [Nat.shiftRight_eq_div_pow]
  apply Int32.toInt_inj.mp
  rw [nI_toInt (by omega), ← h]
  show ((nI x).toUInt32 >>> 1).toBitVec.toInt = _
  rw [BitVec.toInt_eq_toNat_of_lt (by show 2 * ((nI x).toUInt32 >>> 1).toNat < 2 ^ 32; omega)]
  rfl
theorem shl1 (x : Nat) : nI x <<< (nI 1 &&& 31) = nI (2 * x) := by
  have e : (nI 1 &&& 31 : Int32) = 1 := by decide
  rw [e]
  apply Int32.toBitVec_inj.mp
  show BitVec.ofNat 32 x <<< (BitVec.smod 1 32 : BitVec 32) = BitVec.ofNat 32 (2 * x)
  have e2 : (BitVec.smod 1 32 : BitVec 32) = 1#32 := by decide
  rw [e2]
  apply BitVec.eq_of_toNat_eq
  show (BitVec.ofNat 32 x <<< (1#32).toNat).toNat = _
  rw [BitVec.toNat_shiftLeft, BitVec.toNat_ofNat, BitVec.toNat_ofNat, Nat.shiftLeft_eq]
  show x % 2 ^ 32 * 2 ^ 1 % 2 ^ 32 = 2 * x % 2 ^ 32
  omega
/-! the parts -/
def meS (σ : Nat → Nat) (q a : Nat) : Nat := if a = 32 then σ (166 + q) else if a = 33 then σ (78 + q) else if a = 11 then σ (96 + σ (160 + q)) else if a = 34 then σ (172 + q) else q
def lfB (σ : Nat → Nat) (q a s u : Nat) : Bool := if a = 28 then fal σ q else if a = 29 then (σ 92).testBit q else if a = 30 then decide (far (σ (160 + q)) (σ (160 + u)) ≤ 1) else if a = 31 then (dng σ q).testBit u else if s = 5 then decide (meS σ q a < u) else if s = 6 then decide (meS σ q a = u) else decide (u < meS σ q a)
def stE (a : Nat) (t : Bool) (l : List Bool) : List Bool := if a = 27 then (match l with | b :: r => (!b) :: r | [] => []) else if a = 26 then (match l with | b :: c :: r => (c && b) :: r | l => l) else if a = 25 then (match l with | b :: c :: r => (c || b) :: r | l => l) else t :: l
def evS (σ : Nat → Nat) (q : Nat) (A S U : Nat → Nat) : Nat → List Bool
  | 0 => []
  | i + 1 => stE (A i) (lfB σ q (A i) (S i) (U i)) (evS σ q A S U i)
def bnB (b : Bool) : Nat := if b = true then 1 else 0
/-- what waits, in the bits of one number -/
def wvS : List Bool → Nat
  | [] => 0
  | b :: r => 2 * wvS r + bnB b
theorem bnB_lt (b : Bool) : bnB b < 2 := by cases b <;> decide
theorem wvS_lt : ∀ l, wvS l < 2 ^ l.length
  | [] => by decide
  | b :: r => by
    have h := wvS_lt r
    have hb := bnB_lt b
    show 2 * wvS r + bnB b < 2 ^ (r.length + 1)
    rw [Nat.pow_succ]; omega
theorem evS_len {σ : Nat → Nat} {q : Nat} {A S U : Nat → Nat} : ∀ n, (∀ i, i < n → wfS A i) → (evS σ q A S U n).length = hgS A n
  | 0, _ => rfl
  | n + 1, h => by
    have ih := evS_len (σ := σ) (q := q) (S := S) (U := U) n (fun i hi => h i (by omega))
    have w := h n (by omega)
    unfold wfS at w
    show (stE (A n) _ (evS σ q A S U n)).length = (if A n = 27 then hgS A n else if A n = 25 ∨ A n = 26 then hgS A n - 1 else hgS A n + 1)
    generalize evS σ q A S U n = l at *
    unfold stE
    by_cases c : A n = 27
    · rw [if_pos c, if_pos c]
      have := w.1 c
      match l, ih with
      | [], ih => exact ih
      | b :: r, ih => exact ih
    · rw [if_neg c, if_neg c]
      by_cases c6 : A n = 26
      · rw [if_pos c6, if_pos (Or.inr c6)]
        have := w.2 (Or.inr c6)
        match l, ih with
        | [], ih => simp at ih; omega
        | [_], ih => simp at ih; omega
        | b :: x :: r, ih => simp at ih ⊢; omega
      · rw [if_neg c6]
        by_cases c5 : A n = 25
        · rw [if_pos c5, if_pos (Or.inl c5)]
          have := w.2 (Or.inl c5)
          match l, ih with
          | [], ih => simp at ih; omega
          | [_], ih => simp at ih; omega
          | b :: x :: r, ih => simp at ih ⊢; omega
        · rw [if_neg c5, if_neg (fun q => q.elim c5 c6)]
          simp [ih]
theorem hg_dn {A : Nat → Nat} (i : Nat) : ∀ k, hgS A i ≤ hgS A (i + k) + k
  | 0 => Nat.le_refl _
  | k + 1 => by
    have ih := hg_dn (A := A) i k
    show hgS A i ≤ (if A (i + k) = 27 then hgS A (i + k) else if A (i + k) = 25 ∨ A (i + k) = 26 then hgS A (i + k) - 1 else hgS A (i + k) + 1) + (k + 1)
    split
    · omega
    · split <;> omega
/-- a sentence that is there -/
def SenV (np n : Nat) (A S U : Nat → Nat) : Prop := n ≤ 39 ∧ (∀ i, i < n → wfS A i ∧ vlS np (A i) (S i) (U i)) ∧ (0 < n → hgS A n = 1)
theorem SenV_h {np n : Nat} {A S U : Nat → Nat} (h : SenV np n A S U) {i : Nat} (hi : i ≤ n) (hn : 0 < n) : hgS A i ≤ 20 := by
  have h1 := hgS_le A i
  have h2 := hg_dn (A := A) i (n - i)
  rw [show i + (n - i) = n by omega, h.2.2 hn] at h2
  have := h.1
  omega
theorem senS_v {T : Nat → Nat} {L mo : Nat} {ν : Nat → Int64} {np : Nat} {st : Sst} (h : senS T L mo ν np = .inr st) : SenV np st.2.1 st.2.2.2.1 st.2.2.2.2.1 st.2.2.2.2.2 ∧ 0 < st.2.1 := by
  obtain ⟨_, ⟨g1, g2⟩, ⟨_, g3⟩, _, g5, g6⟩ := senS_go h
  have g3 : st.2.1 + 1 ≤ 0 + 2 * (st.2.2.1 - 0) := g3
  have g6 : hgS st.2.2.2.1 st.2.1 = 0 + 1 := g6
  have hn : 0 < st.2.1 := by
    have := hgS_le st.2.2.2.1 st.2.1
    omega
  exact ⟨⟨by omega, fun i hi => g5 i (Nat.zero_le _) hi, fun _ => by omega⟩, hn⟩
/-- what is said of q -/
def sdB (σ : Nat → Nat) (n : Nat) (A S U : Nat → Nat) (q : Nat) : Bool := match evS σ q A S U n with
  | b :: _ => b
  | [] => false
/-- who is the one behind f others, from i on; how many there are, if k is -1 -/
def sdR (σ : Nat → Nat) (n : Nat) (A S U : Nat → Nat) (k : Int32) : Nat → Nat → Nat → Int32
  | 0, _, f => if k = -1 then nI f else -1
  | m + 1, i, f => if sdB σ n A S U i = true then (if nI f = k then nI i else sdR σ n A S U k m (i + 1) (f + 1)) else sdR σ n A S U k m (i + 1) f
theorem sdR_no {σ : Nat → Nat} {n : Nat} {A S U : Nat → Nat} {k : Int32} (h : k < -1) : ∀ m i f, f + m < 1000 → sdR σ n A S U k m i f = -1
  | 0, _, f, _ => if_neg (fun e => by rw [e] at h; exact absurd h (by decide))
  | m + 1, i, f, hf => by
    unfold sdR
    have hk : ¬ nI f = k := fun e => by
      rw [← e] at h
      have h0 : (0 : Int32) ≤ nI f := nI_ge0 (by omega)
      have h1 : (-1 : Int32) < 0 := by decide
      exact absurd (Int32.lt_of_le_of_lt h0 (Int32.lt_trans h h1)) (Int32.lt_irrefl)
    rw [if_neg hk, sdR_no h m (i + 1) (f + 1) (by omega), sdR_no h m (i + 1) f (by omega)]
    split <;> rfl
