/-! The mathematical state: naturals in the order of the reference's row; what is asked of it. -/
/-- who has fallen -/
def fal (σ : Nat → Nat) (q : Nat) : Bool := (σ 91).testBit q
/-- q is on the cell c -/
def onC (σ : Nat → Nat) (c q : Nat) : Bool := decide (σ (160 + q) = c) && !fal σ q
def ponN (σ : Nat → Nat) (c : Nat) : Nat → Nat
  | 0 => 0
  | q + 1 => ponN σ c q + (if onC σ c q then 2 ^ q else 0)
def pon (σ : Nat → Nat) (c : Nat) : Nat := ponN σ c (σ 2)
def ldN (σ : Nat → Nat) (c : Nat) : Nat → Nat
  | 0 => 0
  | q + 1 => ldN σ c q + (if onC σ c q then σ (78 + q) else 0)
def ld (σ : Nat → Nat) (c : Nat) : Nat := ldN σ c (σ 2)
def dif (a b : Nat) : Nat := (a - b) + (b - a)
def far (a b : Nat) : Nat := dif (a % 8) (b % 8) + dif (a / 8) (b / 8)
/-- the bounds that always hold -/
def Bd (σ : Nat → Nat) : Prop := 2 ≤ σ 0 ∧ σ 0 ≤ 8 ∧ 2 ≤ σ 1 ∧ σ 1 ≤ 8 ∧ σ 2 ≤ 6 ∧ 1 ≤ σ 3 ∧ σ 3 ≤ 9 ∧ σ 4 ≤ 3 ∧ 2 ≤ σ 5 ∧ σ 5 ≤ 9 ∧ 1 ≤ σ 6 ∧ σ 6 ≤ 9 ∧ 1 ≤ σ 7 ∧ σ 7 ≤ 30 ∧ σ 90 ≤ 400 ∧ σ 91 < 64 ∧ σ 92 < 64 ∧
  (∀ q, q < 6 → σ (160 + q) < 64 ∧ σ (78 + q) ≤ 5 ∧ σ (166 + q) ≤ 9 ∧ σ (172 + q) ≤ 1000000) ∧ (∀ c, c < 64 → σ (96 + c) ≤ 9) ∧ σ 93 ≤ 1000000 ∧ σ 94 ≤ 1000000 ∧ σ 95 ≤ 1000000
/-- the reference's row s holds it -/
def Ms (M : Mm) (σ : Nat → Nat) : Prop := (∀ k, k < 178 → M.1 116 k = nI (σ k)) ∧ Bd σ
theorem ponN_lt (σ : Nat → Nat) (c : Nat) : ∀ n, ponN σ c n < 2 ^ n
  | 0 => by decide
  | n + 1 => by
    have ih := ponN_lt σ c n
    unfold ponN
    rw [Nat.pow_succ]
    split <;> omega
theorem ponN_bit (σ : Nat → Nat) (c : Nat) : ∀ n q, (ponN σ c n).testBit q = (decide (q < n) && onC σ c q)
  | 0, q => by simp [ponN]
  | n + 1, q => by
    have ih := ponN_bit σ c n
    have hl := ponN_lt σ c n
    unfold ponN
    by_cases ho : onC σ c n
    · rw [if_pos ho]
      have e : ponN σ c n + 2 ^ n = 2 ^ n + ponN σ c n := Nat.add_comm _ _
      rw [e]
      rcases Nat.lt_trichotomy q n with h | h | h
      · rw [Nat.testBit_two_pow_add_gt h, ih]
        simp [h, Nat.lt_succ_of_lt h]
      · subst h
        rw [Nat.testBit_two_pow_add_eq, ih]
        simp [ho]
      · have h1 : 2 ^ n + ponN σ c n < 2 ^ q := Nat.lt_of_lt_of_le (by rw [Nat.pow_succ]; omega : 2 ^ n + ponN σ c n < 2 ^ (n + 1)) (Nat.pow_le_pow_right (by decide) h)
        rw [Nat.testBit_lt_two_pow h1]
        have : ¬ q < n + 1 := by omega
        simp [this]
    · rw [if_neg ho, Nat.add_zero, ih]
      by_cases h : q = n
      · subst h
        simp [ho]
      · have : (q < n + 1) ↔ (q < n) := by omega
        simp [this]
theorem ldN_le (σ : Nat → Nat) (c : Nat) (h : ∀ q, q < 6 → σ (78 + q) ≤ 5) : ∀ n, n ≤ 6 → ldN σ c n ≤ 5 * n
  | 0, _ => by decide
  | n + 1, hn => by
    have ih := ldN_le σ c h n (by omega)
    have h1 := h n (by omega)
    unfold ldN
    split <;> omega
theorem b2_pos {P : Prop} [Decidable P] (h : ¬ b2 P = 0) : P := b2_n0.mp h
theorem b2_neg {P : Prop} [Decidable P] (h : b2 P = 0) : ¬ P := b2_e0.mp h
theorem b2_nneg {P : Prop} [Decidable P] (h : ¬ ¬ b2 P = 0) : ¬ P := b2_nn.mp h
