/-! The mathematical state: naturals in the order of the reference's row; what is asked of it. -/
/-- who has fallen -/
def fal (σ : Nat → Nat) (q : Nat) : Bool := (σ 91).testBit q
/-- q is on the cell c -/
def onC (σ : Nat → Nat) (c q : Nat) : Bool := decide (σ (160 + q) = c) && !fal σ q
def ponN (σ : Nat → Nat) (c : Nat) : Nat → Nat
  | 0 => 0
  | q + 1 => ponN σ c q + (if onC σ c q then 2 ^ q else 0)
def pon (σ : Nat → Nat) (c : Nat) : Nat := ponN σ c (σ 2)
def ldN (σ : Nat → Nat) (c : Nat) : Nat → Nat
  | 0 => 0
  | q + 1 => ldN σ c q + (if onC σ c q then σ (78 + q) else 0)
def ld (σ : Nat → Nat) (c : Nat) : Nat := ldN σ c (σ 2)
def dif (a b : Nat) : Nat := (a - b) + (b - a)
def far (a b : Nat) : Nat := dif (a % 8) (b % 8) + dif (a / 8) (b / 8)
/-- the bounds that always hold -/
def Bd (σ : Nat → Nat) : Prop := 2 ≤ σ 0 ∧ σ 0 ≤ 8 ∧ 2 ≤ σ 1 ∧ σ 1 ≤ 8 ∧ σ 2 ≤ 6 ∧ 1 ≤ σ 3 ∧ σ 3 ≤ 9 ∧ σ 4 ≤ 3 ∧ 2 ≤ σ 5 ∧ σ 5 ≤ 9 ∧ 1 ≤ σ 6 ∧ σ 6 ≤ 9 ∧ 1 ≤ σ 7 ∧ σ 7 ≤ 30 ∧ σ 90 ≤ 400 ∧ σ 91 < 64 ∧ σ 92 < 64 ∧
  (∀ q, q < 6 → σ (160 + q) < 64 ∧ σ (78 + q) ≤ 5 ∧ σ (166 + q) ≤ 9 ∧ σ (172 + q) < 1073741824) ∧ (∀ c, c < 64 → σ (96 + c) ≤ 9)
/-- the reference's row s holds it -/
def Ms (M : Mm) (σ : Nat → Nat) : Prop := (∀ k, k < 178 → M.1 116 k = nI (σ k)) ∧ Bd σ
theorem ponN_lt (σ : Nat → Nat) (c : Nat) : ∀ n, ponN σ c n < 2 ^ n
  | 0 => Nat.zero_lt_one
  | n + 1 => by
    have ih := ponN_lt σ c n
    unfold ponN
    rw [Nat.pow_succ]
    split <;> omega
theorem ponN_bit (σ : Nat → Nat) (c : Nat) : ∀ n q, (ponN σ c n).testBit q = (decide (q < n) && onC σ c q)
  | 0, q => by simp [ponN]
  | n + 1, q => by
    have ih := ponN_bit σ c n
    have hl := ponN_lt σ c n
    unfold ponN
    by_cases ho : onC σ c n
    · rw [if_pos ho]
      have e : ponN σ c n + 2 ^ n = 2 ^ n + ponN σ c n := Nat.add_comm _ _
      rw [e]
      rcases Nat.lt_trichotomy q n with h | h | h
      · rw [Nat.testBit_two_pow_add_gt h, ih]
        simp [h, Nat.lt_succ_of_lt h]
      · subst h
        rw [Nat.testBit_two_pow_add_eq, ih]
        simp [ho]
      · have h1 : 2 ^ n + ponN σ c n < 2 ^ q := Nat.lt_of_lt_of_le (by rw [Nat.pow_succ]; omega : 2 ^ n + ponN σ c n < 2 ^ (n + 1)) (Nat.pow_le_pow_right (by decide) h)
        rw [Nat.testBit_lt_two_pow h1]
        have : ¬ q < n + 1 := by omega
        simp [this]
    · rw [if_neg ho, Nat.add_zero, ih]
      by_cases h : q = n
      · subst h
        simp [ho]
      · have : (q < n + 1) ↔ (q < n) := by omega
        simp [this]
theorem ldN_le (σ : Nat → Nat) (c : Nat) (h : ∀ q, q < 6 → σ (78 + q) ≤ 5) : ∀ n, n ≤ 6 → ldN σ c n ≤ 5 * n
  | 0, _ => Nat.le_refl 0
  | n + 1, hn => by
    have ih := ldN_le σ c h n (by omega)
    have h1 := h n (by omega)
    unfold ldN
    split <;> omega
theorem b2_pos {P : Prop} [Decidable P] (h : ¬ b2 P = 0) : P := b2_n0.mp h
theorem b2_neg {P : Prop} [Decidable P] (h : b2 P = 0) : ¬ P := b2_e0.mp h
theorem b2_nneg {P : Prop} [Decidable P] (h : ¬ ¬ b2 P = 0) : ¬ P := b2_nn.mp h
theorem onC_iff {σ : Nat → Nat} {c q : Nat} : onC σ c q = true ↔ σ (160 + q) = c ∧ ¬ fal σ q = true := by
  unfold onC
  simp
theorem Bd_0 {σ : Nat → Nat} (h : Bd σ) : 2 ≤ σ 0 ∧ σ 0 ≤ 8 := ⟨h.1, h.2.1⟩
theorem Bd_1 {σ : Nat → Nat} (h : Bd σ) : 2 ≤ σ 1 ∧ σ 1 ≤ 8 := ⟨h.2.2.1, h.2.2.2.1⟩
theorem Bd_2 {σ : Nat → Nat} (h : Bd σ) : σ 2 ≤ 6 := h.2.2.2.2.1
theorem Bd_3 {σ : Nat → Nat} (h : Bd σ) : 1 ≤ σ 3 ∧ σ 3 ≤ 9 := ⟨h.2.2.2.2.2.1, h.2.2.2.2.2.2.1⟩
theorem Bd_4 {σ : Nat → Nat} (h : Bd σ) : σ 4 ≤ 3 := h.2.2.2.2.2.2.2.1
theorem Bd_5 {σ : Nat → Nat} (h : Bd σ) : 2 ≤ σ 5 ∧ σ 5 ≤ 9 := ⟨h.2.2.2.2.2.2.2.2.1, h.2.2.2.2.2.2.2.2.2.1⟩
theorem Bd_6 {σ : Nat → Nat} (h : Bd σ) : 1 ≤ σ 6 ∧ σ 6 ≤ 9 := ⟨h.2.2.2.2.2.2.2.2.2.2.1, h.2.2.2.2.2.2.2.2.2.2.2.1⟩
theorem Bd_7 {σ : Nat → Nat} (h : Bd σ) : 1 ≤ σ 7 ∧ σ 7 ≤ 30 := ⟨h.2.2.2.2.2.2.2.2.2.2.2.2.1, h.2.2.2.2.2.2.2.2.2.2.2.2.2.1⟩
theorem Bd_90 {σ : Nat → Nat} (h : Bd σ) : σ 90 ≤ 400 := h.2.2.2.2.2.2.2.2.2.2.2.2.2.2.1
theorem Bd_91 {σ : Nat → Nat} (h : Bd σ) : σ 91 < 64 := h.2.2.2.2.2.2.2.2.2.2.2.2.2.2.2.1
theorem Bd_92 {σ : Nat → Nat} (h : Bd σ) : σ 92 < 64 := h.2.2.2.2.2.2.2.2.2.2.2.2.2.2.2.2.1
theorem Bd_q {σ : Nat → Nat} (h : Bd σ) (q : Nat) (hq : q < 6) : σ (160 + q) < 64 ∧ σ (78 + q) ≤ 5 ∧ σ (166 + q) ≤ 9 ∧ σ (172 + q) < 1073741824 := h.2.2.2.2.2.2.2.2.2.2.2.2.2.2.2.2.2.1 q hq
theorem Bd_c {σ : Nat → Nat} (h : Bd σ) (c : Nat) (hc : c < 64) : σ (96 + c) ≤ 9 := h.2.2.2.2.2.2.2.2.2.2.2.2.2.2.2.2.2.2 c hc
theorem pon_lt {σ : Nat → Nat} (h : Bd σ) (c : Nat) : pon σ c < 64 := Nat.lt_of_lt_of_le (ponN_lt σ c (σ 2)) (Nat.pow_le_pow_right (by decide) (Bd_2 h))
theorem ld_le {σ : Nat → Nat} (h : Bd σ) (c : Nat) : ld σ c ≤ 30 := by
  have h2 := Bd_2 h
  have h1 := ldN_le σ c (fun q hq => (Bd_q h q hq).2.1) (σ 2) h2
  unfold ld
  omega
/-! answers of the reference's methods -/
theorem mx0 {x y : Nat} (hx : x < 2 ^ 30) (hy : y < 2 ^ 30) : (if nI 0 ≤ nI x - nI y then nI x - nI y else nI 0) = nI (x - y) := by
  by_cases h : y ≤ x
  · rw [pk_sub h, if_pos (nI_le (Nat.zero_le _) (by omega))]
  · have hn := pk_sneg (a := x) (b := y) hy (by omega)
    have h9 : ¬ nI 0 ≤ nI x - nI y := by
      rw [nI_0]
      exact Int32.not_le.mpr hn
    rw [if_neg h9]
    have : x - y = 0 := by omega
    rw [this]
/-- ice if q swore -/
def ifs (σ : Nat → Nat) (q c : Nat) : Nat := if far (σ (160 + q)) c ≤ σ 4 then σ (96 + c) - σ 3 else σ (96 + c)
/-- why a praise of r by q can't be -/
def wpr (σ : Nat → Nat) (q r : Nat) : Nat := if q = r then 1 else if fal σ q = true ∨ fal σ r = true then 2 else if 1 < far (σ (160 + q)) (σ (160 + r)) then 3 else 0
def dngN (σ : Nat → Nat) (q : Nat) : Nat → Nat
  | 0 => 0
  | k + 1 => dngN σ q k + (if ¬ fal σ q = true ∧ ¬ fal σ k = true ∧ ifs σ q (σ (160 + k)) < ld σ (σ (160 + k)) then 2 ^ k else 0)
def dng (σ : Nat → Nat) (q : Nat) : Nat := dngN σ q (σ 2)
theorem dngN_lt (σ : Nat → Nat) (q : Nat) : ∀ n, dngN σ q n < 2 ^ n
  | 0 => Nat.zero_lt_one
  | n + 1 => by
    have ih := dngN_lt σ q n
    unfold dngN
    rw [Nat.pow_succ]
    split <;> omega
/-- the cell beside c -/
def bes (σ : Nat → Nat) (c s : Nat) : Option Nat :=
  if s = 0 then (if c % 8 + 1 < σ 0 ∧ c / 8 < σ 1 then some (c + 1) else none)
  else if s = 1 then (if c % 8 < σ 0 ∧ c / 8 + 1 < σ 1 then some (c + 8) else none)
  else if s = 2 then (if 1 ≤ c % 8 ∧ c % 8 ≤ σ 0 ∧ c / 8 < σ 1 then some (c - 1) else none)
  else (if c % 8 < σ 0 ∧ 1 ≤ c / 8 ∧ c / 8 ≤ σ 1 then some (c - 8) else none)
def oI : Option Nat → Int32
  | none => -1
  | some n => nI n
def wgo (σ : Nat → Nat) (q s : Nat) : Nat := if fal σ q = true then 1 else match bes σ (σ (160 + q)) s with
  | none => 2
  | some c => if σ (96 + c) < ld σ c + σ (78 + q) then 3 else 0
def aiN (σ : Nat → Nat) : Nat → Nat
  | 0 => 0
  | c + 1 => aiN σ c + σ (96 + c)
/-- a number that is a person's; numbers that are a cell's -/
def pI (σ : Nat → Nat) (q : Int32) : Prop := 0 ≤ q.toInt ∧ q.toInt < (σ 2 : Int)
def cI (σ : Nat → Nat) (x y : Int32) : Prop := 0 ≤ x.toInt ∧ x.toInt < (σ 0 : Int) ∧ 0 ≤ y.toInt ∧ y.toInt < (σ 1 : Int)
theorem far_lt (a b : Nat) (ha : a < 64) (hb : b < 64) : far a b < 16 := by
  unfold far dif
  omega
theorem ifs_le {σ : Nat → Nat} (h : Bd σ) (q c : Nat) (hc : c < 64) : ifs σ q c ≤ 9 := by
  have := Bd_c h c hc
  unfold ifs
  split <;> omega
/-- who falls where a cell doesn't bear them -/
def snkN (σ : Nat → Nat) : Nat → Nat
  | 0 => 0
  | q + 1 => snkN σ q + (if ¬ fal σ q = true ∧ σ (96 + σ (160 + q)) < ld σ (σ (160 + q)) then 2 ^ q else 0)
theorem snkN_lt (σ : Nat → Nat) : ∀ n, snkN σ n < 2 ^ n
  | 0 => Nat.zero_lt_one
  | n + 1 => by
    have ih := snkN_lt σ n
    unfold snkN
    rw [Nat.pow_succ]
    split <;> omega
def su (σ : Nat → Nat) (i v : Nat) : Nat → Nat := fun k => if k = i then v else σ k
def sink (σ : Nat → Nat) : Nat → Nat := su σ 91 (σ 91 ||| snkN σ (σ 2))
def bend (σ : Nat → Nat) (q : Nat) : Nat → Nat := su (su (su (su σ (96 + σ (160 + q)) (if 9 < σ (96 + σ (160 + q)) + 1 then 9 else σ (96 + σ (160 + q)) + 1)) (166 + q) (σ (166 + q) - 1)) 92 (σ 92 ||| 2 ^ q)) 93 (σ 93 + 1)
def flt0 (σ : Nat → Nat) (r : Nat) : Nat → Nat := su (su (su σ (166 + r) (σ (166 + r) - 1)) (172 + r) (σ (172 + r) + 1)) 94 (σ 94 + 1)
def flat (σ : Nat → Nat) (r : Nat) : Nat → Nat := if σ 6 < σ (172 + r) + 1 then sink (su (flt0 σ r) (96 + σ (160 + r)) (σ (96 + σ (160 + r)) - 1)) else flt0 σ r
/-- the first n cells' ice, if q swears -/
def crs (σ : Nat → Nat) (q n : Nat) : Nat → Nat := fun k => if 96 ≤ k ∧ k < 96 + n then ifs σ q (k - 96) else σ k
def curse (σ : Nat → Nat) (q : Nat) : Nat → Nat := sink (su (su (crs σ q 64) (166 + q) 0) 95 (σ 95 + 1))
theorem lor_lt : ∀ a, a < 64 → ∀ b, b < 64 → a ||| b < 64 := by decide +kernel
theorem lor_ok : ∀ a, a < 64 → ∀ b, b < 64 → nI a ||| nI b = nI (a ||| b) := by decide +kernel
theorem pow_lt6 {q : Nat} (h : q < 6) : 2 ^ q < 64 := Nat.pow_lt_pow_right (by decide) h
theorem shl_ok : ∀ q, q < 6 → nI 1 <<< (nI q &&& 31) = nI (2 ^ q) := by decide +kernel
def wbw (σ : Nat → Nat) (q : Nat) : Nat := if fal σ q = true then 1 else if (σ 92).testBit q = true then 2 else 0
/-- how many others are near q, of the first n -/
def nrN (σ : Nat → Nat) (q : Nat) : Nat → Nat
  | 0 => 0
  | r + 1 => nrN σ q r + (if ¬ r = q ∧ ¬ fal σ r = true ∧ far (σ (160 + q)) (σ (160 + r)) < 2 then 1 else 0)
theorem nrN_le (σ : Nat → Nat) (q : Nat) : ∀ n, nrN σ q n ≤ n
  | 0 => Nat.le_refl 0
  | n + 1 => by
    have ih := nrN_le σ q n
    unfold nrN
    split <;> omega
def tmp9 (σ : Nat → Nat) (q : Nat) : Nat := if 9 < σ (166 + q) + nrN σ q (σ 2) then 9 else σ (166 + q) + nrN σ q (σ 2)
/-- q's part of an hour -/
def hst (σ : Nat → Nat) (q : Nat) : Nat → Nat := if fal σ q = true then σ else if tmp9 σ q < σ 5 then su σ (166 + q) (tmp9 σ q) else curse (su σ (166 + q) (tmp9 σ q)) q
def hsw (σ : Nat → Nat) (q : Nat) : Prop := ¬ fal σ q = true ∧ ¬ tmp9 σ q < σ 5
def hrN (σ : Nat → Nat) : Nat → (Nat → Nat)
  | 0 => σ
  | q + 1 => hst (hrN σ q) q
def swN (σ : Nat → Nat) : Nat → Nat
  | 0 => 0
  | q + 1 => swN σ q + (if ¬ fal (hrN σ q) q = true ∧ ¬ tmp9 (hrN σ q) q < (hrN σ q) 5 then 2 ^ q else 0)
theorem swN_lt (σ : Nat → Nat) : ∀ n, swN σ n < 2 ^ n
  | 0 => Nat.zero_lt_one
  | n + 1 => by
    have ih := swN_lt σ n
    unfold swN
    rw [Nat.pow_succ]
    split <;> omega
/-- nobody was praised -/
def przN (σ : Nat → Nat) : Nat → (Nat → Nat)
  | 0 => σ
  | n + 1 => su (przN σ n) (172 + n) 0
/-- frost -/
def frzN (σ : Nat → Nat) : Nat → (Nat → Nat)
  | 0 => σ
  | n + 1 => if n % 8 < σ 0 ∧ n / 8 < σ 1 then su (frzN σ n) (96 + n) (if 9 < frzN σ n (96 + n) + 1 then 9 else frzN σ n (96 + n) + 1) else frzN σ n
def hend (σ : Nat → Nat) : Nat → Nat := if 0 < σ 90 % σ 7 then σ else frzN σ 64
def htl (σ : Nat → Nat) : Nat → Nat := hend (przN (su (su σ 90 (σ 90 + 1)) 92 0) 6)
/-- an hour goes -/
def hour (σ : Nat → Nat) : Nat → Nat := htl (hrN σ (σ 2))
