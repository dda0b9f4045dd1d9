/-! Numbers: ints that are naturals. -/
theorem n_add {x y : Int32} {a b : Nat} (hx : x = nI a) (hy : y = nI b) : x + y = nI (a + b) := by rw [hx, hy, nI_add]
theorem n_mul {x y : Int32} {a b : Nat} (hx : x = nI a) (hy : y = nI b) : x * y = nI (a * b) := by rw [hx, hy, pk_mul]
theorem n_sub {x y : Int32} {a b : Nat} (hx : x = nI a) (hy : y = nI b) (h : b ≤ a) : x - y = nI (a - b) := by rw [hx, hy, pk_sub h]
theorem n_div {x y : Int32} {a b : Nat} (hx : x = nI a) (hy : y = nI b) (ha : a < 2 ^ 31) (h0 : 0 < b) (hb : b < 2 ^ 31) : x / y = nI (a / b) := by rw [hx, hy, pk_div ha h0 hb]
theorem n_rem {x y : Int32} {a b : Nat} (hx : x = nI a) (hy : y = nI b) (ha : a < 2 ^ 31) (h0 : 0 < b) (hb : b < 2 ^ 31) : x - x / y * y = nI (a % b) := by rw [hx, hy, pk_rem ha h0 hb]
theorem n_eq {x y : Int32} {a b : Nat} (hx : x = nI a) (hy : y = nI b) (ha : a < 2 ^ 31) (hb : b < 2 ^ 31) : x = y ↔ a = b := by rw [hx, hy, nI_eq ha hb]
theorem n_le {x y : Int32} {a b : Nat} (hx : x = nI a) (hy : y = nI b) (ha : a < 2 ^ 31) (hb : b < 2 ^ 31) : x ≤ y ↔ a ≤ b := by rw [hx, hy, nI_leI ha hb]
theorem n_lt {x y : Int32} {a b : Nat} (hx : x = nI a) (hy : y = nI b) (ha : a < 2 ^ 31) (hb : b < 2 ^ 31) : x < y ↔ a < b := by rw [hx, hy, nI_ltI ha hb]
theorem n_ne0 {x : Int32} {a : Nat} (hx : x = nI a) (h0 : 0 < a) (h : a < 2 ^ 31) : ¬ x = 0 := by rw [hx]; exact nI_ne0 h0 h
theorem rd0 {f : Nat → Int32} {σ : Nat → Nat} {n k : Nat} (h : ∀ k, k < n → f k = nI (σ k)) (hk : k < n) : f k = nI (σ k) := h k hk
theorem rd1 {f : Nat → Int32} {σ : Nat → Nat} {n k : Nat} {t : Int32} (h : ∀ k, k < n → f k = nI (σ k)) (e : t = nI k) (hk : k < n) (h31 : k < 2 ^ 31) : f t.toNatClampNeg = nI (σ k) := by rw [e, nI_clamp h31]; exact h k hk
theorem ak1 {p t n k : Nat} {i : Int32} (h1 : (shp p).1 = t + 1) (h2 : (shp p).2 = n) (e : i = nI k) (hk : k < n) : aok shp p t i := ⟨h1, by rw [h2, e]; exact vp_in_nI hk (by
  have : n ≤ 940 := by
    rw [← h2]
    unfold shp
    rw [List.getD_eq_getElem?_getD]
    have hall : shl.all (fun q => decide (q.2 ≤ 940)) = true := by decide +kernel
    cases hq : shl[p]? with
    | none => simp
    | some q => simpa using List.all_eq_true.mp hall q (List.mem_of_getElem? hq)
  omega)⟩
/-- a truth value as an int -/
def b2 (P : Prop) [Decidable P] : Int32 := if P then 1 else 0
theorem b2_t {P : Prop} [Decidable P] (h : P) : b2 P = 1 := if_pos h
theorem b2_f {P : Prop} [Decidable P] (h : ¬ P) : b2 P = 0 := if_neg h
theorem is01_b2 (P : Prop) [Decidable P] : is01 (b2 P) := by by_cases h : P <;> simp [h, is01, b2]
theorem b2_e0 {P : Prop} [Decidable P] : b2 P = 0 ↔ ¬ P := by by_cases h : P <;> simp [h, b2]
theorem b2_n0 {P : Prop} [Decidable P] : ¬ b2 P = 0 ↔ P := by by_cases h : P <;> simp [h, b2]
theorem b2_nn {P : Prop} [Decidable P] : ¬ ¬ b2 P = 0 ↔ ¬ P := by by_cases h : P <;> simp [h, b2]
theorem b2_iff {P R : Prop} [Decidable P] [Decidable R] (h : P ↔ R) : b2 P = b2 R := by by_cases hp : P <;> simp [b2, hp, ← h]
theorem nI_one : nI 1 = 1 := rfl
/-- a bit of a small set -/
theorem bit_ok : ∀ a, a < 64 → ∀ q, q < 6 → (((nI a >>> (nI q &&& 31)) &&& (nI 1)) = (nI 1) ↔ a.testBit q = true) := by decide +kernel
theorem or_ok : ∀ q, q < 6 → ∀ a, a < 2 ^ q → nI a ||| (nI 1 <<< (nI q &&& 31)) = nI (a + 2 ^ q) := by decide +kernel
theorem or_0 (a : Nat) (h : a < 64) : nI a ||| nI 0 = nI a := by
  have : ∀ a, a < 64 → nI a ||| nI 0 = nI a := by decide +kernel
  exact this a h
