/-! The class's states: where they lie, what they hold. -/
def Lay (b : Nat) : Prop := shp b = (0, 5) ∧ shp (b + 1) = (1, 64) ∧ shp (b + 2) = (1, 6) ∧ shp (b + 3) = (1, 6) ∧ shp (b + 4) = (1, 6) ∧ shp (lkp b) = (0, 2) ∧ shp (lkp b + 1) = (4, 6) ∧ shp (lkp b + 2) = (1, 6) ∧ lkp b + 2 < b
abbrev inL (σ : Nat → Nat) (c : Nat) : Prop := c % 8 < σ 0 ∧ c / 8 < σ 1
/-- the lake at p -/
def LkC (M : Mm) (p : Nat) (σ : Nat → Nat) : Prop := shp p = (0, 2) ∧ shp (p + 1) = (4, 6) ∧ shp (p + 2) = (1, 6) ∧ (∀ k, k < 8 → M.1 p k = nI (σ k)) ∧ ∀ q, q < σ 2 → M.1 (p + 2) q = nI (σ (78 + q))
def StC (M : Mm) (b : Nat) (σ : Nat → Nat) : Prop := Lay b ∧ LkC M (lkp b) σ ∧ (M.1 b 5 = nI (σ 91) ∧ M.1 b 6 = nI (σ 92) ∧ M.1 b 7 = nI (σ 90) ∧ M.1 b 8 = nI (σ 93) ∧ M.1 b 9 = nI (σ 94) ∧ M.1 b 10 = nI (σ 95) ∧ σ 2 ≤ 6) ∧ (∀ c, c < 64 → inL σ c → M.1 (b + 1) c = nI (σ (96 + c))) ∧ (∀ q, q < σ 2 → M.1 (b + 2) q = nI (σ (160 + q))) ∧ (∀ q, q < σ 2 → M.1 (b + 3) q = nI (σ (166 + q))) ∧ (∀ q, q < σ 2 → M.1 (b + 4) q = nI (σ (172 + q)))
/-- all persons are on the lake -/
def Inl (σ : Nat → Nat) : Prop := ∀ q, q < σ 2 → inL σ (σ (160 + q))
theorem rdq {f : Nat → Int32} {n k : Nat} {v : Nat → Nat} {t : Int32} (h : ∀ q, q < n → f q = nI (v q)) (e : t = nI k) (hk : k < n) (h31 : k < 2 ^ 31) : f t.toNatClampNeg = nI (v k) := by rw [e, nI_clamp h31]; exact h k hk
theorem ak2 {p t n k : Nat} {i : Int32} (hs : shp p = (t + 1, n)) (e : i = nI k) (hk : k < n) : aok shp p t i := ak1 (n := n) (by rw [hs]) (by rw [hs]) e hk
theorem bit_okc : ∀ a, a < 64 → ∀ q, q < 6 → (((nI a >>> (nI q &&& 31)) &&& (nI 1)) = 0 ↔ ¬ a.testBit q = true) := by decide +kernel
theorem rdc {f : Nat → Int32} {σ : Nat → Nat} {k : Nat} {t : Int32} (h : ∀ c, c < 64 → inL σ c → f c = nI (σ (96 + c))) (e : t = nI k) (hk : k < 64) (hi : inL σ k) : f t.toNatClampNeg = nI (σ (96 + k)) := by rw [e, nI_clamp (by omega)]; exact h k hk hi
