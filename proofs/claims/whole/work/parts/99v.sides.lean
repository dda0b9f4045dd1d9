/-! Way: the sides. -/
theorem cst_x1 (w : Nat → Nat) : ∀ n, cst x1 0 w n = n
  | 0 => rfl
  | n + 1 => by show cst x1 0 w n + 1 = n + 1; rw [cst_x1 w n]
/-- how far an open cell is from the goal -/
def DWW (σ : Nat → Nat) (q gl c n : Nat) : Prop := opW σ q c ∧ LCo (EC σ (opW σ q)) gl 0 x1 c (some n)
theorem DWW_u {σ : Nat → Nat} {q gl c n m : Nat} (h : DWW σ q gl c n) (k : DWW σ q gl c m) : n = m := by
  have := LCo_u h.2 k.2
  cases this
  rfl
/-- u: the sides of the way, from the start on; w: the cells -/
def SdW (σ : Nat → Nat) (q gl n : Nat) (u w : Nat → Nat) : Prop := w 0 = σ (160 + q) ∧ ∀ i, i < n → u i < 4 ∧ bes σ (w i) (u i) = some (w (i + 1)) ∧ DWW σ q gl (w (i + 1)) (n - 1 - i) ∧ ∀ s, s < u i → ∀ k, bes σ (w i) s = some k → ¬ DWW σ q gl k (n - 1 - i)
theorem SdW_u {σ : Nat → Nat} {q gl n : Nat} {u w u' w' : Nat → Nat} (h : SdW σ q gl n u w) (k : SdW σ q gl n u' w') : ∀ i, i ≤ n → w i = w' i ∧ (∀ e, e < i → u e = u' e)
  | 0, _ => ⟨by rw [h.1, k.1], fun e he => absurd he (Nat.not_lt_zero _)⟩
  | i + 1, hi => by
    obtain ⟨a, b⟩ := SdW_u h k i (by omega)
    obtain ⟨h1, h2, h3, h4⟩ := h.2 i (by omega)
    obtain ⟨k1, k2, k3, k4⟩ := k.2 i (by omega)
    have e : u i = u' i := by
      by_cases l : u i < u' i
      · exact absurd h3 (k4 _ l _ (by rw [← a]; exact h2))
      · by_cases l2 : u' i < u i
        · exact absurd k3 (h4 _ l2 _ (by rw [a]; exact k2))
        · omega
    refine ⟨?_, fun z hz => ?_⟩
    · rw [a, e, k2] at h2
      exact (Option.some.inj h2).symm
    · by_cases ez : z = i
      · rw [ez]; exact e
      · exact b z (by omega)
