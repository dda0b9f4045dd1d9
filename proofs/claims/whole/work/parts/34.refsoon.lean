/-! Hours by draws; what would be. -/
/-- k hours by draws -/
def dK (σ : Nat → Nat) (x : Int32) : Nat → (Nat → Nat) × Int32
  | 0 => (σ, x)
  | k + 1 => (hour (dhN (dK σ x k).1 (dK σ x k).2 ((dK σ x k).1 2)).1, (dhN (dK σ x k).1 (dK σ x k).2 ((dK σ x k).1 2)).2)
theorem dK_s (σ : Nat → Nat) (x : Int32) (k : Nat) : dK σ x (k + 1) = (hour (dhN (dK σ x k).1 (dK σ x k).2 ((dK σ x k).1 2)).1, (dhN (dK σ x k).1 (dK σ x k).2 ((dK σ x k).1 2)).2) := rfl
theorem prz_0 {σ : Nat → Nat} {r : Nat} : ∀ n, r < n → przN σ n (172 + r) = 0
  | n + 1, h => by
    unfold przN
    by_cases e : r = n
    · rw [e, su_eq rfl]
    · rw [su_ne (by omega)]; exact prz_0 n (by omega)
theorem hour_pr {σ : Nat → Nat} {r : Nat} (hr : r < 6) : hour σ (172 + r) = 0 := by
  unfold hour htl
  rw [hend_lo (by omega)]
  exact prz_0 6 hr
theorem dK_ok {σ : Nat → Nat} (h : Inv σ) {x : Int32} (hp : ∀ r, r < 6 → σ (172 + r) + 6 < 1073741824) : ∀ n, σ 90 + n ≤ 400 → Inv (dK σ x n).1 ∧ (dK σ x n).1 2 = σ 2 ∧ (dK σ x n).1 90 = σ 90 + n ∧ ∀ r, r < 6 → (dK σ x n).1 (172 + r) + 6 < 1073741824
  | 0, _ => ⟨h, rfl, rfl, hp⟩
  | n + 1, hn => by
    obtain ⟨i1, i2, i3, i4⟩ := dK_ok h (x := x) hp n (by omega)
    obtain ⟨τ, hτ⟩ : ∃ τ, (dK σ x n).1 = τ := ⟨_, rfl⟩
    obtain ⟨y, hy⟩ : ∃ y, (dK σ x n).2 = y := ⟨_, rfl⟩
    have e : (dK σ x (n + 1)).1 = hour (dhN τ y (τ 2)).1 := by rw [dK_s, hτ, hy]
    rw [hτ] at i1 i2 i3 i4
    have h26 := Bd_2 i1.1
    obtain ⟨j1, j2, j3, j4⟩ := dhN_ok i1 (x := y) i4 (τ 2) (Nat.le_refl _)
    rw [e]
    have h90 : (dhN τ y (τ 2)).1 90 < 400 := by rw [j3, i3]; omega
    have h27 : (dhN τ y (τ 2)).1 2 ≤ 6 := by rw [j2]; exact h26
    refine ⟨Inv_hour j1 h90, ?_, ?_, fun r hr => ?_⟩
    · rw [hour_lo h27 (by omega), j2, i2]
    · rw [hour_90 h27, j3, i3]; omega
    · rw [hour_pr hr]; omega
