/-! The reference's memory with its row s and its own fields apart. -/
def mS (M : Mm) (f g : Nat → Int32) : Mm := mI (mI M 116 f) 114 g
theorem mS_s (M : Mm) (f g f2 : Nat → Int32) : mI (mS M f g) 116 f2 = mS M f2 g := by
  unfold mS mI
  refine Prod.ext ?_ rfl
  funext p
  simp only [va_up]
  by_cases h1 : p = 116
  · subst h1; simp
  · by_cases h2 : p = 114
    · subst h2; simp
    · simp [h1, h2]
theorem mS_g (M : Mm) (f g g2 : Nat → Int32) : mI (mS M f g) 114 g2 = mS M f g2 := by
  unfold mS mI
  refine Prod.ext ?_ rfl
  funext p
  simp only [va_up]
  by_cases h2 : p = 114
  · subst h2; simp
  · simp [h2]
theorem mS_self (M : Mm) : mS M (M.1 116) (M.1 114) = M := by
  unfold mS mI
  refine Prod.ext ?_ rfl
  funext p
  simp only [va_up]
  by_cases h1 : p = 116
  · subst h1; simp
  · by_cases h2 : p = 114
    · subst h2; simp
    · simp [h1, h2]
/-- the row s holds the state; behind it, it is as it was -/
def Rs (f0 f : Nat → Int32) (σ : Nat → Nat) : Prop := (∀ k, k < 178 → f k = nI (σ k)) ∧ ∀ k, 178 ≤ k → f k = f0 k
theorem su_eq {σ : Nat → Nat} {i v k : Nat} (h : k = i) : su σ i v k = v := if_pos h
theorem su_ne {σ : Nat → Nat} {i v k : Nat} (h : ¬ k = i) : su σ i v k = σ k := if_neg h
theorem Rs_up {f0 f : Nat → Int32} {σ : Nat → Nat} {ix i v : Nat} {x : Int32} (h : Rs f0 f σ) (hi : ix = i) (hl : i < 178) (hv : x = nI v) : Rs f0 (upd f ix x) (su σ i v) := by
  subst hi
  refine ⟨fun k hk => ?_, fun k hk => ?_⟩
  · unfold upd su
    by_cases e : k = ix
    · rw [if_pos e, if_pos e, hv]
    · rw [if_neg e, if_neg e, h.1 k hk]
  · unfold upd
    rw [if_neg (by omega)]
    exact h.2 k hk
theorem cl1 {t : Int32} {k : Nat} (e : t = nI k) (h : k < 2 ^ 31) : t.toNatClampNeg = k := by rw [e, nI_clamp h]
theorem r_ne {x : Int32} {σ : Nat → Nat} {i v k : Nat} (h : x = nI (su σ i v k)) (hn : ¬ k = i) : x = nI (σ k) := by rw [h, su_ne hn]
theorem r_eq {x : Int32} {σ : Nat → Nat} {i v k : Nat} (h : x = nI (su σ i v k)) (he : k = i) : x = nI v := by rw [h, su_eq he]
theorem Rs_self (M : Mm) {σ : Nat → Nat} (h : ∀ k, k < 178 → M.1 116 k = nI (σ k)) : Rs (M.1 116) (M.1 116) σ := ⟨h, fun _ _ => rfl⟩
/-- a bound state, one number put -/
theorem Bd_su {σ : Nat → Nat} (h : Bd σ) {i v : Nat} (hi : 90 ≤ i) (h0 : i = 90 → v ≤ 400) (h1 : i = 91 ∨ i = 92 → v < 64) (h3 : 96 ≤ i → i < 160 → v ≤ 9) (h4 : 160 ≤ i → i < 166 → v < 64) (h5 : 166 ≤ i → i < 172 → v ≤ 9) (h6 : 172 ≤ i → v < 1073741824) : Bd (su σ i v) := by
  have k0 := Bd_0 h
  have k1 := Bd_1 h
  have k2 := Bd_2 h
  have k3 := Bd_3 h
  have k4 := Bd_4 h
  have k5 := Bd_5 h
  have k6 := Bd_6 h
  have k7 := Bd_7 h
  have k90 := Bd_90 h
  have k91 := Bd_91 h
  have k92 := Bd_92 h
  have e : ∀ k, k < 90 → su σ i v k = σ k := fun k hk => su_ne (by omega)
  refine ⟨by rw [e 0 (by omega)]; omega, by rw [e 0 (by omega)]; omega, by rw [e 1 (by omega)]; omega, by rw [e 1 (by omega)]; omega, by rw [e 2 (by omega)]; omega, by rw [e 3 (by omega)]; omega, by rw [e 3 (by omega)]; omega, by rw [e 4 (by omega)]; omega, by rw [e 5 (by omega)]; omega, by rw [e 5 (by omega)]; omega, by rw [e 6 (by omega)]; omega, by rw [e 6 (by omega)]; omega, by rw [e 7 (by omega)]; omega, by rw [e 7 (by omega)]; omega, ?_, ?_, ?_, ?_, ?_⟩
  · unfold su; split <;> omega
  · unfold su; split <;> omega
  · unfold su; split <;> omega
  · intro q hq
    have kq := Bd_q h q hq
    refine ⟨?_, ?_, ?_, ?_⟩
    · unfold su; split <;> omega
    · rw [e (78 + q) (by omega)]; omega
    · unfold su; split <;> omega
    · unfold su; split <;> omega
  · intro c hc
    have kc := Bd_c h c hc
    unfold su; split <;> omega
theorem n_or {x y : Int32} {a b : Nat} (hx : x = nI a) (hy : y = nI b) (ha : a < 64) (hb : b < 64) : x ||| y = nI (a ||| b) := by rw [hx, hy, lor_ok a ha b hb]
theorem n_shl {y : Int32} {q : Nat} (hy : y = nI q) (hq : q < 6) : nI 1 <<< (y &&& 31) = nI (2 ^ q) := by rw [hy, shl_ok q hq]
theorem or_ok2 : ∀ q, q < 6 → ∀ a, a < 2 ^ q → nI a ||| nI (2 ^ q) = nI (a + 2 ^ q) := by decide +kernel
theorem m1_toInt {n : Nat} (h : n < 2 ^ 30) : (nI n + (-1 : Int32)).toInt = (n : Int) - 1 := by
  have e : nI n + (-1 : Int32) = nI n - nI 1 := by
    rw [Int32.sub_eq_add_neg]
    rfl
  rw [e]
  exact pk_sub_toInt h (by decide)
theorem m1_nat {n : Nat} (h : 1 ≤ n) : nI n + (-1 : Int32) = nI (n - 1) := by
  obtain ⟨k, rfl⟩ : ∃ k, n = k + 1 := ⟨n - 1, by omega⟩
  exact pk_m1 k
theorem bes_lt {σ : Nat → Nat} (hB : Bd σ) {c s k : Nat} (hc : c < 64) (h : bes σ c s = some k) : k < 64 := by
  have h0 := Bd_0 hB
  have h1 := Bd_1 hB
  unfold bes at h
  split at h
  · split at h
    · cases h; omega
    · cases h
  · split at h
    · split at h
      · cases h; omega
      · cases h
    · split at h
      · split at h
        · cases h; omega
        · cases h
      · split at h
        · cases h; omega
        · cases h
