/-! Walks over the cells: what they cost at least. -/
theorem php : ∀ (n : Nat) (f : Nat → Nat), (∀ i, i ≤ n → f i < n) → ∃ i j, i < j ∧ j ≤ n ∧ f i = f j
  | 0, f, h => absurd (h 0 (Nat.le_refl _)) (by omega)
  | n + 1, f, h => by
    by_cases hv : ∃ i, i ≤ n ∧ f i = f (n + 1)
    · obtain ⟨i, h1, h2⟩ := hv
      exact ⟨i, n + 1, by omega, Nat.le_refl _, h2⟩
    · have hne : ∀ i, i ≤ n → ¬ f i = f (n + 1) := fun i hi e => hv ⟨i, hi, e⟩
      have hl := h (n + 1) (Nat.le_refl _)
      obtain ⟨i, j, h1, h2, h3⟩ := php n (fun i => if f (n + 1) < f i then f i - 1 else f i) (fun i hi => by
        have a := h i (by omega)
        have b := hne i hi
        show (if f (n + 1) < f i then f i - 1 else f i) < n
        split <;> omega)
      refine ⟨i, j, h1, by omega, ?_⟩
      have a := hne i (by omega)
      have b := hne j (by omega)
      have h4 : (if f (n + 1) < f i then f i - 1 else f i) = (if f (n + 1) < f j then f j - 1 else f j) := h3
      split at h4 <;> split at h4 <;> omega
/-- a row of cells from st on, each beside the one ahead of it -/
def Wlk (E : Nat → Nat → Prop) (st : Nat) (w : Nat → Nat) (n : Nat) : Prop := w 0 = st ∧ ∀ i, i < n → E (w i) (w (i + 1))
/-- what it costs: x a c: a row that cost a goes on to c -/
def cst (x : Nat → Nat → Nat) (a0 : Nat) (w : Nat → Nat) : Nat → Nat
  | 0 => a0
  | i + 1 => x (cst x a0 w i) (w (i + 1))
def Mono (x : Nat → Nat → Nat) : Prop := (∀ a b c, a ≤ b → x a c ≤ x b c) ∧ ∀ a c, a ≤ x a c
theorem cst_up {x : Nat → Nat → Nat} (hx : Mono x) (a0 : Nat) (w : Nat → Nat) : ∀ i j, i ≤ j → cst x a0 w i ≤ cst x a0 w j
  | i, 0, h => by rw [show i = 0 by omega]; exact Nat.le_refl _
  | i, j + 1, h => by
    by_cases e : i = j + 1
    · rw [e]; exact Nat.le_refl _
    · exact Nat.le_trans (cst_up hx a0 w i j (by omega)) (hx.2 _ _)
def cutw (w : Nat → Nat) (i j : Nat) : Nat → Nat := fun k => if k ≤ i then w k else w (k + (j - i))
theorem cst_cut {x : Nat → Nat → Nat} (hx : Mono x) (a0 : Nat) (w : Nat → Nat) {i j : Nat} (hij : i < j) (he : w i = w j) : ∀ k, (k ≤ i → cst x a0 (cutw w i j) k = cst x a0 w k) ∧ (i ≤ k → cst x a0 (cutw w i j) k ≤ cst x a0 w (k + (j - i)))
  | 0 => ⟨fun _ => rfl, fun h => cst_up hx a0 w 0 _ (by omega)⟩
  | k + 1 => by
    have ih := cst_cut hx a0 w hij he k
    constructor
    · intro h
      show x (cst x a0 (cutw w i j) k) (cutw w i j (k + 1)) = x (cst x a0 w k) (w (k + 1))
      rw [ih.1 (by omega)]
      unfold cutw
      rw [if_pos h]
    · intro h
      by_cases e : k + 1 = i
      · have h9 : cst x a0 (cutw w i j) (k + 1) = cst x a0 w (k + 1) := by
          show x (cst x a0 (cutw w i j) k) (cutw w i j (k + 1)) = x (cst x a0 w k) (w (k + 1))
          rw [ih.1 (by omega)]
          unfold cutw
          rw [if_pos (by omega)]
        rw [h9]
        exact cst_up hx a0 w _ _ (by omega)
      · have h1 := ih.2 (by omega)
        rw [show k + 1 + (j - i) = (k + (j - i)) + 1 by omega]
        show x (cst x a0 (cutw w i j) k) (cutw w i j (k + 1)) ≤ x (cst x a0 w (k + (j - i))) (w (k + (j - i) + 1))
        have h2 : cutw w i j (k + 1) = w (k + (j - i) + 1) := by
          unfold cutw
          rw [if_neg (by omega)]
          congr 1
          omega
        rw [h2]
        exact hx.1 _ _ _ h1
theorem Wlk_cut {E : Nat → Nat → Prop} {st : Nat} {w : Nat → Nat} {n i j : Nat} (h : Wlk E st w n) (hij : i < j) (hj : j ≤ n) (he : w i = w j) : Wlk E st (cutw w i j) (n - (j - i)) := by
  refine ⟨?_, fun k hk => ?_⟩
  · unfold cutw; rw [if_pos (by omega)]; exact h.1
  · unfold cutw
    by_cases h1 : k + 1 ≤ i
    · rw [if_pos (by omega), if_pos h1]; exact h.2 k (by omega)
    · by_cases h2 : k = i
      · rw [if_pos (by omega), if_neg h1, h2, he, show i + 1 + (j - i) = j + 1 by omega]
        exact h.2 j (by omega)
      · rw [if_neg (by omega), if_neg h1, show k + 1 + (j - i) = (k + (j - i)) + 1 by omega]
        exact h.2 _ (by omega)
/-- a row of 64 steps or more has one that is shorter and costs no more -/
theorem Wlk_short {E : Nat → Nat → Prop} {st : Nat} {x : Nat → Nat → Nat} (hx : Mono x) (a0 : Nat) (hst : st < 64) (hE : ∀ c k, E c k → k < 64) : ∀ (n : Nat) (w : Nat → Nat), Wlk E st w n → ∃ w' n', n' < 64 ∧ Wlk E st w' n' ∧ w' n' = w n ∧ cst x a0 w' n' ≤ cst x a0 w n := by
  intro n
  induction n using Nat.strongRecOn with
  | _ n ih =>
    intro w h
    by_cases hn : n < 64
    · exact ⟨w, n, hn, h, rfl, Nat.le_refl _⟩
    · have hc : ∀ i, i ≤ 64 → w i < 64 := fun i hi => by
        cases i with
        | zero => rw [h.1]; exact hst
        | succ i => exact hE _ _ (h.2 i (by omega))
      obtain ⟨i, j, h1, h2, h3⟩ := php 64 w hc
      have h4 := Wlk_cut h h1 (by omega) h3
      obtain ⟨w', n', q1, q2, q3, q4⟩ := ih (n - (j - i)) (by omega) _ h4
      have e : cutw w i j (n - (j - i)) = w n := by
        unfold cutw
        by_cases h5 : n - (j - i) ≤ i
        · rw [if_pos h5, show n - (j - i) = i by omega, h3]; congr 1; omega
        · rw [if_neg h5]; congr 1; omega
      refine ⟨w', n', q1, q2, q3.trans e, Nat.le_trans q4 ?_⟩
      have h6 := (cst_cut hx a0 w h1 h3 (n - (j - i))).2 (by omega)
      rw [show n - (j - i) + (j - i) = n by omega] at h6
      exact h6
/-- what stands at cells comes from rows; nothing gets better: then it is the least cost (up to what stands for none) -/
def Snd (E : Nat → Nat → Prop) (st a0 : Nat) (x : Nat → Nat → Nat) (f : Nat → Nat) (inf : Nat) : Prop := ∀ c, c < 64 → f c < inf → ∃ w n, Wlk E st w n ∧ w n = c ∧ cst x a0 w n = f c
theorem least {E : Nat → Nat → Prop} {st a0 : Nat} {x : Nat → Nat → Nat} {f : Nat → Nat} {inf : Nat} (hx : Mono x) (hi : ∀ c, f c ≤ inf) (h0 : f st ≤ a0) (hcl : ∀ c k, E c k → f c < inf → f k ≤ x (f c) k) : ∀ (n : Nat) (w : Nat → Nat), Wlk E st w n → f (w n) ≤ cst x a0 w n
  | 0, w, h => by rw [h.1]; exact h0
  | n + 1, w, h => by
    have ih := least hx hi h0 hcl n w ⟨h.1, fun i hi => h.2 i (by omega)⟩
    show f (w (n + 1)) ≤ x (cst x a0 w n) (w (n + 1))
    by_cases h1 : f (w n) < inf
    · exact Nat.le_trans (hcl _ _ (h.2 n (by omega)) h1) (hx.1 _ _ _ ih)
    · have := hi (w (n + 1))
      have := hx.2 (cst x a0 w n) (w (n + 1))
      omega
/-- two such rows of numbers are alike -/
theorem alike {E : Nat → Nat → Prop} {st a0 : Nat} {x : Nat → Nat → Nat} {f g : Nat → Nat} {i1 i2 B : Nat} (hf : Snd E st a0 x f i1) (hg : Snd E st a0 x g i2)
    (lf : ∀ (n : Nat) (w : Nat → Nat), Wlk E st w n → f (w n) ≤ cst x a0 w n) (lg : ∀ (n : Nat) (w : Nat → Nat), Wlk E st w n → g (w n) ≤ cst x a0 w n) (hb : ∀ (n : Nat) (w : Nat → Nat), Wlk E st w n → ∃ w' n', Wlk E st w' n' ∧ w' n' = w n ∧ cst x a0 w' n' < B) (h1 : B ≤ i1) (h2 : B ≤ i2) (c : Nat) (hc : c < 64) :
    (f c < i1 ↔ g c < i2) ∧ (f c < i1 → f c = g c) := by
  have key : ∀ {f g : Nat → Nat} {i1 i2 : Nat}, Snd E st a0 x f i1 → (∀ (n : Nat) (w : Nat → Nat), Wlk E st w n → g (w n) ≤ cst x a0 w n) → B ≤ i2 → f c < i1 → g c ≤ f c ∧ g c < i2 := by
    intro f g i1 i2 hf lg h2 h
    obtain ⟨w, n, q1, q2, q3⟩ := hf c hc h
    have q4 := lg n w q1
    obtain ⟨w', n', r1, r2, r3⟩ := hb n w q1
    have q5 := lg n' w' r1
    rw [r2] at q5
    rw [q2] at q4 q5
    omega
  refine ⟨⟨fun h => (key hf lg h2 h).2, fun h => (key hg lf h1 h).2⟩, fun h => ?_⟩
  have a := key hf lg h2 h
  have b := key hg lf h1 a.2
  omega
