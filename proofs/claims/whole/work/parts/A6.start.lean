/-! The start: what the constructors leave is the invariant's state. -/
def InC (M : Mm) : Prop := (M.1 3 0 = nI 5 ∧ M.1 3 1 = nI 5 ∧ M.1 3 2 = nI 0 ∧ M.1 3 3 = nI 2 ∧ M.1 3 4 = nI 1 ∧ M.1 3 5 = nI 5 ∧ M.1 3 6 = nI 3 ∧ M.1 3 7 = nI 6) ∧ (M.1 6 5 = nI 0 ∧ M.1 6 6 = nI 0 ∧ M.1 6 7 = nI 0 ∧ M.1 6 8 = nI 0 ∧ M.1 6 9 = nI 0 ∧ M.1 6 10 = nI 0) ∧ (∀ c, c < 64 → M.1 7 c = nI 5) ∧ (M.1 35 1 = nI 0 ∧ M.1 35 2 = nI 0 ∧ ∀ k, k < 8 → M.2.2 36 k = 37 + 5 * k) ∧ (M.1 0 1 = nI 0 ∧ M.1 0 14 = nI 0 ∧ M.1 0 15 = nI 0 ∧ M.1 0 16 = (-1 : Int32)) ∧ M.1 83 3 = nI 0 ∧ M.1 11 3 = nI 0 ∧ (M.2.2 28 0 = 88 ∧ M.2.2 28 1 = 101) ∧ (M.1 29 0 = nI 0 ∧ M.1 29 1 = nI 0)
def InM (M : Mm) : Prop := (∀ k, k < 359 → M.1 116 k = nI (lkS dl0 k)) ∧ (M.1 114 2 = nI 0 ∧ M.1 114 15 = nI 0 ∧ M.1 114 25 = nI 0 ∧ M.1 114 30 = (-1 : Int32) ∧ M.1 114 32 = nI 0 ∧ M.1 114 34 = nI 0 ∧ M.1 114 38 = nI 0) ∧ Rsv M ∧ (M.1 133 0 = nI 0 ∧ M.1 133 1 = nI 0)
theorem dl0_8 : (∀ k, k < 8 → lkS dl0 k = [5, 5, 0, 2, 1, 5, 3, 6].getD k 0) ∧ ∀ c, c < 64 → c % 8 < 5 → c / 8 < 5 → lkS dl0 (96 + c) = 5 := by decide +kernel
theorem JV_0 {M : Mm} (hC : InC M) (hM : InM M) (tx : Nat → Nat) : JV 0 0 tx M := by
  obtain ⟨⟨c0, c1, c2, c3, c4, c5, c6, c7⟩, ⟨s5, s6, s7, s8, s9, s10⟩, hic, ⟨hx, hn, hr⟩, ⟨t1, t14, t15, t16⟩, w3, sn0, i28, ⟨k0, k1⟩⟩ := hC
  obtain ⟨m1, ⟨g2, g15, g25, g30, g32, g34, g38⟩, rv, ⟨x0, x1⟩⟩ := hM
  have e2 : lkS dl0 2 = 0 := dl0_8.1 2 (by decide)
  have e0 : lkS dl0 0 = 5 := dl0_8.1 0 (by decide)
  have e1 : lkS dl0 1 = 5 := dl0_8.1 1 (by decide)
  have hS : StC M 6 (lkS dl0) := by
    refine ⟨by unfold Lay; decide, ⟨rfl, rfl, rfl, fun k hk => ?_, fun q hq => by rw [e2] at hq; exact absurd hq (Nat.not_lt_zero _)⟩, ⟨?_, ?_, ?_, ?_, ?_, ?_, by rw [e2]; omega⟩, fun c hc hin => ?_, fun q hq => by rw [e2] at hq; exact absurd hq (Nat.not_lt_zero _), fun q hq => by rw [e2] at hq; exact absurd hq (Nat.not_lt_zero _), fun q hq => by rw [e2] at hq; exact absurd hq (Nat.not_lt_zero _)⟩
    · rw [dl0_8.1 k hk]
      rcases (show k = 0 ∨ k = 1 ∨ k = 2 ∨ k = 3 ∨ k = 4 ∨ k = 5 ∨ k = 6 ∨ k = 7 by omega) with rfl | rfl | rfl | rfl | rfl | rfl | rfl | rfl
      · exact c0
      · exact c1
      · exact c2
      · exact c3
      · exact c4
      · exact c5
      · exact c6
      · exact c7
    · rw [lkS_0 dl0 (by decide) (by decide)]; exact s5
    · rw [lkS_0 dl0 (by decide) (by decide)]; exact s6
    · rw [lkS_0 dl0 (by decide) (by decide)]; exact s7
    · rw [lkS_0 dl0 (by decide) (by decide)]; exact s8
    · rw [lkS_0 dl0 (by decide) (by decide)]; exact s9
    · rw [lkS_0 dl0 (by decide) (by decide)]; exact s10
    · unfold inL at hin
      rw [e0, e1] at hin
      rw [dl0_8.2 c hc hin.1 hin.2]
      exact hic c hc
  have no : ∀ (P : Nat → Prop) (k : Nat), k < 0 → P k := fun P k hk => absurd hk (Nat.not_lt_zero _)
  refine ⟨lkS dl0, 0, fun _ => lkS dl0, fun _ => 0, fun _ => 0, 0, nI 0, -1, 0, fun _ => 0, false, fun _ => 0, 0, fun _ => 0, fun _ => 0, fun _ => 0, (false, fun _ => 0, fun _ => 0, 0, fun _ => 0, fun _ => 0, fun _ => 0), (false, fun _ => 0, fun _ => 0, 0, fun _ => 0, fun _ => 0, fun _ => 0), ?_, ?_, ?_⟩
  · refine ⟨⟨hS, ⟨0, by decide, hx, hn, by decide, hr, no _⟩, fun q hq => by rw [e2] at hq; exact absurd hq (Nat.not_lt_zero _)⟩, ⟨t1, no _⟩, t15, t16, ⟨w3, no _⟩, ⟨t14, fun h => (by cases h)⟩, ⟨sn0, by decide, no _⟩, i28, ⟨k0, fun h => (by cases h)⟩, ⟨k1, fun h => (by cases h)⟩⟩
  · refine ⟨fun k hk => m1 k (by omega), ⟨g25, no _⟩, fun q hq => by rw [e2] at hq; exact absurd hq (Nat.not_lt_zero _), ⟨g2, no _⟩, g15, ?_, ⟨Or.inr ⟨rfl, g30⟩, no _⟩, ⟨g38, fun h => (by cases h)⟩, ⟨by rw [m1 178 (by decide), lkS_hi _ (by decide)], no _⟩, rv, ⟨x0, fun h => (by cases h)⟩, ⟨x1, fun h => (by cases h)⟩, g34, no _⟩
    rw [g32]
    exact if_pos rfl
  · refine ⟨⟨lkS_inv DW_0, fun q hq => by rw [e2] at hq; exact absurd hq (Nat.not_lt_zero _), fun r hr => by rw [lkS_hi _ (by omega)]; exact Nat.le_refl _⟩, by decide, no _, by decide, by decide, ⟨by decide, no _, fun h => absurd h (Nat.lt_irrefl _)⟩, fun q hq => by rw [e2] at hq; exact absurd hq (Nat.not_lt_zero _), fun h => (by cases h), fun h => (by cases h)⟩
