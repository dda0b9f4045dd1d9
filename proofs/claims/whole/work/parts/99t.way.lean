/-! Way: measured from the goal. -/
def opW (σ : Nat → Nat) (q k : Nat) : Prop := k = σ (160 + q) ∨ ld σ k + σ (78 + q) ≤ σ (96 + k)
def x1 (a _c : Nat) : Nat := a + 1
theorem x1_mono : Mono x1 := ⟨fun a b c h => by unfold x1; omega, fun a c => by unfold x1; omega⟩
/-- from an open k back to c, beside which it lies -/
def EW (σ : Nat → Nat) (ok : Nat → Prop) (k c : Nat) : Prop := k < 64 ∧ c < 64 ∧ inL σ c ∧ (∃ s, s < 4 ∧ bes σ c s = some k) ∧ ok k
def EC (σ : Nat → Nat) (ok : Nat → Prop) (k c : Nat) : Prop := EW σ ok k c ∧ ok c
theorem EC_of {σ : Nat → Nat} {ok : Nat → Prop} {gl : Nat} {w : Nat → Nat} {n : Nat} (h : Wlk (EW σ ok) gl w n) (ho : ok (w n)) : Wlk (EC σ ok) gl w n := by
  refine ⟨h.1, fun i hi => ⟨h.2 i hi, ?_⟩⟩
  by_cases e : i + 1 = n
  · rw [e]; exact ho
  · exact (h.2 (i + 1) (by omega)).2.2.2.2
theorem EW_of {σ : Nat → Nat} {ok : Nat → Prop} {gl : Nat} {w : Nat → Nat} {n : Nat} (h : Wlk (EC σ ok) gl w n) : Wlk (EW σ ok) gl w n := ⟨h.1, fun i hi => (h.2 i hi).1⟩
/-- at open cells it is the same whether the last one must be open -/
theorem LCo_EC {σ : Nat → Nat} {ok : Nat → Prop} {gl a0 : Nat} {x : Nat → Nat → Nat} {c : Nat} {o : Option Nat} (hc : ok c) (h : LCo (EW σ ok) gl a0 x c o) : LCo (EC σ ok) gl a0 x c o := by
  refine ⟨fun e n w hw => h.1 e n w (EW_of hw), fun v e => ?_⟩
  obtain ⟨⟨w, n, q1, q2, q3⟩, q4⟩ := h.2 v e
  exact ⟨⟨w, n, EC_of q1 (by rw [q2]; exact hc), q2, q3⟩, fun n w hw => q4 n w (EW_of hw)⟩
/-- in the midst of a round in which cells take from those beside them -/
def RP (σ : Nat → Nat) (ok : Nat → Prop) (gl inf : Nat) (f0 f : Nat → Nat) (c s : Nat) (b : Bool) : Prop := Snd (EW σ ok) gl 0 x1 f inf ∧ (∀ k, f k ≤ f0 k) ∧ (∀ e t k, (e < c ∨ (e = c ∧ t < s)) → t < 4 → inL σ e → bes σ e t = some k → ok k → f e ≤ f0 k + 1) ∧ (b = false → ∀ k, f k = f0 k) ∧ (b = true → ∃ k, k < 64 ∧ f k < f0 k)
theorem RP_0 {σ : Nat → Nat} {ok : Nat → Prop} {gl inf : Nat} {f : Nat → Nat} (h : Snd (EW σ ok) gl 0 x1 f inf) : RP σ ok gl inf f f 0 0 false := ⟨h, fun _ => Nat.le_refl _, fun e t k q => by omega, fun _ _ => rfl, fun q => (by cases q)⟩
theorem RP_skip {σ : Nat → Nat} {ok : Nat → Prop} {gl inf : Nat} {f0 f : Nat → Nat} {c s : Nat} {b : Bool} (h : RP σ ok gl inf f0 f c s b) (hk : ∀ k, bes σ c s = some k → ok k → f c ≤ f0 k + 1) : RP σ ok gl inf f0 f c (s + 1) b := by
  refine ⟨h.1, h.2.1, fun e t k q ht hi hb ho => ?_, h.2.2.2.1, h.2.2.2.2⟩
  by_cases q2 : e < c ∨ (e = c ∧ t < s)
  · exact h.2.2.1 e t k q2 ht hi hb ho
  · have e1 : e = c := by omega
    have e2 : t = s := by omega
    subst e1 e2
    exact hk k hb ho
theorem RP_take {σ : Nat → Nat} {ok : Nat → Prop} {gl inf : Nat} {f0 f : Nat → Nat} {c s : Nat} {b : Bool} (h : RP σ ok gl inf f0 f c s b) (hc : c < 64) (hin : inL σ c) (hs : s < 4) {k : Nat} (hk : k < 64) (hb : bes σ c s = some k) (ho : ok k) (hf : f k < inf) (hl : f k + 1 < f c) : RP σ ok gl inf f0 (su f c (f k + 1)) c (s + 1) true := by
  have hle : ∀ e, su f c (f k + 1) e ≤ f e := fun e => by
    unfold su
    by_cases q : e = c
    · rw [if_pos q, q]; omega
    · rw [if_neg q]; exact Nat.le_refl _
  have hk0 := h.2.1 k
  have hc0 := h.2.1 c
  refine ⟨Snd_ext (x := x1) h.1 hk hf ⟨hk, hc, hin, ⟨s, hs, hb⟩, ho⟩, fun e => Nat.le_trans (hle e) (h.2.1 e), fun e t k2 q ht hi hb2 ho2 => ?_, fun q => (by cases q), fun _ => ⟨c, hc, ?_⟩⟩
  · by_cases q2 : e < c ∨ (e = c ∧ t < s)
    · exact Nat.le_trans (hle e) (h.2.2.1 e t k2 q2 ht hi hb2 ho2)
    · have e1 : e = c := by omega
      have e2 : t = s := by omega
      subst e1 e2
      have e3 : k2 = k := by rw [hb] at hb2; cases hb2; rfl
      subst e3
      unfold su
      rw [if_pos rfl]
      omega
  · unfold su
    rw [if_pos rfl]
    omega
theorem RP_cell {σ : Nat → Nat} {ok : Nat → Prop} {gl inf : Nat} {f0 f : Nat → Nat} {c s : Nat} {b : Bool} (h : RP σ ok gl inf f0 f c s b) (hk : s = 4 ∨ ¬ inL σ c) : RP σ ok gl inf f0 f (c + 1) 0 b := by
  refine ⟨h.1, h.2.1, fun e t k q ht hi hb ho => ?_, h.2.2.2.1, h.2.2.2.2⟩
  by_cases q2 : e < c ∨ (e = c ∧ t < s)
  · exact h.2.2.1 e t k q2 ht hi hb ho
  · have e1 : e = c := by omega
    subst e1
    rcases hk with hk | hk
    · omega
    · exact absurd hi hk
/-- a round in which nothing got better: all rows are counted -/
theorem RP_no {σ : Nat → Nat} {ok : Nat → Prop} {gl inf : Nat} {f0 f : Nat → Nat} (hi : ∀ k, f0 k ≤ inf) (h0 : f0 gl = 0) (h : RP σ ok gl inf f0 f 64 0 false) (r : Nat) : RR (EW σ ok) gl 0 x1 f r := by
  intro n w _ hw
  have e := h.2.2.2.1 rfl
  refine least (inf := inf) x1_mono (fun c => by rw [e c]; exact hi c) (by rw [e gl, h0]; exact Nat.le_refl _) (fun k c q1 _ => ?_) n w hw
  obtain ⟨_, hc, hin, ⟨s, hs, hb⟩, ho⟩ := q1
  have := h.2.2.1 c s k (Or.inl hc) hs hin hb ho
  rw [e k]
  exact this
