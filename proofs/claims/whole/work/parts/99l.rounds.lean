/-! The least cost, by rounds over the cells. -/
/-- o is the least cost of a row of cells to c -/
def LCo (E : Nat → Nat → Prop) (st a0 : Nat) (x : Nat → Nat → Nat) (c : Nat) (o : Option Nat) : Prop := (o = none → ∀ n w, Wlk E st w n → ¬ w n = c) ∧ ∀ v, o = some v → (∃ w n, Wlk E st w n ∧ w n = c ∧ cst x a0 w n = v) ∧ ∀ n w, Wlk E st w n → w n = c → v ≤ cst x a0 w n
theorem LCo_u {E : Nat → Nat → Prop} {st a0 : Nat} {x : Nat → Nat → Nat} {c : Nat} {o p : Option Nat} (h : LCo E st a0 x c o) (k : LCo E st a0 x c p) : o = p := by
  cases o with
  | none =>
    cases p with
    | none => rfl
    | some v =>
      obtain ⟨⟨w, n, q1, q2, _⟩, _⟩ := k.2 v rfl
      exact absurd q2 (h.1 rfl n w q1)
  | some v =>
    obtain ⟨⟨w, n, q1, q2, q3⟩, q4⟩ := h.2 v rfl
    cases p with
    | none => exact absurd q2 (k.1 rfl n w q1)
    | some u =>
      obtain ⟨⟨w', n', r1, r2, r3⟩, r4⟩ := k.2 u rfl
      have a := q4 n' w' r1 r2
      have b := r4 n w q1 q2
      congr 1
      omega
def ouN (inf v : Nat) : Option Nat := if v < inf then some v else none
theorem LCo_of {E : Nat → Nat → Prop} {st a0 : Nat} {x : Nat → Nat → Nat} {f : Nat → Nat} {inf : Nat} (hx : Mono x) (hst : st < 64) (hE : ∀ c k, E c k → k < 64) (hs : Snd E st a0 x f inf) (hl : ∀ n w, n < 64 → Wlk E st w n → f (w n) ≤ cst x a0 w n) (hb : ∀ n w, n < 64 → Wlk E st w n → cst x a0 w n < inf) (c : Nat) (hc : c < 64) : LCo E st a0 x c (ouN inf (f c)) := by
  unfold ouN
  by_cases h : f c < inf
  · rw [if_pos h]
    refine ⟨fun q => (by cases q), fun v q => ?_⟩
    cases q
    refine ⟨hs c hc h, fun n w hw e => ?_⟩
    obtain ⟨w', n', q1, q2, q3, q4⟩ := Wlk_short hx a0 hst hE n w hw
    have := hl n' w' q1 q2
    rw [q3, e] at this
    omega
  · rw [if_neg h]
    refine ⟨fun _ n w hw e => ?_, fun v q => (by cases q)⟩
    obtain ⟨w', n', q1, q2, q3, q4⟩ := Wlk_short hx a0 hst hE n w hw
    have a := hl n' w' q1 q2
    have b := hb n' w' q1 q2
    rw [q3, e] at a
    omega
theorem cst_cg {x : Nat → Nat → Nat} {a0 : Nat} {w w' : Nat → Nat} : ∀ n, (∀ i, i ≤ n → w' i = w i) → cst x a0 w' n = cst x a0 w n
  | 0, _ => rfl
  | n + 1, h => by
    show x (cst x a0 w' n) (w' (n + 1)) = x (cst x a0 w n) (w (n + 1))
    rw [cst_cg n (fun i hi => h i (by omega)), h (n + 1) (Nat.le_refl _)]
theorem Snd_ext {E : Nat → Nat → Prop} {st a0 : Nat} {x : Nat → Nat → Nat} {f : Nat → Nat} {inf : Nat} (hs : Snd E st a0 x f inf) {c k : Nat} (hc : c < 64) (hf : f c < inf) (he : E c k) : Snd E st a0 x (su f k (x (f c) k)) inf := by
  intro e he64 h
  unfold su at h ⊢
  by_cases ek : e = k
  · rw [if_pos ek]
    obtain ⟨w, n, q1, q2, q3⟩ := hs c hc hf
    have hw : ∀ i, i ≤ n → (fun i => if i ≤ n then w i else k) i = w i := fun i hi => if_pos hi
    refine ⟨fun i => if i ≤ n then w i else k, n + 1, ⟨?_, fun i hi => ?_⟩, ?_, ?_⟩
    · rw [hw 0 (by omega)]; exact q1.1
    · rw [hw i (by omega)]
      by_cases h2 : i + 1 ≤ n
      · rw [hw (i + 1) h2]; exact q1.2 i (by omega)
      · show E (w i) (if i + 1 ≤ n then w (i + 1) else k)
        rw [if_neg h2, show i = n by omega, q2]; exact he
    · show (if n + 1 ≤ n then w (n + 1) else k) = e
      rw [if_neg (by omega), ek]
    · show x (cst x a0 _ n) (if n + 1 ≤ n then w (n + 1) else k) = _
      rw [cst_cg n hw, q3, if_neg (by omega)]
  · rw [if_neg ek] at h ⊢
    exact hs e he64 h
/-- beside, where one may go -/
def EB (σ : Nat → Nat) (ok : Nat → Prop) (c k : Nat) : Prop := c < 64 ∧ (∃ s, s < 4 ∧ bes σ c s = some k) ∧ ok k
/-- in the midst of a round: the cells ahead of c, and of c the sides ahead of s, are done -/
def RI (σ : Nat → Nat) (ok : Nat → Prop) (st a0 : Nat) (x : Nat → Nat → Nat) (inf : Nat) (f0 f : Nat → Nat) (c s : Nat) (b : Bool) : Prop := Snd (EB σ ok) st a0 x f inf ∧ (∀ k, f k ≤ f0 k) ∧ (∀ e t k, (e < c ∨ (e = c ∧ t < s)) → t < 4 → bes σ e t = some k → ok k → f0 e < inf → f k ≤ x (f0 e) k) ∧ (b = false → ∀ k, f k = f0 k) ∧ (b = true → ∃ k, k < 64 ∧ f k < f0 k)
theorem RI_0 {σ : Nat → Nat} {ok : Nat → Prop} {st a0 : Nat} {x : Nat → Nat → Nat} {inf : Nat} {f : Nat → Nat} (h : Snd (EB σ ok) st a0 x f inf) : RI σ ok st a0 x inf f f 0 0 false := ⟨h, fun _ => Nat.le_refl _, fun e t k q => by omega, fun _ _ => rfl, fun q => by cases q⟩
theorem RI_skip {σ : Nat → Nat} {ok : Nat → Prop} {st a0 : Nat} {x : Nat → Nat → Nat} {inf : Nat} {f0 f : Nat → Nat} {c s : Nat} {b : Bool} (h : RI σ ok st a0 x inf f0 f c s b) (hk : ∀ k, bes σ c s = some k → ok k → f0 c < inf → f k ≤ x (f0 c) k) : RI σ ok st a0 x inf f0 f c (s + 1) b := by
  refine ⟨h.1, h.2.1, fun e t k q ht hb ho hi => ?_, h.2.2.2.1, h.2.2.2.2⟩
  by_cases q2 : e < c ∨ (e = c ∧ t < s)
  · exact h.2.2.1 e t k q2 ht hb ho hi
  · have e1 : e = c := by omega
    have e2 : t = s := by omega
    subst e1 e2
    exact hk k hb ho hi
theorem RI_take {σ : Nat → Nat} {ok : Nat → Prop} {st a0 : Nat} {x : Nat → Nat → Nat} {inf : Nat} {f0 f : Nat → Nat} {c s : Nat} {b : Bool} (hx : Mono x) (h : RI σ ok st a0 x inf f0 f c s b) (hc : c < 64) (hs : s < 4) {k : Nat} (hk : k < 64) (hb : bes σ c s = some k) (ho : ok k) (hf : f c < inf) (hl : x (f c) k < f k) : RI σ ok st a0 x inf f0 (su f k (x (f c) k)) c (s + 1) true := by
  have hle : ∀ e, su f k (x (f c) k) e ≤ f e := fun e => by
    unfold su
    by_cases q : e = k
    · rw [if_pos q, q]; omega
    · rw [if_neg q]; exact Nat.le_refl _
  refine ⟨Snd_ext h.1 hc hf ⟨hc, ⟨s, hs, hb⟩, ho⟩, fun e => Nat.le_trans (hle e) (h.2.1 e), fun e t k2 q ht hb2 ho2 hi => ?_, fun q => (by cases q), fun _ => ⟨k, hk, ?_⟩⟩
  · by_cases q2 : e < c ∨ (e = c ∧ t < s)
    · exact Nat.le_trans (hle k2) (h.2.2.1 e t k2 q2 ht hb2 ho2 hi)
    · have e1 : e = c := by omega
      have e2 : t = s := by omega
      subst e1 e2
      have e3 : k2 = k := by rw [hb] at hb2; cases hb2; rfl
      subst e3
      unfold su
      rw [if_pos rfl]
      exact hx.1 _ _ _ (h.2.1 e)
  · have := h.2.1 k
    unfold su
    rw [if_pos rfl]
    omega
theorem RI_cell {σ : Nat → Nat} {ok : Nat → Prop} {st a0 : Nat} {x : Nat → Nat → Nat} {inf : Nat} {f0 f : Nat → Nat} {c s : Nat} {b : Bool} (h : RI σ ok st a0 x inf f0 f c s b) (hk : s = 4 ∨ ¬ f c < inf) : RI σ ok st a0 x inf f0 f (c + 1) 0 b := by
  refine ⟨h.1, h.2.1, fun e t k q ht hb ho hi => ?_, h.2.2.2.1, h.2.2.2.2⟩
  by_cases q2 : e < c ∨ (e = c ∧ t < s)
  · exact h.2.2.1 e t k q2 ht hb ho hi
  · have e1 : e = c := by omega
    subst e1
    have := h.2.1 e
    omega
theorem RI_end {σ : Nat → Nat} {ok : Nat → Prop} {st a0 : Nat} {x : Nat → Nat → Nat} {inf : Nat} {f0 f : Nat → Nat} {b : Bool} (h : RI σ ok st a0 x inf f0 f 64 0 b) : ∀ c k, EB σ ok c k → f0 c < inf → f k ≤ x (f0 c) k := by
  rintro c k ⟨hc, ⟨s, hs, hb⟩, ho⟩ hi
  exact h.2.2.1 c s k (Or.inl hc) hs hb ho hi
/-- rows of at most r steps are counted -/
def RR (E : Nat → Nat → Prop) (st a0 : Nat) (x : Nat → Nat → Nat) (f : Nat → Nat) (r : Nat) : Prop := ∀ n w, n ≤ r → Wlk E st w n → f (w n) ≤ cst x a0 w n
theorem RR_0 {E : Nat → Nat → Prop} {st a0 : Nat} {x : Nat → Nat → Nat} {f : Nat → Nat} (h : f st ≤ a0) : RR E st a0 x f 0 := fun n w hn hw => by
  have : n = 0 := by omega
  subst this
  rw [hw.1]
  exact h
theorem RR_up {σ : Nat → Nat} {ok : Nat → Prop} {st a0 : Nat} {x : Nat → Nat → Nat} {inf : Nat} {f0 f : Nat → Nat} {b : Bool} {r : Nat} (hx : Mono x) (hi : ∀ k, f0 k ≤ inf) (h : RI σ ok st a0 x inf f0 f 64 0 b) (hr : RR (EB σ ok) st a0 x f0 r) : RR (EB σ ok) st a0 x f (r + 1) := by
  intro n w hn hw
  cases n with
  | zero => exact Nat.le_trans (h.2.1 _) (hr 0 w (by omega) hw)
  | succ m =>
    have h1 := hr m w (by omega) ⟨hw.1, fun i hi => hw.2 i (by omega)⟩
    show f (w (m + 1)) ≤ x (cst x a0 w m) (w (m + 1))
    by_cases h2 : f0 (w m) < inf
    · exact Nat.le_trans (RI_end h _ _ (hw.2 m (by omega)) h2) (hx.1 _ _ _ h1)
    · have a := h.2.1 (w (m + 1))
      have b := hi (w (m + 1))
      have c := hx.2 (cst x a0 w m) (w (m + 1))
      omega
/-- a round in which nothing got better: all rows are counted -/
theorem RR_no {σ : Nat → Nat} {ok : Nat → Prop} {st a0 : Nat} {x : Nat → Nat → Nat} {inf : Nat} {f0 f : Nat → Nat} (hx : Mono x) (hi : ∀ k, f0 k ≤ inf) (h0 : f0 st ≤ a0) (h : RI σ ok st a0 x inf f0 f 64 0 false) (r : Nat) : RR (EB σ ok) st a0 x f r := by
  intro n w _ hw
  have e := h.2.2.2.1 rfl
  refine least (inf := inf) hx (fun c => by rw [e c]; exact hi c) (by rw [e st]; exact h0) (fun c k q1 q2 => ?_) n w hw
  have := RI_end h c k q1 (by rw [← e c]; exact q2)
  rw [e c]
  exact this
/-- the sum -/
def smN (f : Nat → Nat) : Nat → Nat
  | 0 => 0
  | n + 1 => smN f n + f n
theorem smN_le {f g : Nat → Nat} (h : ∀ k, f k ≤ g k) : ∀ n, smN f n ≤ smN g n
  | 0 => Nat.le_refl _
  | n + 1 => Nat.add_le_add (smN_le h n) (h n)
theorem smN_lt {f g : Nat → Nat} (h : ∀ k, f k ≤ g k) {k : Nat} (hk : f k < g k) : ∀ n, k < n → smN f n < smN g n
  | 0, q => absurd q (Nat.not_lt_zero _)
  | n + 1, q => by
    have a := smN_le h n
    have b := h n
    unfold smN
    by_cases e : k = n
    · subst e; omega
    · have := smN_lt h hk n (by omega); omega
/-- bows: what a step costs -/
def okW (σ : Nat → Nat) (q st k : Nat) : Prop := ld σ k + σ (78 + q) ≤ 9 ∧ ¬ k = st
def xB (σ : Nat → Nat) (q : Nat) (a k : Nat) : Nat := a + (ld σ k + σ (78 + q) - σ (96 + k))
theorem xB_mono (σ : Nat → Nat) (q : Nat) : Mono (xB σ q) := ⟨fun a b c h => by unfold xB; omega, fun a c => by unfold xB; omega⟩
theorem EB_lt {σ : Nat → Nat} (hB : Bd σ) {ok : Nat → Prop} : ∀ c k, EB σ ok c k → k < 64 := by
  rintro c k ⟨hc, ⟨s, hs, hb⟩, _⟩
  exact bes_lt hB hc hb
theorem xB_bd {σ : Nat → Nat} {q st : Nat} {w : Nat → Nat} : ∀ n, Wlk (EB σ (okW σ q st)) st w n → cst (xB σ q) 0 w n ≤ 9 * n
  | 0, _ => Nat.le_refl _
  | n + 1, h => by
    have ih := xB_bd n ⟨h.1, fun i hi => h.2 i (by omega)⟩
    obtain ⟨_, _, ho, _⟩ := h.2 n (by omega)
    show cst (xB σ q) 0 w n + (ld σ (w (n + 1)) + σ (78 + q) - σ (96 + w (n + 1))) ≤ _
    omega
def f0B (st inf : Nat) : Nat → Nat := fun k => if k = st then 0 else inf
theorem f0B_snd {E : Nat → Nat → Prop} {st inf : Nat} {x : Nat → Nat → Nat} (hst : st < 64) : Snd E st 0 x (f0B st inf) inf := by
  intro c hc h
  unfold f0B at h
  by_cases e : c = st
  · exact ⟨fun _ => st, 0, ⟨rfl, fun i hi => absurd hi (Nat.not_lt_zero _)⟩, e.symm, by unfold f0B; rw [if_pos e]; rfl⟩
  · rw [if_neg e] at h; exact absurd h (Nat.lt_irrefl _)
theorem f0B_le (st inf k : Nat) : f0B st inf k ≤ inf := by unfold f0B; split <;> omega
