/-! Way: steps back and forth; the first side that comes nearer; the queue. -/
theorem bes_sy {σ : Nat → Nat} (hB : Bd σ) {c s k : Nat} (hin : inL σ c) (h : bes σ c s = some k) : ∃ t, t < 4 ∧ bes σ k t = some c := by
  have h0 := hB.2.1
  have h1 := hB.2.2.2.1
  have i0 := hin.1
  have i1 := hin.2
  unfold bes at h
  split at h
  · split at h
    · cases h
      refine ⟨2, by decide, ?_⟩
      unfold bes
      rw [if_neg (show ¬ (2 : Nat) = 0 by decide), if_neg (show ¬ (2 : Nat) = 1 by decide), if_pos rfl, if_pos (by omega), show c + 1 - 1 = c by omega]
    · cases h
  · split at h
    · split at h
      · cases h
        refine ⟨3, by decide, ?_⟩
        unfold bes
        rw [if_neg (show ¬ (3 : Nat) = 0 by decide), if_neg (show ¬ (3 : Nat) = 1 by decide), if_neg (show ¬ (3 : Nat) = 2 by decide), if_pos (by omega), show c + 8 - 8 = c by omega]
      · cases h
    · split at h
      · split at h
        · cases h
          refine ⟨0, by decide, ?_⟩
          unfold bes
          rw [if_pos rfl, if_pos (by omega), show c - 1 + 1 = c by omega]
        · cases h
      · split at h
        · cases h
          refine ⟨1, by decide, ?_⟩
          unfold bes
          rw [if_neg (show ¬ (1 : Nat) = 0 by decide), if_pos rfl, if_pos (by omega), show c - 8 + 8 = c by omega]
        · cases h
theorem ldX_on {σ : Nat → Nat} {c p : Nat} (hp : onC σ c p = true) (hp6 : p < 6) : ∀ n, n ≤ 6 → ldX σ c (nI p) n + (if p < n then σ (78 + p) else 0) = ldN σ c n
  | 0, _ => by unfold ldX ldN; rw [if_neg (by omega)]
  | n + 1, hn => by
    have ih := ldX_on hp hp6 n (by omega)
    unfold ldX ldN
    by_cases e : n = p
    · have h1 : ¬ (onC σ c n = true ∧ ¬ nI n = nI p) := fun h => h.2 (by rw [e])
      have ho : onC σ c n = true := by rw [e]; exact hp
      rw [if_neg h1, if_pos (show p < n + 1 by omega), if_pos ho]
      rw [if_neg (show ¬ p < n by omega)] at ih
      rw [← e]
      rw [← e] at ih
      omega
    · have hne : ¬ nI n = nI p := by rw [nI_eq (by omega) (by omega)]; exact e
      have h2 : (if p < n + 1 then σ (78 + p) else 0) = (if p < n then σ (78 + p) else 0) := by
        by_cases l : p < n
        · rw [if_pos l, if_pos (by omega)]
        · rw [if_neg l, if_neg (by omega)]
      rw [h2]
      by_cases ho : onC σ c n = true
      · have h1 : onC σ c n = true ∧ ¬ nI n = nI p := ⟨ho, hne⟩
        rw [if_pos h1, if_pos ho]
        omega
      · have h1 : ¬ (onC σ c n = true ∧ ¬ nI n = nI p) := fun h => ho h.1
        rw [if_neg h1, if_neg ho]
        omega
/-- the class's open cells are the reference's -/
theorem opX {σ : Nat → Nat} (hI : Inv σ) {q k : Nat} (hq : q < σ 2) (hf : ¬ fal σ q = true) : ldX σ k (nI q) (σ 2) + σ (78 + q) ≤ σ (96 + k) ↔ opW σ q k := by
  have b6 := Bd_2 hI.1
  unfold opW
  by_cases e : k = σ (160 + q)
  · have h1 := ldX_on (onC_iff.mpr ⟨e.symm, hf⟩) (by omega) (σ 2) b6
    rw [if_pos hq] at h1
    have h2 := hI.2.2.2 q hq hf
    rw [← e] at h2
    unfold ld at h2
    exact ⟨fun _ => Or.inl e, fun _ => by omega⟩
  · have h1 := ldX_off (σ := σ) (c := k) (p := q) (fun h => e (onC_iff.mp h).1.symm) (by omega) (σ 2) b6
    rw [h1]
    unfold ld
    exact ⟨fun h => Or.inr h, fun h => h.resolve_left e⟩
theorem Wlk_ext {E : Nat → Nat → Prop} {st : Nat} {w : Nat → Nat} {n k : Nat} (h : Wlk E st w n) (he : E (w n) k) : ∃ w', Wlk E st w' (n + 1) ∧ w' (n + 1) = k := by
  refine ⟨fun i => if i ≤ n then w i else k, ⟨?_, fun i hi => ?_⟩, ?_⟩
  · show (if 0 ≤ n then w 0 else k) = st
    rw [if_pos (Nat.zero_le _)]; exact h.1
  · show E (if i ≤ n then w i else k) (if i + 1 ≤ n then w (i + 1) else k)
    rw [if_pos (show i ≤ n by omega)]
    by_cases c : i + 1 ≤ n
    · rw [if_pos c]; exact h.2 i (by omega)
    · rw [if_neg c, show i = n by omega]; exact he
  · show (if n + 1 ≤ n then w (n + 1) else k) = k
    rw [if_neg (by omega)]
theorem way_ex {σ : Nat → Nat} {q gl c m : Nat} (h : DWW σ q gl c (m + 1)) : c < 64 ∧ inL σ c ∧ ∃ s, s < 4 ∧ ∃ k, bes σ c s = some k ∧ k < 64 ∧ DWW σ q gl k m := by
  obtain ⟨ho, h⟩ := h
  obtain ⟨⟨w, n, q1, q2, q3⟩, q4⟩ := h.2 (m + 1) rfl
  rw [cst_x1] at q3
  subst q3
  obtain ⟨⟨k64, c64, hin, ⟨s, hs, hb⟩, hok⟩, hoc⟩ := q1.2 m (by omega)
  have he : EC σ (opW σ q) (w m) c := by have := q1.2 m (by omega); rw [q2] at this; exact this
  rw [q2] at hin hb c64
  refine ⟨c64, hin, s, hs, w m, hb, k64, hok, fun e => (by cases e), fun v e => ?_⟩
  cases e
  refine ⟨⟨w, m, ⟨q1.1, fun i hi => q1.2 i (by omega)⟩, rfl, cst_x1 w m⟩, fun n2 w2 h1 h2 => ?_⟩
  rw [cst_x1]
  obtain ⟨w', r1, r2⟩ := Wlk_ext (k := c) h1 (by rw [h2]; exact he)
  have a := q4 (n2 + 1) w' r1 r2
  rw [cst_x1] at a
  omega
theorem way_lo {σ : Nat → Nat} {q gl c m s k v : Nat} (hc : DWW σ q gl c (m + 1)) (c64 : c < 64) (hin : inL σ c) (hs : s < 4) (hb : bes σ c s = some k) (k64 : k < 64) (hk : DWW σ q gl k v) : m ≤ v := by
  obtain ⟨ho, h⟩ := hc
  obtain ⟨ho2, h2⟩ := hk
  obtain ⟨⟨w, n, q1, q2, q3⟩, -⟩ := h2.2 v rfl
  rw [cst_x1] at q3
  obtain ⟨w', r1, r2⟩ := Wlk_ext (k := c) q1 (by rw [q2]; exact ⟨⟨k64, c64, hin, ⟨s, hs, hb⟩, ho2⟩, ho⟩)
  have a := (h.2 (m + 1) rfl).2 _ w' r1 r2
  rw [cst_x1] at a
  omega
theorem DWW_64 {σ : Nat → Nat} {q gl c n : Nat} (hgl : gl < 64) (h : DWW σ q gl c n) : n < 64 := by
  obtain ⟨⟨w, m, q1, q2, q3⟩, q4⟩ := h.2.2 n rfl
  obtain ⟨w', n', r1, r2, r3, r4⟩ := Wlk_short x1_mono 0 hgl (fun c k h => h.1.2.1) m w q1
  have a := q4 n' w' r2 (by rw [r3, q2])
  rw [cst_x1] at a
  omega
theorem lst4 {P : Nat → Prop} : ∀ s, P s → ∃ s', s' ≤ s ∧ P s' ∧ ∀ t, t < s' → ¬ P t := by
  intro s
  induction s using Nat.strongRecOn with
  | _ s ih =>
    intro h
    by_cases c : ∃ t, t < s ∧ P t
    · obtain ⟨t, h1, h2⟩ := c
      obtain ⟨s', q1, q2, q3⟩ := ih t h1 h2
      exact ⟨s', by omega, q2, q3⟩
    · exact ⟨s, Nat.le_refl _, h, fun t ht hp => c ⟨t, ht, hp⟩⟩
/-- the first side that comes nearer -/
theorem way_first {σ : Nat → Nat} {q gl c m : Nat} (h : DWW σ q gl c (m + 1)) : c < 64 ∧ inL σ c ∧ ∃ s, s < 4 ∧ ∃ k, bes σ c s = some k ∧ k < 64 ∧ DWW σ q gl k m ∧ ∀ t, t < s → ∀ k2, bes σ c t = some k2 → ¬ DWW σ q gl k2 m := by
  obtain ⟨a, b, s, hs, k, hb, hk, hd⟩ := way_ex h
  obtain ⟨s', q1, ⟨k', q2, q3, q4⟩, q5⟩ := lst4 (P := fun s => ∃ k, bes σ c s = some k ∧ k < 64 ∧ DWW σ q gl k m) s ⟨k, hb, hk, hd⟩
  refine ⟨a, b, s', by omega, k', q2, q3, q4, fun t ht k2 hb2 hd2 => q5 t ht ⟨k2, hb2, ?_, hd2⟩⟩
  by_cases hm : m = 0
  · subst hm
    obtain ⟨⟨w, n, r1, r2, r3⟩, -⟩ := hd2.2.2 0 rfl
    obtain ⟨⟨w', n', s1, s2, s3⟩, -⟩ := q4.2.2 0 rfl
    rw [cst_x1] at r3 s3
    subst r3 s3
    rw [← r2, r1.1, ← s1.1, s2]
    exact q3
  · obtain ⟨m', rfl⟩ : ∃ m', m = m' + 1 := ⟨m - 1, by omega⟩
    exact (way_ex hd2).1
/-- what stands at open cells is how far they are -/
def HFW (σ : Nat → Nat) (q gl inf : Nat) (f : Nat → Nat) : Prop := ∀ c, c < 64 → opW σ q c → LCo (EC σ (opW σ q)) gl 0 x1 c (ouN inf (f c))
theorem HF_D {σ : Nat → Nat} {q gl inf : Nat} {f : Nat → Nat} (hF : HFW σ q gl inf f) {c m : Nat} (hc : c < 64) (ho : opW σ q c) (hm : m < inf) : DWW σ q gl c m ↔ f c = m := by
  have h := hF c hc ho
  constructor
  · intro d
    have e := LCo_u d.2 h
    unfold ouN at e
    split at e
    · cases e; rfl
    · cases e
  · intro e
    refine ⟨ho, ?_⟩
    unfold ouN at h
    rw [if_pos (by omega), e] at h
    exact h
/-- what way answers -/
def WyO (σ : Nat → Nat) (q gl : Nat) (o : Option Nat) : Prop := (¬ opW σ q gl → o = none) ∧ (opW σ q gl → LCo (EC σ (opW σ q)) gl 0 x1 (σ (160 + q)) o)
theorem WyO_u {σ : Nat → Nat} {q gl : Nat} {o p : Option Nat} (h : WyO σ q gl o) (k : WyO σ q gl p) : o = p := by
  by_cases c : opW σ q gl
  · exact LCo_u (h.2 c) (k.2 c)
  · rw [h.1 c, k.1 c]
def SdP (σ : Nat → Nat) (q gl n i : Nat) (u w : Nat → Nat) : Prop := w 0 = σ (160 + q) ∧ (∀ j, j < i → u j < 4 ∧ bes σ (w j) (u j) = some (w (j + 1)) ∧ DWW σ q gl (w (j + 1)) (n - 1 - j) ∧ ∀ s, s < u j → ∀ k, bes σ (w j) s = some k → ¬ DWW σ q gl k (n - 1 - j)) ∧ DWW σ q gl (w i) (n - i) ∧ w i < 64
theorem SdP_0 {σ : Nat → Nat} {q gl n : Nat} (h : DWW σ q gl (σ (160 + q)) n) (h64 : σ (160 + q) < 64) : SdP σ q gl n 0 (fun _ => 0) (fun _ => σ (160 + q)) := ⟨rfl, fun j hj => absurd hj (Nat.not_lt_zero _), h, h64⟩
theorem SdP_up {σ : Nat → Nat} {q gl n i : Nat} {u w : Nat → Nat} (h : SdP σ q gl n i u w) {s k : Nat} (hs : s < 4) (hb : bes σ (w i) s = some k) (hk : k < 64) (hd : DWW σ q gl k (n - 1 - i)) (hm : ∀ t, t < s → ∀ k2, bes σ (w i) t = some k2 → ¬ DWW σ q gl k2 (n - 1 - i)) : SdP σ q gl n (i + 1) (su u i s) (su w (i + 1) k) := by
  have wo : ∀ j, j ≤ i → su w (i + 1) k j = w j := fun j hj => by unfold su; rw [if_neg (by omega)]
  have wn : su w (i + 1) k (i + 1) = k := by unfold su; rw [if_pos rfl]
  have uo : ∀ j, j < i → su u i s j = u j := fun j hj => by unfold su; rw [if_neg (by omega)]
  have un : su u i s i = s := by unfold su; rw [if_pos rfl]
  refine ⟨by rw [wo 0 (Nat.zero_le _)]; exact h.1, fun j hj => ?_, ?_, by rw [wn]; exact hk⟩
  · by_cases e : j = i
    · subst e
      rw [un, wo j (Nat.le_refl _), wn]
      exact ⟨hs, hb, hd, hm⟩
    · rw [uo j (by omega), wo j (by omega), wo (j + 1) (by omega)]
      exact h.2.1 j (by omega)
  · rw [wn, show n - (i + 1) = n - 1 - i by omega]
    exact hd
theorem SdP_end {σ : Nat → Nat} {q gl n : Nat} {u w : Nat → Nat} (h : SdP σ q gl n n u w) : SdW σ q gl n u w := ⟨h.1, h.2.1⟩
def PWy (M0 : Mm) (σ : Nat → Nat) (q gl : Nat) (K L : List Nat) (po sl pr : Nat) (G : Nat → Int32) : Po := fun r0 M' => ∃ o, WyO σ q gl o ∧ r0 = some (.int (oI o)) ∧ (o = none → Fr K M0 M' ∧ M'.1 po = G) ∧ ∀ n, o = some n → n < 64 ∧ Fr L M0 M' ∧ M'.1 po = upd G sl (nI n) ∧ ∃ u w, SdW σ q gl n u w ∧ ∀ e, e < n → M'.1 pr e = nI (u e)
/-- the queue: the cells ahead of k, and of the k-th the sides ahead of s, are done -/
def BQ (σ : Nat → Nat) (q gl k nF s : Nat) (qu f : Nat → Nat) : Prop := (1 ≤ nF ∧ nF ≤ 64 ∧ k ≤ nF) ∧ (∀ i, i < nF → qu i < 64 ∧ inL σ (qu i) ∧ opW σ q (qu i) ∧ f (qu i) ≤ i) ∧ (∀ i j, i < j → j < nF → ¬ qu i = qu j) ∧ (∀ c, c < 64 → f c < 1000 → ∃ i, i < nF ∧ qu i = c) ∧ (∀ c, f c ≤ 1000) ∧ (∀ i j, i ≤ j → j < nF → f (qu i) ≤ f (qu j)) ∧ (∀ j, j < nF → k < nF → f (qu j) ≤ f (qu k) + 1) ∧ Snd (EC σ (opW σ q)) gl 0 x1 f 1000 ∧ f gl = 0 ∧ (∀ i t b, (i < k ∨ (i = k ∧ t < s)) → i < nF → t < 4 → bes σ (qu i) t = some b → opW σ q b → f b ≤ f (qu i) + 1)
theorem BQ_0 {σ : Nat → Nat} {q gl : Nat} (hgl : gl < 64) (hin : inL σ gl) (ho : opW σ q gl) : BQ σ q gl 0 1 0 (fun _ => gl) (f0B gl 1000) := by
  have e0 : f0B gl 1000 gl = 0 := by unfold f0B; rw [if_pos rfl]
  refine ⟨⟨by omega, by omega, by omega⟩, fun i hi => ⟨hgl, hin, ho, by rw [e0]; exact Nat.zero_le _⟩, fun i j h1 h2 => (by omega), fun c hc h => ⟨0, by omega, ?_⟩, fun c => f0B_le _ _ c, fun i j h1 h2 => Nat.le_refl _, fun j h1 h2 => Nat.le_succ _, f0B_snd hgl, e0, fun i t b h => (by omega)⟩
  unfold f0B at h
  by_cases e : c = gl
  · exact e.symm
  · rw [if_neg e] at h; omega
theorem BQ_have {σ : Nat → Nat} {q gl k nF s : Nat} {qu f : Nat → Nat} (h : BQ σ q gl k nF s qu f) (hk : k < nF) {b : Nat} (hb : b < 64) (hf : f b < 1000) : f b ≤ f (qu k) + 1 := by
  obtain ⟨i, h1, h2⟩ := h.2.2.2.1 b hb hf
  rw [← h2]
  exact h.2.2.2.2.2.2.1 i h1 hk
theorem BQ_full {σ : Nat → Nat} {q gl k s : Nat} {qu f : Nat → Nat} (h : BQ σ q gl k 64 s qu f) {b : Nat} (hb : b < 64) : f b < 1000 := by
  obtain ⟨i, j, h1, h2, h3⟩ := php 64 (fun i => if i < 64 then qu i else b) (fun i hi => by
    show (if i < 64 then qu i else b) < 64
    by_cases c : i < 64
    · rw [if_pos c]; exact (h.2.1 i c).1
    · rw [if_neg c]; exact hb)
  have h4 : (if i < 64 then qu i else b) = (if j < 64 then qu j else b) := h3
  rw [if_pos (show i < 64 by omega)] at h4
  by_cases c : j < 64
  · rw [if_pos c] at h4
    exact absurd h4 (h.2.2.1 i j h1 c)
  · rw [if_neg c] at h4
    have := (h.2.1 i (by omega)).2.2.2
    rw [← h4]
    omega
theorem BQ_skip {σ : Nat → Nat} {q gl k nF s : Nat} {qu f : Nat → Nat} (h : BQ σ q gl k nF s qu f) (hk : ∀ b, bes σ (qu k) s = some b → opW σ q b → f b ≤ f (qu k) + 1) : BQ σ q gl k nF (s + 1) qu f := by
  refine ⟨h.1, h.2.1, h.2.2.1, h.2.2.2.1, h.2.2.2.2.1, h.2.2.2.2.2.1, h.2.2.2.2.2.2.1, h.2.2.2.2.2.2.2.1, h.2.2.2.2.2.2.2.2.1, fun i t b h1 h2 h3 h4 h5 => ?_⟩
  by_cases c : i < k ∨ (i = k ∧ t < s)
  · exact h.2.2.2.2.2.2.2.2.2 i t b c h2 h3 h4 h5
  · have e1 : i = k := by omega
    have e2 : t = s := by omega
    subst e1 e2
    exact hk b h4 h5
theorem BQ_next {σ : Nat → Nat} {q gl k nF : Nat} {qu f : Nat → Nat} (h : BQ σ q gl k nF 4 qu f) (hk : k < nF) : BQ σ q gl (k + 1) nF 0 qu f := by
  refine ⟨⟨h.1.1, h.1.2.1, hk⟩, h.2.1, h.2.2.1, h.2.2.2.1, h.2.2.2.2.1, h.2.2.2.2.2.1, fun j h1 h2 => ?_, h.2.2.2.2.2.2.2.1, h.2.2.2.2.2.2.2.2.1, fun i t b h1 h2 h3 h4 h5 => h.2.2.2.2.2.2.2.2.2 i t b (by omega) h2 h3 h4 h5⟩
  have a := h.2.2.2.2.2.2.1 j h1 hk
  have b := h.2.2.2.2.2.1 k (k + 1) (by omega) h2
  omega
theorem BQ_take {σ : Nat → Nat} (hB : Bd σ) {q gl k nF s : Nat} {qu f : Nat → Nat} (h : BQ σ q gl k nF s qu f) (hk : k < nF) (hF : nF < 64) (hgl : gl < 64) {b : Nat} (hb : bes σ (qu k) s = some b) (ho : opW σ q b) (hf : ¬ f b < 1000) : BQ σ q gl k (nF + 1) (s + 1) (su qu nF b) (su f b (f (qu k) + 1)) := by
  obtain ⟨⟨a1, a2, a3⟩, c1, c2, c3, c4, c5, c6, c7, c8, c9⟩ := h
  obtain ⟨k1, k2, k3, k4⟩ := c1 k hk
  have b64 := bes_lt hB k1 hb
  have bi := bes_in hB k1 hb
  have b1 : f b = 1000 := by have := c4 b; omega
  have qo : ∀ i, i < nF → su qu nF b i = qu i := fun i hi => by unfold su; rw [if_neg (by omega)]
  have qn : su qu nF b nF = b := by unfold su; rw [if_pos rfl]
  have ne : ∀ i, i < nF → ¬ qu i = b := fun i hi e => by have := (c1 i hi).2.2.2; rw [e] at this; omega
  have fo : ∀ c, ¬ c = b → su f b (f (qu k) + 1) c = f c := fun c hc => by unfold su; rw [if_neg hc]
  have fn : su f b (f (qu k) + 1) b = f (qu k) + 1 := by unfold su; rw [if_pos rfl]
  have fl : ∀ c, su f b (f (qu k) + 1) c ≤ f c := fun c => by
    by_cases e : c = b
    · rw [e, fn]; omega
    · rw [fo c e]; exact Nat.le_refl _
  refine ⟨⟨by omega, by omega, by omega⟩, fun i hi => ?_, fun i j h1 h2 => ?_, fun c hc h => ?_, fun c => Nat.le_trans (fl c) (c4 c), fun i j h1 h2 => ?_, fun j h1 h2 => ?_, ?_, ?_, fun i t d h1 h2 h3 h4 h5 => ?_⟩
  · by_cases e : i = nF
    · rw [e, qn, fn]; exact ⟨b64, bi, ho, by omega⟩
    · rw [qo i (by omega), fo _ (ne i (by omega))]; exact c1 i (by omega)
  · rw [qo i (by omega)]
    by_cases e : j = nF
    · rw [e, qn]; exact ne i (by omega)
    · rw [qo j (by omega)]; exact c2 i j h1 (by omega)
  · by_cases e : c = b
    · exact ⟨nF, by omega, by rw [qn, e]⟩
    · rw [fo c e] at h
      obtain ⟨i, h1, h2⟩ := c3 c hc h
      exact ⟨i, by omega, by rw [qo i h1, h2]⟩
  · by_cases e : j = nF
    · by_cases e2 : i = nF
      · rw [e, e2]; exact Nat.le_refl _
      · rw [e, qn, fn, qo i (by omega), fo _ (ne i (by omega))]; exact c6 i (by omega) hk
    · rw [qo i (by omega), qo j (by omega), fo _ (ne i (by omega)), fo _ (ne j (by omega))]; exact c5 i j h1 (by omega)
  · rw [qo k hk, fo _ (ne k hk)]
    by_cases e : j = nF
    · rw [e, qn, fn]; exact Nat.le_refl _
    · rw [qo j (by omega), fo _ (ne j (by omega))]; exact c6 j (by omega) hk
  · obtain ⟨t, t1, t2⟩ := bes_sy hB k2 hb
    exact Snd_ext (x := x1) c7 k1 (by omega) ⟨⟨k1, b64, bi, ⟨t, t1, t2⟩, k3⟩, ho⟩
  · rw [fo gl (fun e => by rw [e] at c8; omega)]; exact c8
  · have hi : i < nF := by omega
    rw [qo i hi] at h4 ⊢
    rw [fo _ (ne i hi)]
    by_cases c : i < k ∨ (i = k ∧ t < s)
    · exact Nat.le_trans (fl d) (c9 i t d c hi h3 h4 h5)
    · have e1 : i = k := by omega
      have e2 : t = s := by omega
      subst e1 e2
      rw [hb] at h4
      cases h4
      rw [fn]
      exact Nat.le_refl _
theorem BQ_end {σ : Nat → Nat} (hB : Bd σ) {q gl k nF s : Nat} {qu f : Nat → Nat} (h : BQ σ q gl k nF s qu f) (hk : ¬ k < nF) (hgl : gl < 64) : HFW σ q gl 1000 f ∧ ∀ c, c < 64 → f c < 1000 → opW σ q c ∧ inL σ c := by
  obtain ⟨⟨a1, a2, a3⟩, c1, c2, c3, c4, c5, c6, c7, c8, c9⟩ := h
  have hl : ∀ (n : Nat) (w : Nat → Nat), Wlk (EC σ (opW σ q)) gl w n → f (w n) ≤ cst x1 0 w n := by
    refine least (inf := 1000) x1_mono c4 (by omega) (fun a b he hf => ?_)
    obtain ⟨⟨e1, e2, e3, ⟨t, t1, t2⟩, e4⟩, e5⟩ := he
    obtain ⟨i, i1, i2⟩ := c3 a e1 hf
    obtain ⟨t', t3, t4⟩ := bes_sy hB e3 t2
    have := c9 i t' b (Or.inl (by omega)) i1 t3 (by rw [i2]; exact t4) e5
    rw [i2] at this
    exact this
  refine ⟨fun c hc _ => LCo_of x1_mono hgl (fun c k h => h.1.2.1) c7 (fun n w _ hw => hl n w hw) (fun n w hn _ => by rw [cst_x1]; omega) c hc, fun c hc hf => ?_⟩
  obtain ⟨i, i1, i2⟩ := c3 c hc hf
  have := c1 i i1
  rw [i2] at this
  exact ⟨this.2.2.1, this.2.1⟩
