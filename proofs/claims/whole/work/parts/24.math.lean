/-! What the acts do to the state; that the class's ways of doing them are the same. -/
theorem su_comm {σ : Nat → Nat} {i j v w : Nat} (h : ¬ i = j) : su (su σ i v) j w = su (su σ j w) i v := by
  funext k
  unfold su
  by_cases h1 : k = i
  · subst h1; rw [if_neg h, if_pos rfl, if_pos rfl]
  · by_cases h2 : k = j
    · rw [if_pos h2, if_neg h1, if_pos h2]
    · rw [if_neg h2, if_neg h1, if_neg h1, if_neg h2]
theorem su_su {σ : Nat → Nat} {i v w : Nat} : su (su σ i v) i w = su σ i w := by
  funext k
  unfold su
  by_cases h1 : k = i
  · rw [if_pos h1, if_pos h1]
  · rw [if_neg h1, if_neg h1, if_neg h1]
theorem su_id {σ : Nat → Nat} {i v : Nat} (h : v = σ i) : su σ i v = σ := by
  funext k
  unfold su
  by_cases h1 : k = i
  · rw [if_pos h1, h, h1]
  · rw [if_neg h1]
/-- every cell bears those on it -/
def Bear (σ : Nat → Nat) : Prop := ∀ q, q < σ 2 → ¬ fal σ q = true → ld σ (σ (160 + q)) ≤ σ (96 + σ (160 + q))
def OutZ (σ : Nat → Nat) : Prop := ∀ c, c < 64 → ¬ inL σ c → σ (96 + c) = 0
def gof (σ : Nat → Nat) (q s : Nat) : Nat → Nat := match bes σ (σ (160 + q)) s with
  | none => σ
  | some k => if wgo σ q s = 0 then su σ (160 + q) k else σ
def bowf (σ : Nat → Nat) (q : Nat) : Nat → Nat := if wbw σ q = 0 then bend σ q else σ
def prf (σ : Nat → Nat) (q r : Nat) : Nat → Nat := if wpr σ q r = 0 then flat σ r else σ
def swf (σ : Nat → Nat) (q : Nat) : Nat → Nat := if fal σ q = true then σ else curse σ q
/-- two states that agree where loads on cells come from -/
theorem ldN_cg {σ τ : Nat → Nat} {c : Nat} (h91 : τ 91 = σ 91) : ∀ n, (∀ q, q < n → τ (160 + q) = σ (160 + q) ∧ τ (78 + q) = σ (78 + q)) → ldN τ c n = ldN σ c n
  | 0, _ => rfl
  | n + 1, h => by
    have ih := ldN_cg (c := c) h91 n (fun q hq => h q (by omega))
    have h1 := h n (by omega)
    unfold ldN
    rw [ih]
    have e : onC τ c n = onC σ c n := by unfold onC fal; rw [h1.1, h91]
    rw [e, h1.2]
theorem ponN_cg {σ τ : Nat → Nat} {c : Nat} (h91 : τ 91 = σ 91) : ∀ n, (∀ q, q < n → τ (160 + q) = σ (160 + q)) → ponN τ c n = ponN σ c n
  | 0, _ => rfl
  | n + 1, h => by
    have ih := ponN_cg (c := c) h91 n (fun q hq => h q (by omega))
    have h1 := h n (by omega)
    unfold ponN
    rw [ih]
    have e : onC τ c n = onC σ c n := by unfold onC fal; rw [h1, h91]
    rw [e]
theorem ld_cg {σ τ : Nat → Nat} {c : Nat} (h2 : τ 2 = σ 2) (h91 : τ 91 = σ 91) (h : ∀ q, q < σ 2 → τ (160 + q) = σ (160 + q) ∧ τ (78 + q) = σ (78 + q)) : ld τ c = ld σ c := by
  unfold ld
  rw [h2]
  exact ldN_cg h91 _ h
theorem fal_cg {σ τ : Nat → Nat} {q : Nat} (h91 : τ 91 = σ 91) : fal τ q = fal σ q := by unfold fal; rw [h91]
/-- those on a thinned cell fall, or nobody -/
theorem snk_thin {σ τ : Nat → Nat} {c : Nat} (hb : Bear σ) (h91 : τ 91 = σ 91) (h2 : τ 2 = σ 2) (h : ∀ q, q < σ 2 → τ (160 + q) = σ (160 + q) ∧ τ (78 + q) = σ (78 + q)) (hi : ∀ k, ¬ k = c → τ (96 + k) = σ (96 + k)) :
    ∀ n, n ≤ σ 2 → snkN τ n = if τ (96 + c) < ld τ c then ponN τ c n else 0
  | 0, _ => by split <;> rfl
  | n + 1, hn => by
    have ih := snk_thin hb h91 h2 h hi n (by omega)
    have h1 := h n (by omega)
    unfold snkN
    rw [ih]
    by_cases ho : onC τ c n = true
    · have hh := onC_iff.mp ho
      rw [hh.1]
      by_cases hl : τ (96 + c) < ld τ c
      · rw [if_pos hl, if_pos ⟨hh.2, hl⟩, if_pos hl]; show _ = ponN τ c n + (if onC τ c n then 2 ^ n else 0); rw [if_pos ho]
      · rw [if_neg hl, if_neg (fun h9 => hl h9.2), if_neg hl]
    · have hno : ¬ (¬ fal τ n = true ∧ τ (96 + τ (160 + n)) < ld τ (τ (160 + n))) := by
        intro h9
        by_cases e : τ (160 + n) = c
        · exact ho (onC_iff.mpr ⟨e, h9.1⟩)
        · have hf : ¬ fal σ n = true := by rw [← fal_cg h91]; exact h9.1
          have := hb n (by omega) hf
          have h8 := h9.2
          rw [hi _ e, ld_cg h2 h91 h, h1.1] at h8
          omega
      rw [if_neg hno]
      split
      · show _ = ponN τ c n + (if onC τ c n then 2 ^ n else 0); rw [if_neg ho]
      · rfl
def thn (σ : Nat → Nat) (c : Nat) : Nat → Nat := if (su σ (96 + c) (σ (96 + c) - 1)) (96 + c) < ld (su σ (96 + c) (σ (96 + c) - 1)) c then su (su σ (96 + c) (σ (96 + c) - 1)) 91 (σ 91 ||| pon (su σ (96 + c) (σ (96 + c) - 1)) c) else su σ (96 + c) (σ (96 + c) - 1)
theorem thn_sink {σ : Nat → Nat} (hb : Bear σ) (h26 : σ 2 ≤ 6) {c : Nat} (hc : c < 64) : thn σ c = sink (su σ (96 + c) (σ (96 + c) - 1)) := by
  have e2 : (su σ (96 + c) (σ (96 + c) - 1)) 2 = σ 2 := su_ne (by omega)
  have e91 : (su σ (96 + c) (σ (96 + c) - 1)) 91 = σ 91 := su_ne (by omega)
  have hs := snk_thin (σ := σ) (τ := su σ (96 + c) (σ (96 + c) - 1)) (c := c) hb e91 e2 (fun q hq => ⟨su_ne (by omega), su_ne (by omega)⟩) (fun k hk => su_ne (by omega)) (σ 2) (Nat.le_refl _)
  unfold thn sink
  rw [e2, hs, e91]
  split
  · unfold pon; rw [e2]
  · rw [Nat.or_zero]; exact (su_id e91.symm).symm
theorem flat_eq {σ : Nat → Nat} (hb : Bear σ) (hB : Bd σ) {r : Nat} (hr : r < σ 2) : flat σ r = if σ 6 < σ (172 + r) + 1 then thn (flt0 σ r) (σ (160 + r)) else flt0 σ r := by
  have h26 := Bd_2 hB
  have e : ∀ k, k < 90 ∨ 90 ≤ k ∧ k < 94 ∨ 96 ≤ k ∧ k < 166 → flt0 σ r k = σ k := fun k hk => by unfold flt0; rw [su_ne (by omega), su_ne (by omega), su_ne (by omega)]
  have hb2 : Bear (flt0 σ r) := by
    intro q hq hf
    rw [e 2 (by omega)] at hq
    rw [fal_cg (e 91 (by omega))] at hf
    have h9 := hb q hq hf
    have f9 := Bd_q hB q (by omega)
    rw [e (160 + q) (by omega), e (96 + σ (160 + q)) (by omega), ld_cg (e 2 (by omega)) (e 91 (by omega)) (fun q hq => ⟨e _ (by omega), e _ (by omega)⟩)]
    exact h9
  have f9 := Bd_q hB r (by omega)
  unfold flat
  split
  · rw [thn_sink hb2 (by rw [e 2 (by omega)]; exact h26) f9.1, e (96 + σ (160 + r)) (by omega)]
  · rfl
/-- who sinks behind an oath are those in danger of it -/
theorem snk_dng {σ τ : Nat → Nat} {q : Nat} (hf : ¬ fal σ q = true) (h91 : τ 91 = σ 91) (h2 : τ 2 = σ 2) (h : ∀ k, k < σ 2 → τ (160 + k) = σ (160 + k) ∧ τ (78 + k) = σ (78 + k)) (hi : ∀ c, c < 64 → τ (96 + c) = ifs σ q c) (ha : ∀ k, k < σ 2 → σ (160 + k) < 64) :
    ∀ n, n ≤ σ 2 → snkN τ n = dngN σ q n
  | 0, _ => rfl
  | n + 1, hn => by
    have ih := snk_dng hf h91 h2 h hi ha n (by omega)
    have h1 := h n (by omega)
    unfold snkN dngN
    rw [ih, h1.1, hi _ (ha n (by omega)), ld_cg h2 h91 h, fal_cg h91]
    by_cases hc : ¬ fal σ n = true ∧ ifs σ q (σ (160 + n)) < ld σ (σ (160 + n))
    · rw [if_pos hc, if_pos ⟨hf, hc⟩]
    · rw [if_neg hc, if_neg (fun h9 => hc h9.2)]
theorem curse_eq {σ : Nat → Nat} (hB : Bd σ) {q : Nat} (hq : q < 6) (hf : ¬ fal σ q = true) : curse σ q = su (su (su (crs σ q 64) 91 (σ 91 ||| dng σ q)) (166 + q) 0) 95 (σ 95 + 1) := by
  have h26 := Bd_2 hB
  unfold curse sink
  have x2 : (su (su (crs σ q 64) (166 + q) 0) 95 (σ 95 + 1)) 2 = σ 2 := by rw [su_ne (by omega), su_ne (by omega), crs_lo (by omega)]
  have x91 : (su (su (crs σ q 64) (166 + q) 0) 95 (σ 95 + 1)) 91 = σ 91 := by rw [su_ne (by omega), su_ne (by omega), crs_lo (by omega)]
  have hs := snk_dng (σ := σ) (τ := su (su (crs σ q 64) (166 + q) 0) 95 (σ 95 + 1)) hf x91 x2 (fun k hk => ⟨by rw [su_ne (by omega), su_ne (by omega), crs_lo (by omega)], by rw [su_ne (by omega), su_ne (by omega), crs_lo (by omega)]⟩) (fun c hc => by
    rw [su_ne (by omega), su_ne (by omega)]
    unfold crs
    rw [if_pos (by omega), show 96 + c - 96 = c by omega]) (fun k hk => (Bd_q hB k (by omega)).1) (σ 2) (Nat.le_refl _)
  rw [x2, hs, x91, su_comm (i := 95) (by omega), su_comm (i := 166 + q) (j := 91) (by omega)]
  rfl
/-- a state that the class's state holds as well -/
theorem StC_cg {M : Mm} {b : Nat} {σ τ : Nat → Nat} (h : StC M b σ) (h8 : ∀ k, k < 8 → τ k = σ k) (hl : ∀ q, q < σ 2 → τ (78 + q) = σ (78 + q)) (h9 : ∀ k, 90 ≤ k → k < 96 → τ k = σ k) (hi : ∀ c, c < 64 → inL σ c → τ (96 + c) = σ (96 + c)) (ha : ∀ q, q < σ 2 → τ (160 + q) = σ (160 + q)) (ht : ∀ q, q < σ 2 → τ (166 + q) = σ (166 + q)) (hp : ∀ q, q < σ 2 → τ (172 + q) = σ (172 + q)) : StC M b τ := by
  obtain ⟨g0, ⟨a1, a2, a3, a4, a5⟩, ⟨f5, f6, f7, f8, f9, f10, h26⟩, gi, ga, gt, gp⟩ := h
  have e2 := h8 2 (by decide)
  refine ⟨g0, ⟨a1, a2, a3, fun k hk => by rw [h8 k hk]; exact a4 k hk, fun q hq => ?_⟩, ⟨by rw [h9 91 (by decide) (by decide)]; exact f5, by rw [h9 92 (by decide) (by decide)]; exact f6, by rw [h9 90 (by decide) (by decide)]; exact f7, by rw [h9 93 (by decide) (by decide)]; exact f8, by rw [h9 94 (by decide) (by decide)]; exact f9, by rw [h9 95 (by decide) (by decide)]; exact f10, by rw [e2]; exact h26⟩, fun c hc hin => ?_, fun q hq => ?_, fun q hq => ?_, fun q hq => ?_⟩
  · rw [e2] at hq; rw [hl q hq]; exact a5 q hq
  · have hin : inL σ c := by unfold inL at hin ⊢; rw [h8 0 (by decide), h8 1 (by decide)] at hin; exact hin
    rw [hi c hc hin]; exact gi c hc hin
  · rw [e2] at hq; rw [ha q hq]; exact ga q hq
  · rw [e2] at hq; rw [ht q hq]; exact gt q hq
  · rw [e2] at hq; rw [hp q hq]; exact gp q hq
/-- cells far off keep their ice -/
theorem ifs_far {σ : Nat → Nat} {q c : Nat} (h : σ 4 < dif (σ (160 + q) / 8) (c / 8)) : ifs σ q c = σ (96 + c) := by
  unfold ifs far
  rw [if_neg (by omega)]
theorem crs_in {σ : Nat → Nat} {q n c : Nat} (h : c < n) : crs σ q n (96 + c) = ifs σ q c := by
  unfold crs
  rw [if_pos (by omega), show 96 + c - 96 = c by omega]
theorem crs_out {σ : Nat → Nat} {q n c : Nat} (h : n ≤ c) : crs σ q n (96 + c) = σ (96 + c) := crs_lo (by omega)
theorem crs_from {M : Mm} {b : Nat} {σ : Nat → Nat} {q n : Nat} (h : StC M b σ) (hn : n ≤ 8 * (σ (160 + q) / 8 - σ 4)) (h64 : n ≤ 64) : StC M b (crs σ q n) := by
  have h26 := h.2.2.1.2.2.2.2.2.2
  refine StC_cg h (fun k hk => crs_lo (by omega)) (fun k hk => crs_lo (by omega)) (fun k h1 h2 => crs_lo (by omega)) (fun c hc hin => ?_) (fun k hk => crs_lo (by omega)) (fun k hk => crs_lo (by omega)) (fun k hk => crs_lo (by omega))
  by_cases h9 : c < n
  · rw [crs_in h9]
    exact ifs_far (by unfold dif; omega)
  · exact crs_out (by omega)
theorem crs_till {M : Mm} {b : Nat} {σ : Nat → Nat} {q n t : Nat} (h : StC M b (crs σ q n)) (hB : Bd σ) (ht : t = (if (σ 1 - 1) < (σ (160 + q) / 8 + σ 4) then (σ 1 - 1) else (σ (160 + q) / 8 + σ 4))) (hn : n = 8 * t + σ 0) (h64 : n ≤ 64) : StC M b (crs σ q 64) := by
  have h26 := Bd_2 hB
  have h0 := Bd_0 hB
  have h1 := Bd_1 hB
  have e2 : crs σ q n 2 = σ 2 := crs_lo (by omega)
  refine StC_cg h (fun k hk => by rw [crs_lo (by omega), crs_lo (by omega)]) (fun k hk => by rw [e2] at hk; rw [crs_lo (by omega), crs_lo (by omega)]) (fun k h1 h2 => by rw [crs_lo (by omega), crs_lo (by omega)]) (fun c hc hin => ?_) (fun k hk => by rw [crs_lo (by omega), crs_lo (by omega)]) (fun k hk => by rw [crs_lo (by omega), crs_lo (by omega)]) (fun k hk => by rw [crs_lo (by omega), crs_lo (by omega)])
  have hin : inL σ c := by unfold inL at hin ⊢; rw [crs_lo (by omega), crs_lo (by omega)] at hin; exact hin
  unfold inL at hin
  rw [crs_in hc]
  by_cases h9 : c < n
  · rw [crs_in h9]
  · rw [crs_out (by omega)]
    refine ifs_far ?_
    unfold dif
    split at ht <;> omega
/-- frost and the praised, in closed form -/
theorem frz_at {σ : Nat → Nat} {c : Nat} : ∀ n, n ≤ 64 → c < n → frzN σ n (96 + c) = if c % 8 < σ 0 ∧ c / 8 < σ 1 then (if 9 < σ (96 + c) + 1 then 9 else σ (96 + c) + 1) else σ (96 + c)
  | 0, _, h => absurd h (Nat.not_lt_zero _)
  | n + 1, hn, h => by
    have hlo : ∀ m, m ≤ n → frzN σ m (96 + n) = σ (96 + n) := by
      intro m
      induction m with
      | zero => intro _; rfl
      | succ m ih =>
        intro hm
        unfold frzN
        split
        · rw [su_ne (by omega)]; exact ih (by omega)
        · exact ih (by omega)
    by_cases e : c = n
    · subst e
      unfold frzN
      by_cases hc : c % 8 < σ 0 ∧ c / 8 < σ 1
      · rw [if_pos hc, if_pos hc, su_eq rfl, hlo c (Nat.le_refl _)]
      · rw [if_neg hc, if_neg hc]; exact hlo c (Nat.le_refl _)
    · have ih := frz_at (σ := σ) (c := c) n (by omega) (by omega)
      unfold frzN
      by_cases hc : n % 8 < σ 0 ∧ n / 8 < σ 1
      · rw [if_pos hc, su_ne (by omega)]; exact ih
      · rw [if_neg hc]; exact ih
theorem prz_at {σ : Nat → Nat} {q : Nat} (h : q < 6) : przN σ 6 (172 + q) = 0 := by
  match q, h with
  | 0, _ => rfl
  | 1, _ => rfl
  | 2, _ => rfl
  | 3, _ => rfl
  | 4, _ => rfl
  | 5, _ => rfl
  | k + 6, h => exact absurd h (by omega)
theorem prz_hi {σ : Nat → Nat} {k : Nat} (h : k < 172 ∨ 178 ≤ k) : przN σ 6 k = σ k := by
  rcases h with h | h
  · exact prz_lo h 6
  · unfold przN przN przN przN przN przN przN
    rw [su_ne (by omega), su_ne (by omega), su_ne (by omega), su_ne (by omega), su_ne (by omega), su_ne (by omega)]
theorem prz_frz {σ : Nat → Nat} : przN (su (frzN σ 64) 92 0) 6 = frzN (przN (su σ 92 0) 6) 64 := by
  funext k
  by_cases h1 : 172 ≤ k ∧ k < 178
  · obtain ⟨q, rfl⟩ : ∃ q, k = 172 + q := ⟨k - 172, by omega⟩
    rw [prz_at (by omega), frz_lo (by omega) 64 (Nat.le_refl _), prz_at (by omega)]
  · rw [prz_hi (by omega)]
    by_cases h2 : 96 ≤ k ∧ k < 160
    · obtain ⟨c, rfl⟩ : ∃ c, k = 96 + c := ⟨k - 96, by omega⟩
      rw [su_ne (by omega), frz_at 64 (Nat.le_refl _) (by omega), frz_at 64 (Nat.le_refl _) (by omega), prz_hi (by omega), prz_hi (by omega), prz_hi (by omega), su_ne (by omega), su_ne (by omega), su_ne (by omega)]
    · rw [frz_lo (by omega) 64 (Nat.le_refl _), prz_hi (by omega)]
      by_cases h3 : k = 92
      · rw [su_eq h3, su_eq h3]
      · rw [su_ne h3, su_ne h3, frz_lo (by omega) 64 (Nat.le_refl _)]
theorem htl_eq {σ : Nat → Nat} : htl σ = przN (su (if (σ 90 + 1) % σ 7 = 0 then frzN (su σ 90 (σ 90 + 1)) 64 else su σ 90 (σ 90 + 1)) 92 0) 6 := by
  unfold htl hend
  have e90 : przN (su (su σ 90 (σ 90 + 1)) 92 0) 6 90 = σ 90 + 1 := by rw [prz_hi (by omega), su_ne (by omega), su_eq rfl]
  have e7 : przN (su (su σ 90 (σ 90 + 1)) 92 0) 6 7 = σ 7 := by rw [prz_hi (by omega), su_ne (by omega), su_ne (by omega)]
  rw [e90, e7]
  by_cases h : (σ 90 + 1) % σ 7 = 0
  · rw [if_pos h, if_neg (by omega), prz_frz]
  · rw [if_neg h, if_pos (by omega)]
theorem cl_nx {M M' : Mm} {p ix k : Nat} {v x : Int32} (hM : mI M p (upd (M.1 p) ix v) = M') (hn : ¬ k = ix) (h : M.1 p k = x) : M'.1 p k = x := by
  rw [mI_eq hM]
  unfold upd
  rw [if_neg hn]
  exact h
theorem cl_eq {M M' : Mm} {p ix : Nat} {v : Int32} (hM : mI M p (upd (M.1 p) ix v) = M') : M'.1 p ix = v := by
  rw [mI_eq hM]
  unfold upd
  rw [if_pos rfl]
theorem cl_ne {M M' : Mm} {p q k : Nat} {f : Nat → Int32} {x : Int32} (hM : mI M p f = M') (hn : ¬ p = q) (h : M.1 q k = x) : M'.1 q k = x := by rw [mI_ne hM (fun e => hn e.symm)]; exact h
theorem cl_fr {L : List Nat} {M M' : Mm} {p k : Nat} {x : Int32} (hF : Fr L M M') (hp : ¬ p ∈ L) (h : M.1 p k = x) : M'.1 p k = x := by rw [(hF p hp).1]; exact h
/-- how an act of the class's state at b ends -/
def PS (b : Nat) (M0 : Mm) (σ : Nat → Nat) (w x : Int32) (r : Option Value) : Po := fun r0 M' => r0 = r ∧ StC M' b σ ∧ M'.1 b 11 = w ∧ M'.1 b 12 = x ∧ Fr [b, (b + 1), (b + 2), (b + 3), (b + 4)] M0 M'
theorem wgo_some {σ : Nat → Nat} {q s : Nat} (h : wgo σ q s = 0) : ∃ k, bes σ (σ (160 + q)) s = some k ∧ ¬ fal σ q = true ∧ ld σ k + σ (78 + q) ≤ σ (96 + k) := by
  unfold wgo at h
  split at h
  · cases h
  · rename_i h1
    cases hb : bes σ (σ (160 + q)) s with
    | none => rw [hb] at h; cases h
    | some k =>
      rw [hb] at h
      refine ⟨k, rfl, h1, ?_⟩
      dsimp only at h
      split at h
      · cases h
      · omega
theorem gof_no {σ : Nat → Nat} {q s : Nat} (h : ¬ wgo σ q s = 0) : gof σ q s = σ := by
  unfold gof
  split
  · rfl
  · rw [if_neg h]
theorem st_iceX {M M' : Mm} {b ix c : Nat} {x : Int32} {σ : Nat → Nat} (hM : mI M (b + 1) (upd (M.1 (b + 1)) ix x) = M') (h : StC M b σ) (hix : ix = c) (hin : ¬ inL σ c) : StC M' b σ := by
  have h1 : ∀ k, k < 64 → inL σ k → M'.1 (b + 1) k = M.1 (b + 1) k := by
    intro k hk hi
    rw [mI_eq hM]
    unfold upd
    rw [if_neg (fun e => hin (by rw [← hix, ← e]; exact hi))]
  have n : ∀ q, ¬ q = b + 1 → M'.1 q = M.1 q := fun q hq => mI_ne hM hq
  have lb := h.1.2.2.2.2.2.2.2.2
  exact ⟨h.1, LkC_fr h.2.1 (n _ (by omega)) (n _ (by omega)), by rw [n _ (by omega)]; exact h.2.2.1, fun k hk hi => by rw [h1 k hk hi]; exact h.2.2.2.1 k hk hi, by rw [n _ (by omega)]; exact h.2.2.2.2.1, by rw [n _ (by omega)]; exact h.2.2.2.2.2.1, by rw [n _ (by omega)]; exact h.2.2.2.2.2.2⟩
theorem crs_sX {M : Mm} {b : Nat} {σ : Nat → Nat} {q n : Nat} (h : StC M b (crs σ q n)) (hn : n < 64) (hin : ¬ inL σ n) : StC M b (crs σ q (n + 1)) := by
  have h26 := h.2.2.1.2.2.2.2.2.2
  have e2 : crs σ q n 2 = σ 2 := crs_lo (by omega)
  rw [e2] at h26
  refine StC_cg h (fun k hk => by rw [crs_lo (by omega), crs_lo (by omega)]) (fun k hk => by rw [e2] at hk; rw [crs_lo (by omega), crs_lo (by omega)]) (fun k h1 h2 => by rw [crs_lo (by omega), crs_lo (by omega)]) (fun c hc hi => ?_) (fun k hk => by rw [crs_lo (by omega), crs_lo (by omega)]) (fun k hk => by rw [crs_lo (by omega), crs_lo (by omega)]) (fun k hk => by rw [crs_lo (by omega), crs_lo (by omega)])
  have hi : inL σ c := by unfold inL at hi ⊢; rw [crs_lo (by omega), crs_lo (by omega)] at hi; exact hi
  have hne : ¬ c = n := fun e => hin (e ▸ hi)
  by_cases h9 : c < n
  · rw [crs_in h9, crs_in (by omega)]
  · rw [crs_out (by omega), crs_out (by omega)]
theorem Bd_flt0 {σ : Nat → Nat} (hB : Bd σ) {r : Nat} (hr : r < 6) (hp : σ (172 + r) + 1 < 1073741824) : Bd (flt0 σ r) := by
  have f9 := Bd_q hB r hr
  exact Bd_su (Bd_su (Bd_su hB (by omega) (by omega) (by omega) (by omega) (by omega) (by omega) (by omega)) (by omega) (by omega) (by omega) (by omega) (by omega) (by omega) (by omega)) (by omega) (by omega) (by omega) (by omega) (by omega) (by omega) (by omega)
theorem inL_cg {σ τ : Nat → Nat} (h0 : τ 0 = σ 0) (h1 : τ 1 = σ 1) {c : Nat} : inL τ c ↔ inL σ c := by unfold inL; rw [h0, h1]
