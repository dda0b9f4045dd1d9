/-! What always holds of the state, and that acts keep it. -/
def Inv (σ : Nat → Nat) : Prop := Bd σ ∧ Inl σ ∧ OutZ σ ∧ Bear σ
theorem snkN_bit (σ : Nat → Nat) : ∀ n q, (snkN σ n).testBit q = (decide (q < n) && decide (¬ fal σ q = true ∧ σ (96 + σ (160 + q)) < ld σ (σ (160 + q))))
  | 0, q => by simp [snkN]
  | n + 1, q => by
    have ih := snkN_bit σ n
    have hl := snkN_lt σ n
    unfold snkN
    by_cases ho : ¬ fal σ n = true ∧ σ (96 + σ (160 + n)) < ld σ (σ (160 + n))
    · rw [if_pos ho, Nat.add_comm]
      rcases Nat.lt_trichotomy q n with h | h | h
      · rw [Nat.testBit_two_pow_add_gt h, ih]
        simp [h, Nat.lt_succ_of_lt h]
      · subst h
        rw [Nat.testBit_two_pow_add_eq, ih]
        simp [ho]
      · have h1 : 2 ^ n + snkN σ n < 2 ^ q := Nat.lt_of_lt_of_le (by rw [Nat.pow_succ]; omega : 2 ^ n + snkN σ n < 2 ^ (n + 1)) (Nat.pow_le_pow_right (by decide) h)
        rw [Nat.testBit_lt_two_pow h1]
        have : ¬ q < n + 1 := by omega
        simp [this]
    · rw [if_neg ho, Nat.add_zero, ih]
      by_cases h : q = n
      · subst h
        rw [decide_eq_false ho]; simp
      · have : (q < n + 1) ↔ (q < n) := by omega
        simp [this]
theorem fal_sink {σ : Nat → Nat} {q : Nat} (h : ¬ fal (sink σ) q = true) (hq : q < σ 2) : ¬ fal σ q = true ∧ ld σ (σ (160 + q)) ≤ σ (96 + σ (160 + q)) := by
  unfold fal sink at h
  rw [su_eq rfl, Nat.testBit_or, snkN_bit, decide_eq_true hq] at h
  have h1 : ¬ fal σ q = true := by
    intro h9
    unfold fal at h9
    rw [h9] at h
    exact h rfl
  refine ⟨h1, ?_⟩
  apply Classical.byContradiction
  intro h9
  apply h
  rw [decide_eq_true (show ¬ fal σ q = true ∧ σ (96 + σ (160 + q)) < ld σ (σ (160 + q)) from ⟨h1, by omega⟩)]
  simp
theorem ldN_mono {σ τ : Nat → Nat} {c : Nat} : ∀ n, (∀ q, q < n → (onC τ c q = true → onC σ c q = true) ∧ τ (78 + q) = σ (78 + q)) → ldN τ c n ≤ ldN σ c n
  | 0, _ => Nat.le_refl 0
  | n + 1, h => by
    have ih := ldN_mono (σ := σ) (τ := τ) (c := c) n (fun q hq => h q (by omega))
    have h1 := h n (by omega)
    unfold ldN
    by_cases ho : onC τ c n = true
    · rw [if_pos ho, if_pos (h1.1 ho), h1.2]; omega
    · rw [if_neg ho]; omega
theorem ld_sink (σ : Nat → Nat) (h26 : σ 2 ≤ 6) (c : Nat) : ld (sink σ) c ≤ ld σ c := by
  unfold ld
  rw [sink_lo (k := 2) (by decide)]
  refine ldN_mono _ (fun q hq => ⟨fun ho => ?_, sink_lo (by omega)⟩)
  have h1 := onC_iff.mp ho
  rw [sink_lo (by omega)] at h1
  exact onC_iff.mpr ⟨h1.1, (fal_sink h1.2 hq).1⟩
theorem Bear_sink {σ : Nat → Nat} (hB : Bd σ) : Bear (sink σ) := by
  intro q hq hf
  rw [sink_lo (by decide)] at hq
  have h26 := Bd_2 hB
  have f9 := Bd_q hB q (by omega)
  have h1 := fal_sink hf hq
  rw [sink_lo (show ¬ 160 + q = 91 by omega), sink_lo (show ¬ 96 + σ (160 + q) = 91 by omega)]
  exact Nat.le_trans (ld_sink σ h26 _) h1.2
theorem Inl_cg {σ τ : Nat → Nat} (h : Inl σ) (h0 : τ 0 = σ 0) (h1 : τ 1 = σ 1) (h2 : τ 2 = σ 2) (ha : ∀ q, q < σ 2 → τ (160 + q) = σ (160 + q)) : Inl τ := by
  intro q hq
  rw [h2] at hq
  rw [ha q hq]
  exact (inL_cg h0 h1).mpr (h q hq)
theorem OutZ_cg {σ τ : Nat → Nat} (h : OutZ σ) (h0 : τ 0 = σ 0) (h1 : τ 1 = σ 1) (hi : ∀ c, c < 64 → ¬ inL σ c → τ (96 + c) = σ (96 + c) ∨ τ (96 + c) = 0) : OutZ τ := by
  intro c hc hn
  have hn2 : ¬ inL σ c := fun h9 => hn ((inL_cg h0 h1).mpr h9)
  rcases hi c hc hn2 with e | e
  · rw [e]; exact h c hc hn2
  · exact e
/-- more ice, or the same, elsewhere the same -/
theorem Bear_cg {σ τ : Nat → Nat} (hB : Bd σ) (h : Bear σ) (h2 : τ 2 = σ 2) (h91 : τ 91 = σ 91) (ha : ∀ q, q < σ 2 → τ (160 + q) = σ (160 + q) ∧ τ (78 + q) = σ (78 + q)) (hi : ∀ c, c < 64 → σ (96 + c) ≤ τ (96 + c)) : Bear τ := by
  intro q hq hf
  rw [h2] at hq
  have h26 := Bd_2 hB
  have f9 := Bd_q hB q (by omega)
  rw [fal_cg h91] at hf
  rw [(ha q hq).1, ld_cg h2 h91 ha]
  exact Nat.le_trans (h q hq hf) (hi _ f9.1)
theorem Inv_sink {σ : Nat → Nat} (hB : Bd σ) (hI : Inl σ) (hO : OutZ σ) : Inv (sink σ) := by
  have h26 := Bd_2 hB
  exact ⟨Bd_sink hB, Inl_cg hI (sink_lo (by decide)) (sink_lo (by decide)) (sink_lo (by decide)) (fun q hq => sink_lo (by omega)), OutZ_cg hO (sink_lo (by decide)) (sink_lo (by decide)) (fun c hc hn => Or.inl (sink_lo (by omega))), Bear_sink hB⟩
theorem Inv_curse {σ : Nat → Nat} (h : Inv σ) {q : Nat} (hq : q < 6) : Inv (curse σ q) := by
  obtain ⟨hB, hI, hO, hb⟩ := h
  have h26 := Bd_2 hB
  refine Inv_sink (Bd_su (Bd_su (Bd_crs hB q 64 (Nat.le_refl _)) (by omega) (by omega) (by omega) (by omega) (by omega) (by omega) (by omega)) (by omega) (by omega) (by omega) (by omega) (by omega) (by omega) (by omega)) ?_ ?_
  · exact Inl_cg hI (by rw [su_ne (by omega), su_ne (by omega), crs_lo (by omega)]) (by rw [su_ne (by omega), su_ne (by omega), crs_lo (by omega)]) (by rw [su_ne (by omega), su_ne (by omega), crs_lo (by omega)]) (fun k hk => by rw [su_ne (by omega), su_ne (by omega), crs_lo (by omega)])
  · refine OutZ_cg hO (by rw [su_ne (by omega), su_ne (by omega), crs_lo (by omega)]) (by rw [su_ne (by omega), su_ne (by omega), crs_lo (by omega)]) (fun c hc hn => Or.inr ?_)
    rw [su_ne (by omega), su_ne (by omega), crs_in hc]
    have := hO c hc hn
    unfold ifs
    split <;> omega
theorem Inv_su {σ : Nat → Nat} (h : Inv σ) {i v : Nat} (hi : 90 ≤ i) (h0 : i = 90 → v ≤ 400) (h91 : ¬ i = 91) (h1 : i = 92 → v < 64) (h3 : ¬ (96 ≤ i ∧ i < 166)) (h5 : 166 ≤ i → i < 172 → v ≤ 9) (h6 : 172 ≤ i → v < 1073741824) : Inv (su σ i v) := by
  obtain ⟨hB, hI, hO, hb⟩ := h
  have h26 := Bd_2 hB
  refine ⟨Bd_su hB hi h0 (by omega) (by omega) (by omega) h5 h6, Inl_cg hI (su_ne (by omega)) (su_ne (by omega)) (su_ne (by omega)) (fun q hq => su_ne (by omega)), OutZ_cg hO (su_ne (by omega)) (su_ne (by omega)) (fun c hc hn => Or.inl (su_ne (by omega))), Bear_cg hB hb (su_ne (by omega)) (su_ne (by omega)) (fun q hq => ⟨su_ne (by omega), su_ne (by omega)⟩) (fun c hc => by rw [su_ne (by omega)]; exact Nat.le_refl _)⟩
theorem Inv_ice {σ : Nat → Nat} (h : Inv σ) {c v : Nat} (hc : c < 64) (hv : v ≤ 9) (hg : σ (96 + c) ≤ v) (hin : inL σ c) : Inv (su σ (96 + c) v) := by
  obtain ⟨hB, hI, hO, hb⟩ := h
  have h26 := Bd_2 hB
  refine ⟨Bd_su hB (by omega) (by omega) (by omega) (by omega) (by omega) (by omega) (by omega), Inl_cg hI (su_ne (by omega)) (su_ne (by omega)) (su_ne (by omega)) (fun q hq => su_ne (by omega)), OutZ_cg hO (su_ne (by omega)) (su_ne (by omega)) (fun k hk hn => Or.inl (su_ne (fun e => hn (by rw [show k = c by omega]; exact hin)))), Bear_cg hB hb (su_ne (by omega)) (su_ne (by omega)) (fun q hq => ⟨su_ne (by omega), su_ne (by omega)⟩) (fun k hk => ?_)⟩
  unfold su
  split
  · rename_i e; rw [show k = c by omega]; exact hg
  · exact Nat.le_refl _
theorem Inv_bend {σ : Nat → Nat} (h : Inv σ) {q : Nat} (hq : q < σ 2) : Inv (bend σ q) := by
  have hB := h.1
  have h26 := Bd_2 hB
  have f9 := Bd_q hB q (by omega)
  have g9 := Bd_c hB _ f9.1
  have k92 := Bd_92 hB
  have p9 := pow_lt6 (q := q) (by omega)
  have l9 := lor_lt (σ 92) k92 (2 ^ q) p9
  unfold bend
  have i9 : (if 9 < σ (96 + σ (160 + q)) + 1 then 9 else σ (96 + σ (160 + q)) + 1) ≤ 9 := by split <;> omega
  refine Inv_su (Inv_su (Inv_su (Inv_ice h f9.1 i9 (by split <;> omega) (h.2.1 q hq)) (by omega) (by omega) (by omega) (by omega) (by omega) (by omega) (by omega)) (by omega) (by omega) (by omega) (by omega) (by omega) (by omega) (by omega)) (by omega) (by omega) (by omega) (by omega) (by omega) (by omega) (by omega)
theorem Inv_flat {σ : Nat → Nat} (h : Inv σ) {r : Nat} (hr : r < σ 2) (hp : σ (172 + r) + 1 < 1073741824) : Inv (flat σ r) := by
  have hB := h.1
  have h26 := Bd_2 hB
  have f9 := Bd_q hB r (by omega)
  have g9 := Bd_c hB _ f9.1
  have h1 : Inv (flt0 σ r) := Inv_su (Inv_su (Inv_su h (by omega) (by omega) (by omega) (by omega) (by omega) (by omega) (by omega)) (by omega) (by omega) (by omega) (by omega) (by omega) (by omega) (by omega)) (by omega) (by omega) (by omega) (by omega) (by omega) (by omega) (by omega)
  unfold flat
  split
  · refine Inv_sink (Bd_su h1.1 (by omega) (by omega) (by omega) (by omega) (by omega) (by omega) (by omega)) ?_ ?_
    · have e2 : flt0 σ r 2 = σ 2 := by unfold flt0; rw [su_ne (by omega), su_ne (by omega), su_ne (by omega)]
      exact Inl_cg h1.2.1 (su_ne (by omega)) (su_ne (by omega)) (su_ne (by omega)) (fun q hq => su_ne (by omega))
    · refine OutZ_cg h1.2.2.1 (su_ne (by omega)) (su_ne (by omega)) (fun c hc hn => Or.inl (su_ne (fun e => hn ?_)))
      have e0 : flt0 σ r 0 = σ 0 := by unfold flt0; rw [su_ne (by omega), su_ne (by omega), su_ne (by omega)]
      have e1 : flt0 σ r 1 = σ 1 := by unfold flt0; rw [su_ne (by omega), su_ne (by omega), su_ne (by omega)]
      rw [show c = σ (160 + r) by omega]
      exact (inL_cg e0 e1).mpr (h.2.1 r hr)
  · exact h1
theorem ldN_to {σ : Nat → Nat} {q k : Nat} (hne : ¬ k = σ (160 + q)) (hf : ¬ fal σ q = true) (hq : q < 6) (hk : k < 64) : ∀ n, n ≤ 6 → ldN (su σ (160 + q) k) k n = ldN σ k n + (if q < n then σ (78 + q) else 0)
  | 0, _ => rfl
  | n + 1, hn => by
    have ih := ldN_to hne hf hq hk n (by omega)
    have hfe : fal (su σ (160 + q) k) n = fal σ n := fal_cg (su_ne (by omega))
    unfold ldN
    rw [ih]
    by_cases e : n = q
    · subst e
      have h1 : onC (su σ (160 + n) k) k n = true := onC_iff.mpr ⟨su_eq rfl, by rw [hfe]; exact hf⟩
      have h2 : ¬ onC σ k n = true := fun h9 => hne ((onC_iff.mp h9).1.symm)
      rw [if_pos h1, if_neg h2, if_neg (by omega), if_pos (by omega), su_ne (by omega)]
    · have h1 : onC (su σ (160 + q) k) k n = onC σ k n := by unfold onC; rw [hfe, su_ne (by omega)]
      rw [h1, su_ne (by omega)]
      by_cases h3 : q < n
      · rw [if_pos h3, if_pos (show q < n + 1 by omega)]; omega
      · rw [if_neg h3, if_neg (show ¬ q < n + 1 by omega)]; omega
theorem ldN_off {σ : Nat → Nat} {q k c : Nat} (hne : ¬ c = k) (hq : q < 6) : ∀ n, n ≤ 6 → ldN (su σ (160 + q) k) c n ≤ ldN σ c n := fun n hn => ldN_mono n (fun r hr => ⟨fun ho => by
  have h1 := onC_iff.mp ho
  rw [fal_cg (show su σ (160 + q) k 91 = σ 91 from su_ne (by omega))] at h1
  by_cases e : r = q
  · subst e; rw [su_eq rfl] at h1; exact absurd h1.1.symm hne
  · rw [su_ne (by omega)] at h1; exact onC_iff.mpr h1, su_ne (by omega)⟩)
theorem Inv_gof {σ : Nat → Nat} (h : Inv σ) {q s : Nat} (hq : q < σ 2) : Inv (gof σ q s) := by
  by_cases hw : wgo σ q s = 0
  · obtain ⟨k, hb, hf, hl⟩ := wgo_some hw
    have e : gof σ q s = su σ (160 + q) k := by unfold gof; rw [hb]; exact if_pos hw
    obtain ⟨hB, hI, hO, hb9⟩ := h
    have h26 := Bd_2 hB
    have f9 := Bd_q hB q (by omega)
    have hk := bes_lt hB f9.1 hb
    have hin := bes_in hB f9.1 hb
    have hne := bes_ne hB f9.1 hb
    rw [e]
    refine ⟨Bd_su hB (by omega) (by omega) (by omega) (by omega) (by omega) (by omega) (by omega), ?_, OutZ_cg hO (su_ne (by omega)) (su_ne (by omega)) (fun c hc hn => Or.inl (su_ne (by omega))), ?_⟩
    · intro r hr
      rw [su_ne (by omega)] at hr
      refine (inL_cg (su_ne (by omega)) (su_ne (by omega))).mpr ?_
      unfold su
      split
      · exact hin
      · exact hI r hr
    · intro r hr hfr
      rw [su_ne (by omega)] at hr
      rw [fal_cg (show su σ (160 + q) k 91 = σ 91 from su_ne (by omega))] at hfr
      have g9 := Bd_q hB r (by omega)
      have key : ∀ c, c < 64 → (c = k ∨ ld σ c ≤ σ (96 + c)) → ld (su σ (160 + q) k) c ≤ su σ (160 + q) k (96 + c) := by
        intro c hc hcc
        rw [su_ne (by omega)]
        unfold ld
        rw [su_ne (by omega)]
        by_cases e : c = k
        · subst e
          rw [ldN_to hne hf (by omega) hc (σ 2) h26, if_pos hq]
          exact hl
        · have h1 := ldN_off (σ := σ) (q := q) (k := k) e (by omega) (σ 2) h26
          have h2 := hcc.resolve_left e
          unfold ld at h2
          omega
      by_cases e : r = q
      · subst e
        rw [su_eq rfl]
        exact key k hk (Or.inl rfl)
      · rw [su_ne (show ¬ 160 + r = 160 + q by omega)]
        exact key _ g9.1 (Or.inr (hb9 r hr hfr))
  · rw [gof_no hw]; exact h
theorem Inv_bowf {σ : Nat → Nat} (h : Inv σ) {q : Nat} (hq : q < σ 2) : Inv (bowf σ q) := by
  unfold bowf
  split
  · exact Inv_bend h hq
  · exact h
theorem Inv_prf {σ : Nat → Nat} (h : Inv σ) {q r : Nat} (hr : r < σ 2) (hp : σ (172 + r) + 1 < 1073741824) : Inv (prf σ q r) := by
  unfold prf
  split
  · exact Inv_flat h hr hp
  · exact h
theorem Inv_swf {σ : Nat → Nat} (h : Inv σ) {q : Nat} (hq : q < 6) : Inv (swf σ q) := by
  unfold swf
  split
  · exact h
  · exact Inv_curse h hq
theorem Inv_hst {σ : Nat → Nat} (h : Inv σ) {q : Nat} (hq : q < 6) : Inv (hst σ q) := by
  have t9 := tmp9_le σ q
  unfold hst
  split
  · exact h
  · split
    · exact Inv_su h (by omega) (by omega) (by omega) (by omega) (by omega) (by omega) (by omega)
    · exact Inv_curse (Inv_su h (by omega) (by omega) (by omega) (by omega) (by omega) (by omega) (by omega)) hq
theorem Inv_hrN {σ : Nat → Nat} (h : Inv σ) : ∀ n, n ≤ 6 → Inv (hrN σ n)
  | 0, _ => h
  | n + 1, hn => Inv_hst (Inv_hrN h n (by omega)) (by omega)
theorem Inv_frz {σ : Nat → Nat} (h : Inv σ) : ∀ n, n ≤ 64 → Inv (frzN σ n)
  | 0, _ => h
  | n + 1, hn => by
    have ih := Inv_frz h n (by omega)
    unfold frzN
    split
    · rename_i hc
      have g9 := Bd_c ih.1 n (by omega)
      refine Inv_ice ih (by omega) (by split <;> omega) (by split <;> omega) ?_
      have e0 : frzN σ n 0 = σ 0 := frz_lo (by omega) n (by omega)
      have e1 : frzN σ n 1 = σ 1 := frz_lo (by omega) n (by omega)
      exact (inL_cg e0 e1).mpr hc
    · exact ih
theorem Inv_prz {σ : Nat → Nat} (h : Inv σ) : ∀ n, n ≤ 6 → Inv (przN σ n)
  | 0, _ => h
  | n + 1, hn => Inv_su (Inv_prz h n (by omega)) (by omega) (by omega) (by omega) (by omega) (by omega) (by omega) (by omega)
theorem Inv_htl {σ : Nat → Nat} (h : Inv σ) (h400 : σ 90 < 400) : Inv (htl σ) := by
  have h1 : Inv (przN (su (su σ 90 (σ 90 + 1)) 92 0) 6) := Inv_prz (Inv_su (Inv_su h (by omega) (by omega) (by omega) (by omega) (by omega) (by omega) (by omega)) (by omega) (by omega) (by omega) (by omega) (by omega) (by omega) (by omega)) 6 (Nat.le_refl _)
  unfold htl hend
  split
  · exact h1
  · exact Inv_frz h1 64 (Nat.le_refl _)
theorem Inv_hour {σ : Nat → Nat} (h : Inv σ) (h400 : σ 90 < 400) : Inv (hour σ) := by
  have h26 := Bd_2 h.1
  exact Inv_htl (Inv_hrN h _ h26) (by rw [hrN_90 _ h26]; exact h400)
