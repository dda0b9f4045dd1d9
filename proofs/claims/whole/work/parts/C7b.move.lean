/-! The world of the class, when the reference's places get their addresses. -/
theorem fk_all : (List.range 114).all (fun k => match shl[k]? with
  | some (0, ci) => (fkl ci).all (fun q => decide (q.1 = 3 → k + q.2 < 114) && decide (q.1 = 5 → q.2 < 114 ∨ 134 ≤ q.2))
  | _ => true) = true := by decide +kernel
theorem fk_ok {k ci : Nat} (hk : k < 114) (h : shl[k]? = some (0, ci)) : ∀ q ∈ fkl ci, (q.1 = 3 → k + q.2 < 114) ∧ (q.1 = 5 → q.2 < 114 ∨ 134 ≤ q.2) := by
  have h1 := List.all_eq_true.mp fk_all k (List.mem_range.mpr hk)
  rw [h] at h1
  intro q hq
  have h2 := List.all_eq_true.mp h1 q hq
  simp only [Bool.and_eq_true, decide_eq_true_eq] at h2
  exact h2
theorem sh28 : shl[28]? = some (7, 2) ∧ shl[36]? = some (6, 8) := by decide
theorem M0_r (p k : Nat) : M0.2.2 p k = if p = 28 then 88 + 13 * k else if p = 36 then 37 + 5 * k else 100000 := by
  show (if p = 28 then (fun k => 88 + 13 * k) else if p = 36 then (fun k => 37 + 5 * k) else fun _ => 100000) k = _
  split
  · rfl
  · split <;> rfl
theorem wl_mv {D : va_G} {b ρ : Nat → Nat} {tA : Nat → ClassId} {M : Mm} {H : Heap} (r1 : ∀ i, i < 114 → ρ i = b i) (r2 : ∀ i, 134 ≤ i → ρ i = b i) (hM : ∀ p, p < 114 → M.1 p = M0.1 p ∧ M.2.1 p = M0.2.1 p ∧ M.2.2 p = M0.2.2 p) (hP : va_P D clx ((wl b tA M0).take 114) H) : va_P D clx ((wl ρ tA M).take 114) H := by
  intro k q hq
  have hk : k < 114 := by
    have := (List.getElem?_eq_some_iff.mp hq).1
    rw [List.length_take] at this
    omega
  rw [List.getElem?_take_of_lt hk, wl_get?] at hq
  cases hs : shl[k]? with
  | none => rw [hs] at hq; cases hq
  | some z =>
    rw [hs] at hq
    cases hq
    have h1 := hP k (b k, ce b tA M0 k z) (by rw [List.getElem?_take_of_lt hk, wl_get?, hs]; rfl)
    obtain ⟨m1, m2, m3⟩ := hM k hk
    dsimp only
    rw [r1 k hk]
    obtain ⟨a, n⟩ := z
    cases a with
    | zero =>
      have e : fvs ρ M k n = fvs b M0 k n := by
        unfold fvs
        apply List.map_congr_left
        intro q hq
        obtain ⟨qq, ix⟩ := q
        have hmem : qq ∈ fkl n := by
          obtain ⟨i, hi⟩ := List.getElem?_of_mem hq
          rw [List.getElem?_zipIdx] at hi
          cases hf : (fkl n)[i]? with
          | none => rw [hf] at hi; cases hi
          | some y =>
            rw [hf] at hi
            cases hi
            exact List.mem_of_getElem? hf
        obtain ⟨g3, g5⟩ := fk_ok hk hs qq hmem
        have hne : k ≠ 28 ∧ k ≠ 36 := ⟨fun h => (by subst h; rw [sh28.1] at hs; cases hs), fun h => (by subst h; rw [sh28.2] at hs; cases hs)⟩
        have e2 : ρ (M.2.2 k ix) = b (M0.2.2 k ix) := by
          rw [m3, M0_r, if_neg hne.1, if_neg hne.2]
          exact r2 _ (by omega)
        have e4 : ρ (lkp k) = b (lkp k) := r1 _ (by unfold lkp; split <;> omega)
        unfold fval
        dsimp only
        rw [m1, m2, e2, e4]
        split
        · rfl
        · rfl
        · rename_i h3
          rw [r1 _ (g3 h3)]
        · rfl
        · rename_i h5
          rcases g5 h5 with h | h
          · rw [r1 _ h]
          · rw [r2 _ h]
        · rfl
      show va_at D clx (b k, .inr (n, fvs ρ M k n)) H
      rw [e]
      exact h1
    | succ t =>
      have eq9 : ∀ j, j < n → some (ρ (M.2.2 k j)) = some (b (M0.2.2 k j)) := by
        intro j hj
        rw [m3, M0_r]
        by_cases h28 : k = 28
        · subst h28
          rw [sh28.1] at hs
          cases hs
          rw [if_pos rfl, r1 _ (by omega)]
        · rw [if_neg h28]
          by_cases h36 : k = 36
          · subst h36
            rw [sh28.2] at hs
            cases hs
            rw [if_pos rfl, r1 _ (by omega)]
          · rw [if_neg h36, r2 _ (by omega)]
      show va_at D clx (b k, .inl (tA t, n, arw ρ M k t)) H
      have h1 : va_at D clx (b k, .inl (tA t, n, arw b M0 k t)) H := h1
      unfold arw at h1 ⊢
      rw [m1, m2]
      split at h1
      · exact h1
      · exact arr_q (fun j hj => (eq9 j hj).symm) h1
      · exact arr_q (fun j hj => (eq9 j hj).symm) h1
      · exact arr_q (fun j hj => (eq9 j hj).symm) h1
      · exact h1
theorem va_D_addr {A : Nat → Prop} {ws ws' : va_W} (h : ∀ k : Nat, (ws'[k]?).map (fun q : Nat × va_E => q.1) = (ws[k]?).map (fun q : Nat × va_E => q.1)) (hD : va_D A ws) : va_D A ws' := by
  have key : ∀ (k : Nat) (q : Nat × va_E), ws'[k]? = some q → ∃ e, ws[k]? = some (q.1, e) := by
    intro k q hq
    have h1 := h k
    rw [hq] at h1
    cases hw : ws[k]? with
    | none => rw [hw] at h1; cases h1
    | some z =>
      rw [hw] at h1
      obtain ⟨a, e⟩ := z
      have h2 : q.1 = a := Option.some.inj h1
      exact ⟨e, by rw [h2]⟩
  refine ⟨fun i j x y hx hy e => ?_, fun k q hq => ?_⟩
  · obtain ⟨e1, h1⟩ := key i x hx
    obtain ⟨e2, h2⟩ := key j y hy
    exact hD.1 i j _ _ h1 h2 e
  · obtain ⟨e1, h1⟩ := key k q hq
    exact hD.2 k (q.1, e1) h1
theorem shl_134 : shl.length = 134 := by decide +kernel
/-- the class's cells, and the reference's, are the world -/
theorem wl_whole {D : va_G} {b ρ : Nat → Nat} {tA : Nat → ClassId} {M : Mm} {H : Heap} {A : Nat → Prop} {mw : va_W} (r1 : ∀ i, i < 114 → ρ i = b i) (r2 : ∀ i, 134 ≤ i → ρ i = b i) (hM : ∀ p, p < 114 → M.1 p = M0.1 p ∧ M.2.1 p = M0.2.1 p ∧ M.2.2 p = M0.2.2 p) (e20 : (wl ρ tA M).drop 114 = mw) (hP : va_P D clx ((wl b tA M0).take 114 ++ mw) H) (hD : va_D A ((wl b tA M0).take 114 ++ mw)) : va_P D clx (wl ρ tA M) H ∧ va_D A (wl ρ tA M) := by
  have el : ((wl b tA M0).take 114).length = 114 := by rw [List.length_take, wl_len, shl_134]; rfl
  have el2 : ((wl ρ tA M).take 114).length = 114 := by rw [List.length_take, wl_len, shl_134]; rfl
  have es : wl ρ tA M = (wl ρ tA M).take 114 ++ mw := by rw [← e20, List.take_append_drop]
  rw [es]
  refine ⟨va_P.app (wl_mv r1 r2 hM (fun k q h => hP k q ?_)) (fun k q h => hP (114 + k) q ?_), va_D_addr (fun k => ?_) hD⟩
  · rw [List.getElem?_append_left (List.getElem?_eq_some_iff.mp h).1]; exact h
  · rw [List.getElem?_append_right (by rw [el]; omega), el, Nat.add_sub_cancel_left]; exact h
  · by_cases hk : k < 114
    · rw [List.getElem?_append_left (by rw [el2]; exact hk), List.getElem?_append_left (by rw [el]; exact hk), List.getElem?_take_of_lt hk, List.getElem?_take_of_lt hk, wl_get?, wl_get?]
      cases shl[k]? with
      | none => rfl
      | some z =>
        show some (ρ k) = some (b k)
        rw [r1 k hk]
    · rw [List.getElem?_append_right (by rw [el2]; omega), List.getElem?_append_right (by rw [el]; omega), el, el2]
