/-! The machine's world: the small machine's places at addresses ρ. -/
def tv (ρ : Nat → Nat) : Value → Value
  | .ref a => .ref (ρ a)
  | v => v
def tvl (ρ : Nat → Nat) (lv : Lv) : List (Nat × Value) := lv.map (fun q => (q.1, tv ρ q.2))
theorem tv_cat (ρ : Nat → Nat) (v : Value) : (tv ρ v).category = v.category := by cases v <;> rfl
def fval (ρ : Nat → Nat) (M : Mm) (p k : Nat) (q : Nat × Nat) : Value := match q.1 with
  | 1 => .long (M.2.1 p k)
  | 2 => .ref (ρ (M.2.2 p k))
  | 3 => .ref (ρ (p + q.2))
  | 4 => .ref (ρ (lkp p))
  | 5 => .ref (ρ q.2)
  | _ => .int (M.1 p k)
def fvs (ρ : Nat → Nat) (M : Mm) (p ci : Nat) : List Value := (fkl ci).zipIdx.map (fun q => fval ρ M p q.2 q.1)
def arw (ρ : Nat → Nat) (M : Mm) (p t : Nat) : (Nat → Int32) ⊕ (Nat → Int64) ⊕ (Nat → UInt32) ⊕ (Nat → UInt64) ⊕ (Nat → Option Nat) := match t with
  | 3 => .inr (.inl (M.2.1 p))
  | 4 => .inr (.inr (.inr (.inr (fun k => some (ρ (M.2.2 p k))))))
  | 5 => .inr (.inr (.inr (.inr (fun k => some (ρ (M.2.2 p k))))))
  | 6 => .inr (.inr (.inr (.inr (fun k => some (ρ (M.2.2 p k))))))
  | _ => .inl (M.1 p)
def ce (ρ : Nat → Nat) (tA : Nat → ClassId) (M : Mm) (p : Nat) (q : Nat × Nat) : va_E := match q with
  | (0, ci) => .inr (ci, fvs ρ M p ci)
  | (t + 1, n) => .inl (tA t, n, arw ρ M p t)
def wl (ρ : Nat → Nat) (tA : Nat → ClassId) (M : Mm) : va_W := shl.zipIdx.map (fun q => (ρ q.2, ce ρ tA M q.2 q.1))
theorem wl_len (ρ : Nat → Nat) (tA : Nat → ClassId) (M : Mm) : (wl ρ tA M).length = shl.length := by simp [wl]
theorem wl_get? (ρ : Nat → Nat) (tA : Nat → ClassId) (M : Mm) (p : Nat) : (wl ρ tA M)[p]? = (shl[p]?).map (fun q => (ρ p, ce ρ tA M p q)) := by
  unfold wl
  rw [List.getElem?_map, List.getElem?_zipIdx]
  cases shl[p]? <;> simp
theorem shp_some {p a b : Nat} (h : shp p = (a, b)) (h9 : a ≠ 99) : shl[p]? = some (a, b) := by
  unfold shp at h
  rw [List.getD_eq_getElem?_getD] at h
  cases hq : shl[p]? with
  | none => rw [hq] at h; simp at h; exact absurd h.1.symm h9
  | some q => rw [hq] at h; simp at h; rw [h]
theorem wl_get {ρ : Nat → Nat} {tA : Nat → ClassId} {M : Mm} {p a b : Nat} (h : shp p = (a, b)) (h9 : a ≠ 99) : (wl ρ tA M)[p]? = some (ρ p, ce ρ tA M p (a, b)) := by
  rw [wl_get?, shp_some h h9]; rfl
theorem fval_congr {ρ : Nat → Nat} {M M' : Mm} {p : Nat} (h1 : M'.1 p = M.1 p) (h2 : M'.2.1 p = M.2.1 p) (h3 : M'.2.2 p = M.2.2 p) (k : Nat) (q : Nat × Nat) : fval ρ M' p k q = fval ρ M p k q := by
  unfold fval
  rw [h1, h2, h3]
theorem ce_congr {ρ : Nat → Nat} {tA : Nat → ClassId} {M M' : Mm} {p : Nat} (h1 : M'.1 p = M.1 p) (h2 : M'.2.1 p = M.2.1 p) (h3 : M'.2.2 p = M.2.2 p) (q : Nat × Nat) : ce ρ tA M' p q = ce ρ tA M p q := by
  obtain ⟨a, b⟩ := q
  cases a with
  | zero =>
    show Sum.inr (b, fvs ρ M' p b) = Sum.inr (b, fvs ρ M p b)
    unfold fvs
    congr 3
    funext q
    exact fval_congr h1 h2 h3 _ _
  | succ t =>
    show Sum.inl (tA t, b, arw ρ M' p t) = Sum.inl (tA t, b, arw ρ M p t)
    unfold arw
    rw [h1, h2, h3]
theorem wl_set {ρ : Nat → Nat} {tA : Nat → ClassId} {M M' : Mm} {p a b : Nat} (h : shp p = (a, b)) (h9 : a ≠ 99) (hc : ∀ i, i ≠ p → M'.1 i = M.1 i ∧ M'.2.1 i = M.2.1 i ∧ M'.2.2 i = M.2.2 i) :
    wl ρ tA M' = (wl ρ tA M).set p (ρ p, ce ρ tA M' p (a, b)) := by
  apply List.ext_getElem?
  intro i
  by_cases hi : i = p
  · subst hi
    rw [wl_get h h9, List.getElem?_set_self (by rw [wl_len]; exact (List.getElem?_eq_some_iff.mp (shp_some h h9)).1)]
  · rw [List.getElem?_set_ne (Ne.symm hi), wl_get?, wl_get?]
    cases shl[i]? with
    | none => rfl
    | some q => simp only [Option.map_some]; rw [ce_congr (hc i hi).1 (hc i hi).2.1 (hc i hi).2.2]
theorem wl_addr (ρ : Nat → Nat) (tA : Nat → ClassId) (M M' : Mm) (A : Nat → Prop) (h : va_D A (wl ρ tA M)) : va_D A (wl ρ tA M') := by
  have key : ∀ (k : Nat) (q : Nat × va_E), (wl ρ tA M')[k]? = some q → ∃ e, (wl ρ tA M)[k]? = some (q.1, e) := by
    intro k q hq
    rw [wl_get?] at hq
    cases hs : shl[k]? with
    | none => rw [hs] at hq; cases hq
    | some z =>
      rw [hs] at hq
      refine ⟨ce ρ tA M k z, ?_⟩
      rw [wl_get?, hs]
      cases hq
      rfl
  refine ⟨fun i j x y hx hy e => ?_, fun k q hq => ?_⟩
  · obtain ⟨e1, h1⟩ := key i x hx
    obtain ⟨e2, h2⟩ := key j y hy
    exact h.1 i j _ _ h1 h2 e
  · obtain ⟨e1, h1⟩ := key k q hq
    exact h.2 k (q.1, e1) h1
theorem mI_off (M : Mm) (p : Nat) (f : Nat → Int32) (i : Nat) (h : i ≠ p) : (mI M p f).1 i = M.1 i ∧ (mI M p f).2.1 i = M.2.1 i ∧ (mI M p f).2.2 i = M.2.2 i := ⟨by simp [mI, va_up, h], rfl, rfl⟩
theorem mJ_off (M : Mm) (p : Nat) (f : Nat → Int64) (i : Nat) (h : i ≠ p) : (mJ M p f).1 i = M.1 i ∧ (mJ M p f).2.1 i = M.2.1 i ∧ (mJ M p f).2.2 i = M.2.2 i := ⟨rfl, by simp [mJ, va_up, h], rfl⟩
theorem mR_off (M : Mm) (p : Nat) (f : Nat → Nat) (i : Nat) (h : i ≠ p) : (mR M p f).1 i = M.1 i ∧ (mR M p f).2.1 i = M.2.1 i ∧ (mR M p f).2.2 i = M.2.2 i := ⟨rfl, rfl, by simp [mR, va_up, h]⟩
theorem fvs_get (ρ : Nat → Nat) (M : Mm) (p ci k : Nat) : (fvs ρ M p ci)[k]? = ((fkl ci)[k]?).map (fun q => fval ρ M p k q) := by
  unfold fvs
  rw [List.getElem?_map, List.getElem?_zipIdx]
  cases (fkl ci)[k]? <;> simp
theorem tvl_lvg {ρ : Nat → Nat} {ls : Array Slot} {nL : Nat} : ∀ {lv : Lv} {x : Nat} {v : Value}, lvg lv x = some v → lv_has ls nL (tvl ρ lv) → ls[x]? = some (.val (tv ρ v))
  | [], _, _, h, _ => by cases h
  | (j, w) :: t, x, v, h, hl => by
    unfold lvg at h
    by_cases e : j = x
    · subst e
      simp at h
      subst h
      exact hl.2.2 (j, tv ρ w) List.mem_cons_self
    · have e2 : (j == x) = false := by simp [e]
      rw [e2] at h
      exact tvl_lvg (lv := t) h ⟨hl.1, hl.2.1, fun q hq => hl.2.2 q (List.mem_cons_of_mem _ hq)⟩
theorem tvl_filter (ρ : Nat → Nat) (lv : Lv) (f : Nat × Value → Bool) (hf : ∀ q : Nat × Value, f (q.1, tv ρ q.2) = f q) : (tvl ρ lv).filter f = tvl ρ (lv.filter f) := by
  induction lv with
  | nil => rfl
  | cons q t ih =>
    have ih' : List.filter f (List.map (fun q => (q.1, tv ρ q.2)) t) = List.map (fun q => (q.1, tv ρ q.2)) (List.filter f t) := ih
    simp only [tvl, List.map_cons, List.filter_cons, hf q, ih']
    split <;> simp
theorem tvl_lvs (ρ : Nat → Nat) (lv : Lv) (i : Nat) (v : Value) : (i, tv ρ v) :: (tvl ρ lv).filter (fun q => !(q.1 == i) && !(q.1 + 1 == i && q.2.category == 2)) = tvl ρ (lvs lv i v) := by
  rw [tvl_filter ρ lv _ (fun q => by simp only [tv_cat])]
  rfl
theorem tvl_lvs2 (ρ : Nat → Nat) (lv : Lv) (i : Nat) (v : Value) : (i, tv ρ v) :: (tvl ρ lv).filter (fun q => !(q.1 == i) && (!(q.1 == i + 1) && !(q.1 + 1 == i && q.2.category == 2))) = tvl ρ (lvs2 lv i v) := by
  rw [tvl_filter ρ lv _ (fun q => by simp only [tv_cat])]
  rfl
