/-! Packs: facts of a memory, carried over stores and calls. -/
theorem n_max0 {X Y : Int32} {x y : Nat} (hx : X = nI x) (hy : Y = nI y) (h1 : x < 2 ^ 30) (h2 : y < 2 ^ 30) : (if nI 0 < X - Y then X - Y else nI 0) = nI (x - y) := by
  subst hx hy
  by_cases h : y < x
  · rw [pk_sub (Nat.le_of_lt h), if_pos (nI_lt (by omega) (by omega))]
  · have h9 : ¬ nI 0 < nI x - nI y := by
      rw [nI_0, Int32.lt_iff_toInt_lt, pk_sub_toInt h1 h2]
      have z : (0 : Int32).toInt = 0 := rfl
      omega
    rw [if_neg h9]
    have : x - y = 0 := by omega
    rw [this]
theorem n_maxI {X Y : Int32} {x y : Nat} (hx : X = nI x) (hy : Y = nI y) (h1 : x < 2 ^ 31) (h2 : y < 2 ^ 31) : (if X < Y then Y else X) = nI (if x < y then y else x) := by
  subst hx hy
  by_cases h : x < y
  · rw [if_pos h, if_pos ((nI_ltI h1 h2).mpr h)]
  · rw [if_neg h, if_neg (mt (nI_ltI h1 h2).mp h)]
theorem n_minI {X Y : Int32} {x y : Nat} (hx : X = nI x) (hy : Y = nI y) (h1 : x < 2 ^ 31) (h2 : y < 2 ^ 31) : (if X < Y then X else Y) = nI (if y < x then y else x) := by
  subst hx hy
  by_cases h : x < y
  · rw [if_pos ((nI_ltI h1 h2).mpr h), if_neg (by omega)]
  · rw [if_neg (mt (nI_ltI h1 h2).mp h)]
    by_cases h3 : y < x
    · rw [if_pos h3]
    · rw [if_neg h3, show x = y by omega]
theorem tsw_miss {lo hi d : Int} {ts : List Int} {x : Int32} (h : x.toInt < lo ∨ hi < x.toInt) : tsw (lo :: hi :: d :: ts) x = d.toNat := if_pos h
theorem ne_toInt {x : Int32} {n : Nat} (h : ¬ x = nI n) (hn : n < 2 ^ 31) : ¬ x.toInt = (n : Int) := by
  intro e
  exact h (Int32.toInt_inj.mp (by rw [e, nI_toInt hn]))
theorem fr_eq {α : Type} {f g : Nat → α} {k : Nat} {v : α} (h : f = g) (e : g k = v) : f k = v := by rw [h]; exact e
theorem mI_eq {M M' : Mm} {p : Nat} {f : Nat → Int32} (hM : mI M p f = M') : M'.1 p = f := by rw [← hM]; exact va_up_self _ _ _
theorem mI_ne {M M' : Mm} {p q : Nat} {f : Nat → Int32} (hM : mI M p f = M') (h : ¬ q = p) : M'.1 q = M.1 q := by rw [← hM]; exact va_up_ne _ _ h
theorem mJ_eq {M M' : Mm} {p : Nat} {f : Nat → Int64} (hM : mJ M p f = M') : M'.2.1 p = f := by rw [← hM]; exact va_up_self _ _ _
theorem mJ_ne {M M' : Mm} {p q : Nat} {f : Nat → Int64} (hM : mJ M p f = M') (h : ¬ q = p) : M'.2.1 q = M.2.1 q := by rw [← hM]; exact va_up_ne _ _ h
theorem mR_eq {M M' : Mm} {p : Nat} {f : Nat → Nat} (hM : mR M p f = M') : M'.2.2 p = f := by rw [← hM]; exact va_up_self _ _ _
theorem mR_ne {M M' : Mm} {p q : Nat} {f : Nat → Nat} (hM : mR M p f = M') (h : ¬ q = p) : M'.2.2 q = M.2.2 q := by rw [← hM]; exact va_up_ne _ _ h
theorem fI_up {M M' : Mm} {p ix : Nat} {v : Int32} {g : Nat → Int32} (hM : mI M p (upd (M.1 p) ix v) = M') (h : M.1 p = g) : M'.1 p = upd g ix v := by rw [mI_eq hM, h]
theorem fI_ne {M M' : Mm} {p q : Nat} {f g : Nat → Int32} (hM : mI M p f = M') (hn : ¬ p = q) (h : M.1 q = g) : M'.1 q = g := by rw [mI_ne hM (fun e => hn e.symm), h]
theorem fI_oJ {M M' : Mm} {p q : Nat} {f : Nat → Int64} {g : Nat → Int32} (hM : mJ M p f = M') (h : M.1 q = g) : M'.1 q = g := by rw [← hM]; exact h
theorem fI_oR {M M' : Mm} {p q : Nat} {f : Nat → Nat} {g : Nat → Int32} (hM : mR M p f = M') (h : M.1 q = g) : M'.1 q = g := by rw [← hM]; exact h
theorem fJ_up {M M' : Mm} {p ix : Nat} {v : Int64} {g : Nat → Int64} (hM : mJ M p (vp_updL (M.2.1 p) ix v) = M') (h : M.2.1 p = g) : M'.2.1 p = vp_updL g ix v := by rw [mJ_eq hM, h]
theorem fJ_ne {M M' : Mm} {p q : Nat} {f g : Nat → Int64} (hM : mJ M p f = M') (hn : ¬ p = q) (h : M.2.1 q = g) : M'.2.1 q = g := by rw [mJ_ne hM (fun e => hn e.symm), h]
theorem fJ_oI {M M' : Mm} {p q : Nat} {f : Nat → Int32} {g : Nat → Int64} (hM : mI M p f = M') (h : M.2.1 q = g) : M'.2.1 q = g := by rw [← hM]; exact h
theorem fJ_oR {M M' : Mm} {p q : Nat} {f : Nat → Nat} {g : Nat → Int64} (hM : mR M p f = M') (h : M.2.1 q = g) : M'.2.1 q = g := by rw [← hM]; exact h
theorem fR_up {M M' : Mm} {p ix : Nat} {v : Nat} {g : Nat → Nat} (hM : mR M p (va_up (M.2.2 p) ix v) = M') (h : M.2.2 p = g) : M'.2.2 p = va_up g ix v := by rw [mR_eq hM, h]
theorem fR_ne {M M' : Mm} {p q : Nat} {f g : Nat → Nat} (hM : mR M p f = M') (hn : ¬ p = q) (h : M.2.2 q = g) : M'.2.2 q = g := by rw [mR_ne hM (fun e => hn e.symm), h]
theorem fR_oI {M M' : Mm} {p q : Nat} {f : Nat → Int32} {g : Nat → Nat} (hM : mI M p f = M') (h : M.2.2 q = g) : M'.2.2 q = g := by rw [← hM]; exact h
theorem fR_oJ {M M' : Mm} {p q : Nat} {f : Nat → Int64} {g : Nat → Nat} (hM : mJ M p f = M') (h : M.2.2 q = g) : M'.2.2 q = g := by rw [← hM]; exact h
theorem row_up {M M' : Mm} {p n ix i v : Nat} {x : Int32} {f : Nat → Nat} (hM : mI M p (upd (M.1 p) ix x) = M') (h : ∀ k, k < n → M.1 p k = nI (f k)) (hi : ix = i) (hv : x = nI v) : ∀ k, k < n → M'.1 p k = nI (su f i v k) := by
  intro k hk
  rw [mI_eq hM]
  subst hi
  unfold upd su
  by_cases e : k = ix
  · rw [if_pos e, if_pos e, hv]
  · rw [if_neg e, if_neg e]; exact h k hk
theorem row_ne {M M' : Mm} {p q n : Nat} {g : Nat → Int32} {f : Nat → Nat} (hM : mI M p g = M') (hn : ¬ p = q) (h : ∀ k, k < n → M.1 q k = nI (f k)) : ∀ k, k < n → M'.1 q k = nI (f k) := by
  rw [mI_ne hM (fun e => hn e.symm)]; exact h
theorem row_oJ {M M' : Mm} {p q n : Nat} {g : Nat → Int64} {f : Nat → Nat} (hM : mJ M p g = M') (h : ∀ k, k < n → M.1 q k = nI (f k)) : ∀ k, k < n → M'.1 q k = nI (f k) := by
  rw [← hM]; exact h
theorem row_oR {M M' : Mm} {p q n : Nat} {g : Nat → Nat} {f : Nat → Nat} (hM : mR M p g = M') (h : ∀ k, k < n → M.1 q k = nI (f k)) : ∀ k, k < n → M'.1 q k = nI (f k) := by
  rw [← hM]; exact h
theorem rs_up {M M' : Mm} {ix i v : Nat} {x : Int32} {f0 : Nat → Int32} {σ : Nat → Nat} (hM : mI M 116 (upd (M.1 116) ix x) = M') (h : Rs f0 (M.1 116) σ) (hi : ix = i) (hl : i < 178) (hv : x = nI v) : Rs f0 (M'.1 116) (su σ i v) := by
  rw [mI_eq hM]; exact Rs_up h hi hl hv
theorem rs_ne {M M' : Mm} {p : Nat} {g f0 : Nat → Int32} {σ : Nat → Nat} (hM : mI M p g = M') (hn : ¬ p = 116) (h : Rs f0 (M.1 116) σ) : Rs f0 (M'.1 116) σ := by
  rw [mI_ne hM (fun e => hn e.symm)]; exact h
theorem rs_oJ {M M' : Mm} {p : Nat} {g : Nat → Int64} {f0 : Nat → Int32} {σ : Nat → Nat} (hM : mJ M p g = M') (h : Rs f0 (M.1 116) σ) : Rs f0 (M'.1 116) σ := by
  rw [← hM]; exact h
/-- but for some places, all is as it was -/
def Fr (L : List Nat) (M M' : Mm) : Prop := ∀ p, ¬ p ∈ L → M'.1 p = M.1 p ∧ M'.2.1 p = M.2.1 p ∧ M'.2.2 p = M.2.2 p
theorem fr_rf (L : List Nat) (M : Mm) : Fr L M M := fun _ _ => ⟨rfl, rfl, rfl⟩
theorem fr_sI {L : List Nat} {M0 M M' : Mm} {p : Nat} {f : Nat → Int32} (h : Fr L M0 M) (hM : mI M p f = M') (hp : p ∈ L) : Fr L M0 M' := fun q hq => by
  have e : ¬ q = p := fun e => hq (e ▸ hp)
  have h9 := h q hq
  exact ⟨by rw [mI_ne hM e]; exact h9.1, by rw [← hM]; exact h9.2.1, by rw [← hM]; exact h9.2.2⟩
theorem fr_sJ {L : List Nat} {M0 M M' : Mm} {p : Nat} {f : Nat → Int64} (h : Fr L M0 M) (hM : mJ M p f = M') (hp : p ∈ L) : Fr L M0 M' := fun q hq => by
  have e : ¬ q = p := fun e => hq (e ▸ hp)
  have h9 := h q hq
  exact ⟨by rw [← hM]; exact h9.1, by rw [mJ_ne hM e]; exact h9.2.1, by rw [← hM]; exact h9.2.2⟩
theorem fr_sR {L : List Nat} {M0 M M' : Mm} {p : Nat} {f : Nat → Nat} (h : Fr L M0 M) (hM : mR M p f = M') (hp : p ∈ L) : Fr L M0 M' := fun q hq => by
  have e : ¬ q = p := fun e => hq (e ▸ hp)
  have h9 := h q hq
  exact ⟨by rw [← hM]; exact h9.1, by rw [← hM]; exact h9.2.1, by rw [mR_ne hM e]; exact h9.2.2⟩
theorem fr_tr {L K : List Nat} {M0 M M' : Mm} (h : Fr L M0 M) (h2 : Fr K M M') (hs : ∀ p ∈ K, p ∈ L) : Fr L M0 M' := fun q hq => by
  have h9 := h q hq
  have h8 := h2 q (fun e => hq (hs q e))
  exact ⟨h8.1.trans h9.1, h8.2.1.trans h9.2.1, h8.2.2.trans h9.2.2⟩
theorem fr_up {L K : List Nat} {M0 M : Mm} (h : Fr L M0 M) (hs : ∀ p ∈ L, p ∈ K) : Fr K M0 M := fun q hq => h q (fun e => hq (hs q e))
theorem frI_fun {L : List Nat} {M M' : Mm} {p : Nat} {g : Nat → Int32} (hF : Fr L M M') (hp : ¬ p ∈ L) (h : M.1 p = g) : M'.1 p = g := (hF p hp).1.trans h
theorem frJ_fun {L : List Nat} {M M' : Mm} {p : Nat} {g : Nat → Int64} (hF : Fr L M M') (hp : ¬ p ∈ L) (h : M.2.1 p = g) : M'.2.1 p = g := (hF p hp).2.1.trans h
theorem frR_fun {L : List Nat} {M M' : Mm} {p : Nat} {g : Nat → Nat} (hF : Fr L M M') (hp : ¬ p ∈ L) (h : M.2.2 p = g) : M'.2.2 p = g := (hF p hp).2.2.trans h
theorem fr_row {L : List Nat} {M M' : Mm} {p n : Nat} {f : Nat → Nat} (hF : Fr L M M') (hp : ¬ p ∈ L) (h : ∀ k, k < n → M.1 p k = nI (f k)) : ∀ k, k < n → M'.1 p k = nI (f k) := by
  rw [(hF p hp).1]; exact h
theorem fr_rs {L : List Nat} {M M' : Mm} {f0 : Nat → Int32} {σ : Nat → Nat} (hF : Fr L M M') (hp : ¬ 116 ∈ L) (h : Rs f0 (M.1 116) σ) : Rs f0 (M'.1 116) σ := by
  rw [(hF 116 hp).1]; exact h
theorem LkC_fr {M M' : Mm} {p : Nat} {σ : Nat → Nat} (h : LkC M p σ) (h1 : M'.1 p = M.1 p) (h2 : M'.1 (p + 2) = M.1 (p + 2)) : LkC M' p σ := ⟨h.1, h.2.1, h.2.2.1, by rw [h1]; exact h.2.2.2.1, by rw [h2]; exact h.2.2.2.2⟩
theorem st_cp {M M' : Mm} {b : Nat} {σ : Nat → Nat} (h : StC M b σ) (hl : M'.1 (lkp b) = M.1 (lkp b)) (hl2 : M'.1 (lkp b + 2) = M.1 (lkp b + 2)) (h0 : M'.1 b = M.1 b) (h1 : M'.1 (b + 1) = M.1 (b + 1)) (h2 : M'.1 (b + 2) = M.1 (b + 2)) (h3 : M'.1 (b + 3) = M.1 (b + 3)) (h4 : M'.1 (b + 4) = M.1 (b + 4)) : StC M' b σ :=
  ⟨h.1, LkC_fr h.2.1 hl hl2, by rw [h0]; exact h.2.2.1, by rw [h1]; exact h.2.2.2.1, by rw [h2]; exact h.2.2.2.2.1, by rw [h3]; exact h.2.2.2.2.2.1, by rw [h4]; exact h.2.2.2.2.2.2⟩
theorem fr_st {L : List Nat} {M M' : Mm} {b : Nat} {σ : Nat → Nat} (hF : Fr L M M') (h : StC M b σ) (hp : ∀ p ∈ L, ¬ p = lkp b ∧ ¬ p = lkp b + 2 ∧ (p < b ∨ b + 5 ≤ p)) : StC M' b σ :=
  st_cp h (hF _ (fun e => (hp _ e).1 rfl)).1 (hF _ (fun e => (hp _ e).2.1 rfl)).1 (hF _ (fun e => by have := (hp _ e).2.2; omega)).1 (hF _ (fun e => by have := (hp _ e).2.2; omega)).1 (hF _ (fun e => by have := (hp _ e).2.2; omega)).1 (hF _ (fun e => by have := (hp _ e).2.2; omega)).1 (hF _ (fun e => by have := (hp _ e).2.2; omega)).1
theorem st_ne {M M' : Mm} {b p : Nat} {f : Nat → Int32} {σ : Nat → Nat} (hM : mI M p f = M') (h : StC M b σ) (hp : ¬ p = lkp b ∧ ¬ p = lkp b + 2 ∧ (p < b ∨ b + 5 ≤ p)) : StC M' b σ :=
  st_cp h (mI_ne hM (by omega)) (mI_ne hM (by omega)) (mI_ne hM (by omega)) (mI_ne hM (by omega)) (mI_ne hM (by omega)) (mI_ne hM (by omega)) (mI_ne hM (by omega))
theorem st_oJ {M M' : Mm} {b p : Nat} {f : Nat → Int64} {σ : Nat → Nat} (hM : mJ M p f = M') (h : StC M b σ) : StC M' b σ := by rw [← hM]; exact h
theorem st_oR {M M' : Mm} {b p : Nat} {f : Nat → Nat} {σ : Nat → Nat} (hM : mR M p f = M') (h : StC M b σ) : StC M' b σ := by rw [← hM]; exact h
theorem st_f5 {M M' : Mm} {b v : Nat} {x : Int32} {σ : Nat → Nat} (hM : mI M b (upd (M.1 b) 5 x) = M') (h : StC M b σ) (hv : x = nI v) : StC M' b (su σ 91 v) := by
  obtain ⟨hl, ⟨a1, a2, a3, a4, a5⟩, ⟨f5, f6, f7, f8, f9, f10, h26⟩, hi, ha, ht, hp⟩ := h
  have n : ∀ q, ¬ q = b → M'.1 q = M.1 q := fun q hq => mI_ne hM hq
  have lb := hl.2.2.2.2.2.2.2.2
  have e : M'.1 b = upd (M.1 b) 5 x := mI_eq hM
  refine ⟨hl, ⟨a1, a2, a3, fun k hk => by rw [n _ (by omega), su_ne (by omega)]; exact a4 k hk, fun q hq => ?_⟩, ⟨by rw [e, su_eq rfl]; exact hv, by rw [e, su_ne (by decide)]; exact f6, by rw [e, su_ne (by decide)]; exact f7, by rw [e, su_ne (by decide)]; exact f8, by rw [e, su_ne (by decide)]; exact f9, by rw [e, su_ne (by decide)]; exact f10, by rw [su_ne (by decide)]; exact h26⟩, fun c hc hin => ?_, fun q hq => ?_, fun q hq => ?_, fun q hq => ?_⟩
  · rw [su_ne (by decide)] at hq; rw [n _ (by omega), su_ne (by omega)]; exact a5 q hq
  · have hin : inL σ c := by unfold inL at hin ⊢; rw [su_ne (by decide), su_ne (by decide)] at hin; exact hin
    rw [n _ (by omega), su_ne (by omega)]; exact hi c hc hin
  · rw [su_ne (by decide)] at hq; rw [n _ (by omega), su_ne (by omega)]; exact ha q hq
  · rw [su_ne (by decide)] at hq; rw [n _ (by omega), su_ne (by omega)]; exact ht q hq
  · rw [su_ne (by decide)] at hq; rw [n _ (by omega), su_ne (by omega)]; exact hp q hq
theorem st_f6 {M M' : Mm} {b v : Nat} {x : Int32} {σ : Nat → Nat} (hM : mI M b (upd (M.1 b) 6 x) = M') (h : StC M b σ) (hv : x = nI v) : StC M' b (su σ 92 v) := by
  obtain ⟨hl, ⟨a1, a2, a3, a4, a5⟩, ⟨f5, f6, f7, f8, f9, f10, h26⟩, hi, ha, ht, hp⟩ := h
  have n : ∀ q, ¬ q = b → M'.1 q = M.1 q := fun q hq => mI_ne hM hq
  have lb := hl.2.2.2.2.2.2.2.2
  have e : M'.1 b = upd (M.1 b) 6 x := mI_eq hM
  refine ⟨hl, ⟨a1, a2, a3, fun k hk => by rw [n _ (by omega), su_ne (by omega)]; exact a4 k hk, fun q hq => ?_⟩, ⟨by rw [e, su_ne (by decide)]; exact f5, by rw [e, su_eq rfl]; exact hv, by rw [e, su_ne (by decide)]; exact f7, by rw [e, su_ne (by decide)]; exact f8, by rw [e, su_ne (by decide)]; exact f9, by rw [e, su_ne (by decide)]; exact f10, by rw [su_ne (by decide)]; exact h26⟩, fun c hc hin => ?_, fun q hq => ?_, fun q hq => ?_, fun q hq => ?_⟩
  · rw [su_ne (by decide)] at hq; rw [n _ (by omega), su_ne (by omega)]; exact a5 q hq
  · have hin : inL σ c := by unfold inL at hin ⊢; rw [su_ne (by decide), su_ne (by decide)] at hin; exact hin
    rw [n _ (by omega), su_ne (by omega)]; exact hi c hc hin
  · rw [su_ne (by decide)] at hq; rw [n _ (by omega), su_ne (by omega)]; exact ha q hq
  · rw [su_ne (by decide)] at hq; rw [n _ (by omega), su_ne (by omega)]; exact ht q hq
  · rw [su_ne (by decide)] at hq; rw [n _ (by omega), su_ne (by omega)]; exact hp q hq
theorem st_f7 {M M' : Mm} {b v : Nat} {x : Int32} {σ : Nat → Nat} (hM : mI M b (upd (M.1 b) 7 x) = M') (h : StC M b σ) (hv : x = nI v) : StC M' b (su σ 90 v) := by
  obtain ⟨hl, ⟨a1, a2, a3, a4, a5⟩, ⟨f5, f6, f7, f8, f9, f10, h26⟩, hi, ha, ht, hp⟩ := h
  have n : ∀ q, ¬ q = b → M'.1 q = M.1 q := fun q hq => mI_ne hM hq
  have lb := hl.2.2.2.2.2.2.2.2
  have e : M'.1 b = upd (M.1 b) 7 x := mI_eq hM
  refine ⟨hl, ⟨a1, a2, a3, fun k hk => by rw [n _ (by omega), su_ne (by omega)]; exact a4 k hk, fun q hq => ?_⟩, ⟨by rw [e, su_ne (by decide)]; exact f5, by rw [e, su_ne (by decide)]; exact f6, by rw [e, su_eq rfl]; exact hv, by rw [e, su_ne (by decide)]; exact f8, by rw [e, su_ne (by decide)]; exact f9, by rw [e, su_ne (by decide)]; exact f10, by rw [su_ne (by decide)]; exact h26⟩, fun c hc hin => ?_, fun q hq => ?_, fun q hq => ?_, fun q hq => ?_⟩
  · rw [su_ne (by decide)] at hq; rw [n _ (by omega), su_ne (by omega)]; exact a5 q hq
  · have hin : inL σ c := by unfold inL at hin ⊢; rw [su_ne (by decide), su_ne (by decide)] at hin; exact hin
    rw [n _ (by omega), su_ne (by omega)]; exact hi c hc hin
  · rw [su_ne (by decide)] at hq; rw [n _ (by omega), su_ne (by omega)]; exact ha q hq
  · rw [su_ne (by decide)] at hq; rw [n _ (by omega), su_ne (by omega)]; exact ht q hq
  · rw [su_ne (by decide)] at hq; rw [n _ (by omega), su_ne (by omega)]; exact hp q hq
theorem st_f8 {M M' : Mm} {b v : Nat} {x : Int32} {σ : Nat → Nat} (hM : mI M b (upd (M.1 b) 8 x) = M') (h : StC M b σ) (hv : x = nI v) : StC M' b (su σ 93 v) := by
  obtain ⟨hl, ⟨a1, a2, a3, a4, a5⟩, ⟨f5, f6, f7, f8, f9, f10, h26⟩, hi, ha, ht, hp⟩ := h
  have n : ∀ q, ¬ q = b → M'.1 q = M.1 q := fun q hq => mI_ne hM hq
  have lb := hl.2.2.2.2.2.2.2.2
  have e : M'.1 b = upd (M.1 b) 8 x := mI_eq hM
  refine ⟨hl, ⟨a1, a2, a3, fun k hk => by rw [n _ (by omega), su_ne (by omega)]; exact a4 k hk, fun q hq => ?_⟩, ⟨by rw [e, su_ne (by decide)]; exact f5, by rw [e, su_ne (by decide)]; exact f6, by rw [e, su_ne (by decide)]; exact f7, by rw [e, su_eq rfl]; exact hv, by rw [e, su_ne (by decide)]; exact f9, by rw [e, su_ne (by decide)]; exact f10, by rw [su_ne (by decide)]; exact h26⟩, fun c hc hin => ?_, fun q hq => ?_, fun q hq => ?_, fun q hq => ?_⟩
  · rw [su_ne (by decide)] at hq; rw [n _ (by omega), su_ne (by omega)]; exact a5 q hq
  · have hin : inL σ c := by unfold inL at hin ⊢; rw [su_ne (by decide), su_ne (by decide)] at hin; exact hin
    rw [n _ (by omega), su_ne (by omega)]; exact hi c hc hin
  · rw [su_ne (by decide)] at hq; rw [n _ (by omega), su_ne (by omega)]; exact ha q hq
  · rw [su_ne (by decide)] at hq; rw [n _ (by omega), su_ne (by omega)]; exact ht q hq
  · rw [su_ne (by decide)] at hq; rw [n _ (by omega), su_ne (by omega)]; exact hp q hq
theorem st_f9 {M M' : Mm} {b v : Nat} {x : Int32} {σ : Nat → Nat} (hM : mI M b (upd (M.1 b) 9 x) = M') (h : StC M b σ) (hv : x = nI v) : StC M' b (su σ 94 v) := by
  obtain ⟨hl, ⟨a1, a2, a3, a4, a5⟩, ⟨f5, f6, f7, f8, f9, f10, h26⟩, hi, ha, ht, hp⟩ := h
  have n : ∀ q, ¬ q = b → M'.1 q = M.1 q := fun q hq => mI_ne hM hq
  have lb := hl.2.2.2.2.2.2.2.2
  have e : M'.1 b = upd (M.1 b) 9 x := mI_eq hM
  refine ⟨hl, ⟨a1, a2, a3, fun k hk => by rw [n _ (by omega), su_ne (by omega)]; exact a4 k hk, fun q hq => ?_⟩, ⟨by rw [e, su_ne (by decide)]; exact f5, by rw [e, su_ne (by decide)]; exact f6, by rw [e, su_ne (by decide)]; exact f7, by rw [e, su_ne (by decide)]; exact f8, by rw [e, su_eq rfl]; exact hv, by rw [e, su_ne (by decide)]; exact f10, by rw [su_ne (by decide)]; exact h26⟩, fun c hc hin => ?_, fun q hq => ?_, fun q hq => ?_, fun q hq => ?_⟩
  · rw [su_ne (by decide)] at hq; rw [n _ (by omega), su_ne (by omega)]; exact a5 q hq
  · have hin : inL σ c := by unfold inL at hin ⊢; rw [su_ne (by decide), su_ne (by decide)] at hin; exact hin
    rw [n _ (by omega), su_ne (by omega)]; exact hi c hc hin
  · rw [su_ne (by decide)] at hq; rw [n _ (by omega), su_ne (by omega)]; exact ha q hq
  · rw [su_ne (by decide)] at hq; rw [n _ (by omega), su_ne (by omega)]; exact ht q hq
  · rw [su_ne (by decide)] at hq; rw [n _ (by omega), su_ne (by omega)]; exact hp q hq
theorem st_f10 {M M' : Mm} {b v : Nat} {x : Int32} {σ : Nat → Nat} (hM : mI M b (upd (M.1 b) 10 x) = M') (h : StC M b σ) (hv : x = nI v) : StC M' b (su σ 95 v) := by
  obtain ⟨hl, ⟨a1, a2, a3, a4, a5⟩, ⟨f5, f6, f7, f8, f9, f10, h26⟩, hi, ha, ht, hp⟩ := h
  have n : ∀ q, ¬ q = b → M'.1 q = M.1 q := fun q hq => mI_ne hM hq
  have lb := hl.2.2.2.2.2.2.2.2
  have e : M'.1 b = upd (M.1 b) 10 x := mI_eq hM
  refine ⟨hl, ⟨a1, a2, a3, fun k hk => by rw [n _ (by omega), su_ne (by omega)]; exact a4 k hk, fun q hq => ?_⟩, ⟨by rw [e, su_ne (by decide)]; exact f5, by rw [e, su_ne (by decide)]; exact f6, by rw [e, su_ne (by decide)]; exact f7, by rw [e, su_ne (by decide)]; exact f8, by rw [e, su_ne (by decide)]; exact f9, by rw [e, su_eq rfl]; exact hv, by rw [su_ne (by decide)]; exact h26⟩, fun c hc hin => ?_, fun q hq => ?_, fun q hq => ?_, fun q hq => ?_⟩
  · rw [su_ne (by decide)] at hq; rw [n _ (by omega), su_ne (by omega)]; exact a5 q hq
  · have hin : inL σ c := by unfold inL at hin ⊢; rw [su_ne (by decide), su_ne (by decide)] at hin; exact hin
    rw [n _ (by omega), su_ne (by omega)]; exact hi c hc hin
  · rw [su_ne (by decide)] at hq; rw [n _ (by omega), su_ne (by omega)]; exact ha q hq
  · rw [su_ne (by decide)] at hq; rw [n _ (by omega), su_ne (by omega)]; exact ht q hq
  · rw [su_ne (by decide)] at hq; rw [n _ (by omega), su_ne (by omega)]; exact hp q hq
theorem st_fx {M M' : Mm} {b k : Nat} {x : Int32} {σ : Nat → Nat} (hM : mI M b (upd (M.1 b) k x) = M') (h : StC M b σ) (hk : 10 < k) : StC M' b σ := by
  obtain ⟨hl, ⟨a1, a2, a3, a4, a5⟩, ⟨f5, f6, f7, f8, f9, f10, h26⟩, hi, ha, ht, hp⟩ := h
  have n : ∀ q, ¬ q = b → M'.1 q = M.1 q := fun q hq => mI_ne hM hq
  have lb := hl.2.2.2.2.2.2.2.2
  have e : M'.1 b = upd (M.1 b) k x := mI_eq hM
  have u : ∀ j, j ≤ 10 → M'.1 b j = M.1 b j := fun j hj => by rw [e]; unfold upd; rw [if_neg (by omega)]
  refine ⟨hl, LkC_fr ⟨a1, a2, a3, a4, a5⟩ (n _ (by omega)) (n _ (by omega)), ⟨by rw [u _ (by decide)]; exact f5, by rw [u _ (by decide)]; exact f6, by rw [u _ (by decide)]; exact f7, by rw [u _ (by decide)]; exact f8, by rw [u _ (by decide)]; exact f9, by rw [u _ (by decide)]; exact f10, h26⟩, ?_, ?_, ?_, ?_⟩
  · rw [n _ (by omega)]; exact hi
  · rw [n _ (by omega)]; exact ha
  · rw [n _ (by omega)]; exact ht
  · rw [n _ (by omega)]; exact hp
theorem st_ice {M M' : Mm} {b v ix q : Nat} {x : Int32} {σ : Nat → Nat} (hM : mI M (b + 1) (upd (M.1 (b + 1)) ix x) = M') (h : StC M b σ) (hix : ix = q) (hq6 : q < 64) (hv : x = nI v) : StC M' b (su σ (96 + q) v) := by
  subst hix
  obtain ⟨hl, ⟨a1, a2, a3, a4, a5⟩, ⟨f5, f6, f7, f8, f9, f10, h26⟩, hi, ha, ht, hp⟩ := h
  have n : ∀ q, ¬ q = b + 1 → M'.1 q = M.1 q := fun q hq => mI_ne hM hq
  have lb := hl.2.2.2.2.2.2.2.2
  have e : M'.1 (b + 1) = upd (M.1 (b + 1)) ix x := mI_eq hM
  refine ⟨hl, ⟨a1, a2, a3, fun k hk => by rw [n _ (by omega), su_ne (by omega)]; exact a4 k hk, fun q hq => ?_⟩, ⟨by rw [n _ (by omega), su_ne (by omega)]; exact f5, by rw [n _ (by omega), su_ne (by omega)]; exact f6, by rw [n _ (by omega), su_ne (by omega)]; exact f7, by rw [n _ (by omega), su_ne (by omega)]; exact f8, by rw [n _ (by omega), su_ne (by omega)]; exact f9, by rw [n _ (by omega), su_ne (by omega)]; exact f10, by rw [su_ne (by omega)]; exact h26⟩, fun c hc hin => ?_, fun q hq => ?_, fun q hq => ?_, fun q hq => ?_⟩
  · rw [su_ne (by omega)] at hq
    rw [n _ (by omega), su_ne (by omega)]; exact a5 q hq
  · have hin : inL σ c := by unfold inL at hin ⊢; rw [su_ne (by omega), su_ne (by omega)] at hin; exact hin
    rw [e]
    unfold upd
    by_cases e9 : c = ix
    · rw [if_pos e9, su_eq (by omega)]; exact hv
    · rw [if_neg e9, su_ne (by omega)]; exact hi c hc hin
  · rw [su_ne (by omega)] at hq
    rw [n _ (by omega), su_ne (by omega)]; exact ha q hq
  · rw [su_ne (by omega)] at hq
    rw [n _ (by omega), su_ne (by omega)]; exact ht q hq
  · rw [su_ne (by omega)] at hq
    rw [n _ (by omega), su_ne (by omega)]; exact hp q hq
theorem st_at {M M' : Mm} {b v ix q : Nat} {x : Int32} {σ : Nat → Nat} (hM : mI M (b + 2) (upd (M.1 (b + 2)) ix x) = M') (h : StC M b σ) (hix : ix = q) (hq6 : q < 6) (hv : x = nI v) : StC M' b (su σ (160 + q) v) := by
  subst hix
  obtain ⟨hl, ⟨a1, a2, a3, a4, a5⟩, ⟨f5, f6, f7, f8, f9, f10, h26⟩, hi, ha, ht, hp⟩ := h
  have n : ∀ q, ¬ q = b + 2 → M'.1 q = M.1 q := fun q hq => mI_ne hM hq
  have lb := hl.2.2.2.2.2.2.2.2
  have e : M'.1 (b + 2) = upd (M.1 (b + 2)) ix x := mI_eq hM
  refine ⟨hl, ⟨a1, a2, a3, fun k hk => by rw [n _ (by omega), su_ne (by omega)]; exact a4 k hk, fun q hq => ?_⟩, ⟨by rw [n _ (by omega), su_ne (by omega)]; exact f5, by rw [n _ (by omega), su_ne (by omega)]; exact f6, by rw [n _ (by omega), su_ne (by omega)]; exact f7, by rw [n _ (by omega), su_ne (by omega)]; exact f8, by rw [n _ (by omega), su_ne (by omega)]; exact f9, by rw [n _ (by omega), su_ne (by omega)]; exact f10, by rw [su_ne (by omega)]; exact h26⟩, fun c hc hin => ?_, fun q hq => ?_, fun q hq => ?_, fun q hq => ?_⟩
  · rw [su_ne (by omega)] at hq
    rw [n _ (by omega), su_ne (by omega)]; exact a5 q hq
  · have hin : inL σ c := by unfold inL at hin ⊢; rw [su_ne (by omega), su_ne (by omega)] at hin; exact hin
    rw [n _ (by omega), su_ne (by omega)]; exact hi c hc hin
  · rw [su_ne (by omega)] at hq
    rw [e]
    unfold upd
    by_cases e9 : q = ix
    · rw [if_pos e9, su_eq (by omega)]; exact hv
    · rw [if_neg e9, su_ne (by omega)]; exact ha q hq
  · rw [su_ne (by omega)] at hq
    rw [n _ (by omega), su_ne (by omega)]; exact ht q hq
  · rw [su_ne (by omega)] at hq
    rw [n _ (by omega), su_ne (by omega)]; exact hp q hq
theorem st_tem {M M' : Mm} {b v ix q : Nat} {x : Int32} {σ : Nat → Nat} (hM : mI M (b + 3) (upd (M.1 (b + 3)) ix x) = M') (h : StC M b σ) (hix : ix = q) (hq6 : q < 6) (hv : x = nI v) : StC M' b (su σ (166 + q) v) := by
  subst hix
  obtain ⟨hl, ⟨a1, a2, a3, a4, a5⟩, ⟨f5, f6, f7, f8, f9, f10, h26⟩, hi, ha, ht, hp⟩ := h
  have n : ∀ q, ¬ q = b + 3 → M'.1 q = M.1 q := fun q hq => mI_ne hM hq
  have lb := hl.2.2.2.2.2.2.2.2
  have e : M'.1 (b + 3) = upd (M.1 (b + 3)) ix x := mI_eq hM
  refine ⟨hl, ⟨a1, a2, a3, fun k hk => by rw [n _ (by omega), su_ne (by omega)]; exact a4 k hk, fun q hq => ?_⟩, ⟨by rw [n _ (by omega), su_ne (by omega)]; exact f5, by rw [n _ (by omega), su_ne (by omega)]; exact f6, by rw [n _ (by omega), su_ne (by omega)]; exact f7, by rw [n _ (by omega), su_ne (by omega)]; exact f8, by rw [n _ (by omega), su_ne (by omega)]; exact f9, by rw [n _ (by omega), su_ne (by omega)]; exact f10, by rw [su_ne (by omega)]; exact h26⟩, fun c hc hin => ?_, fun q hq => ?_, fun q hq => ?_, fun q hq => ?_⟩
  · rw [su_ne (by omega)] at hq
    rw [n _ (by omega), su_ne (by omega)]; exact a5 q hq
  · have hin : inL σ c := by unfold inL at hin ⊢; rw [su_ne (by omega), su_ne (by omega)] at hin; exact hin
    rw [n _ (by omega), su_ne (by omega)]; exact hi c hc hin
  · rw [su_ne (by omega)] at hq
    rw [n _ (by omega), su_ne (by omega)]; exact ha q hq
  · rw [su_ne (by omega)] at hq
    rw [e]
    unfold upd
    by_cases e9 : q = ix
    · rw [if_pos e9, su_eq (by omega)]; exact hv
    · rw [if_neg e9, su_ne (by omega)]; exact ht q hq
  · rw [su_ne (by omega)] at hq
    rw [n _ (by omega), su_ne (by omega)]; exact hp q hq
theorem st_pra {M M' : Mm} {b v ix q : Nat} {x : Int32} {σ : Nat → Nat} (hM : mI M (b + 4) (upd (M.1 (b + 4)) ix x) = M') (h : StC M b σ) (hix : ix = q) (hq6 : q < 6) (hv : x = nI v) : StC M' b (su σ (172 + q) v) := by
  subst hix
  obtain ⟨hl, ⟨a1, a2, a3, a4, a5⟩, ⟨f5, f6, f7, f8, f9, f10, h26⟩, hi, ha, ht, hp⟩ := h
  have n : ∀ q, ¬ q = b + 4 → M'.1 q = M.1 q := fun q hq => mI_ne hM hq
  have lb := hl.2.2.2.2.2.2.2.2
  have e : M'.1 (b + 4) = upd (M.1 (b + 4)) ix x := mI_eq hM
  refine ⟨hl, ⟨a1, a2, a3, fun k hk => by rw [n _ (by omega), su_ne (by omega)]; exact a4 k hk, fun q hq => ?_⟩, ⟨by rw [n _ (by omega), su_ne (by omega)]; exact f5, by rw [n _ (by omega), su_ne (by omega)]; exact f6, by rw [n _ (by omega), su_ne (by omega)]; exact f7, by rw [n _ (by omega), su_ne (by omega)]; exact f8, by rw [n _ (by omega), su_ne (by omega)]; exact f9, by rw [n _ (by omega), su_ne (by omega)]; exact f10, by rw [su_ne (by omega)]; exact h26⟩, fun c hc hin => ?_, fun q hq => ?_, fun q hq => ?_, fun q hq => ?_⟩
  · rw [su_ne (by omega)] at hq
    rw [n _ (by omega), su_ne (by omega)]; exact a5 q hq
  · have hin : inL σ c := by unfold inL at hin ⊢; rw [su_ne (by omega), su_ne (by omega)] at hin; exact hin
    rw [n _ (by omega), su_ne (by omega)]; exact hi c hc hin
  · rw [su_ne (by omega)] at hq
    rw [n _ (by omega), su_ne (by omega)]; exact ha q hq
  · rw [su_ne (by omega)] at hq
    rw [n _ (by omega), su_ne (by omega)]; exact ht q hq
  · rw [su_ne (by omega)] at hq
    rw [e]
    unfold upd
    by_cases e9 : q = ix
    · rw [if_pos e9, su_eq (by omega)]; exact hv
    · rw [if_neg e9, su_ne (by omega)]; exact hp q hq
theorem inL_su {σ : Nat → Nat} {i v c : Nat} (hi : 2 ≤ i) : inL (su σ i v) c ↔ inL σ c := by
  unfold inL
  rw [su_ne (by omega), su_ne (by omega)]
theorem lt_su {σ : Nat → Nat} {i v q : Nat} (hi : 3 ≤ i) (h : q < σ 2) : q < su σ i v 2 := by
  rw [su_ne (by omega)]; exact h
theorem vp_in_e {i : Int32} {k n : Nat} (e : i = nI k) (h : k < n) (hn : n < 2 ^ 31) : vp_in i n := by
  rw [e]; exact vp_in_nI h hn
