/-! The lines of a lake's text. -/
/-- where one is, the draft (as the reference has it), its names, what was told once, the cells told -/
abbrev Dst : Type := Nat × (Nat → Nat) × (Nat → Int64) × Nat × Int64
def rdLk (T : Nat → Nat) (L mo p : Nat) (δ : Nat → Nat) (ν : Nat → Int64) (o : Nat) (ic : Int64) : Flt ⊕ Dst :=
  if ¬ ic = 0 ∨ 0 < δ 2 ∨ o.testBit 4 = true then .inl (3, tAt T L mo p) else
  match tkN T L mo (tNx T L p) 2 8 with
  | .inl f => .inl f
  | .inr (w, p1) => match tkN T L mo p1 2 8 with
    | .inl f => .inl f
    | .inr (h, p2) => match tkN T L mo p2 0 9 with
      | .inl f => .inl f
      | .inr (i, p3) => .inr (p3, fz δ w h i, ν, o ||| 2 ^ 4, ic)
/-- the reference behind a line -/
def PRm (M0 : Mm) (g : Nat → Int32) (T : Nat → Nat) (L mo : Nat) (res : Flt ⊕ Dst) : Po := fun r0 M' => Gx KR g (M'.1 114) ∧ Fr [114, 117, 119] M0 M' ∧ (∀ q, q < 6 → M'.2.1 119 q = M0.2.1 119 q) ∧ match res with
  | .inl f => r0 = some (.int (nI 0)) ∧ M'.1 114 15 = nI f.1 ∧ M'.1 114 16 = nI f.2
  | .inr st => r0 = some (.int (nI 1)) ∧ TkM M' T L mo st.1 ∧ (∀ k, k < 90 → M'.1 117 k = nI (st.2.1 k)) ∧ (∀ q, q < st.2.1 2 → M'.2.1 119 (6 + q) = st.2.2.1 q) ∧ M'.1 114 20 = nI st.2.2.2.1 ∧ M'.2.1 114 21 = st.2.2.2.2
theorem ic_fr {L : List Nat} {M M' : Mm} {ic : Int64} (hF : Fr L M M') (hp : ¬ 114 ∈ L) (h : M.2.1 114 21 = ic) : M'.2.1 114 21 = ic := by rw [(hF 114 hp).2.1]; exact h
theorem n6_fr {L : List Nat} {M M' : Mm} {J : Nat → Int64} (hF : Fr L M M') (hp : ¬ 119 ∈ L) (h : ∀ q, q < 6 → M.2.1 119 q = J q) : ∀ q, q < 6 → M'.2.1 119 q = J q := by rw [(hF 119 hp).2.1]; exact h
theorem n6_up {M M' : Mm} {J : Nat → Int64} {ix i : Nat} {v : Int64} (hM : mJ M 119 (vp_updL (M.2.1 119) ix v) = M') (hi : ix = i) (h6 : 6 ≤ i) (h : ∀ q, q < 6 → M.2.1 119 q = J q) : ∀ q, q < 6 → M'.2.1 119 q = J q := fun q hq => by rw [mJ_eq hM, hi, pk_uLn (show q ≠ i by omega)]; exact h q hq
/-- the bounds of a draft -/
def DB (δ : Nat → Nat) : Prop := (2 ≤ δ 0 ∧ δ 0 ≤ 8) ∧ (2 ≤ δ 1 ∧ δ 1 ≤ 8) ∧ δ 2 ≤ 6 ∧ (∀ q, q < δ 2 → δ (72 + q) < 64 ∧ 1 ≤ δ (78 + q) ∧ δ (78 + q) ≤ 5 ∧ δ (84 + q) ≤ 8) ∧ ∀ c, c < 64 → δ (8 + c) ≤ 9
