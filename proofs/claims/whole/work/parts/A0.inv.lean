/-! The law's invariant: what the class and the reference hold is one state. -/
abbrev Img : Type := Bool × (Nat → Nat) × (Nat → Int64) × Nat × (Nat → Nat) × (Nat → Nat) × (Nat → Nat)
def FC (M M' : Mm) : Prop := Fr (List.range 114) M M'
def FM (M M' : Mm) : Prop := Fr (List.range' 114 20) M M'
def ImC (M : Mm) (c P : Nat) (i : Img) : Prop := M.1 29 c = b2 (i.1 = true) ∧ (i.1 = true → StC M (P + 4) i.2.1 ∧ NmC M (P + 1) i.2.2.1 (i.2.1 2) ∧ SnC M (P + 9) i.2.2.2.1 i.2.2.2.2.1 i.2.2.2.2.2.1 i.2.2.2.2.2.2)
def ImM (M : Mm) (c : Nat) (i : Img) : Prop := M.1 133 c = b2 (i.1 = true) ∧ (i.1 = true → (∀ k, k < 178 → M.1 131 (359 * c + k) = nI (i.2.1 k)) ∧ (∀ q, q < i.2.1 2 → M.2.1 132 (6 * c + q) = i.2.2.1 q) ∧ CodM (fun k => M.1 131 (359 * c + k)) i.2.2.2.1 i.2.2.2.2.1 i.2.2.2.2.2.1 i.2.2.2.2.2.2)
def CA (M : Mm) (σ : Nat → Nat) (n : Nat) (H : Nat → Nat → Nat) (ν : Nat → Int64) (T : Nat → Nat) (L : Nat) (fk ak : Int32) (nw : Nat) (uw : Nat → Int32) (hj : Bool) (td : Nat → Int32) (sn : Nat) (A S U : Nat → Nat) (i0 i1 : Img) : Prop := (StC M 6 σ ∧ HC M n H ∧ NmC M 3 ν (σ 2)) ∧ (M.1 0 1 = nI L ∧ TB (M.1 1) T L) ∧ M.1 0 15 = fk ∧ M.1 0 16 = ak ∧ (M.1 83 3 = nI nw ∧ ∀ e, e < nw → M.1 86 e = uw e) ∧ (M.1 0 14 = b2 (hj = true) ∧ (hj = true → ∀ k, k < 4 → M.1 87 k = td k)) ∧ SnC M 11 sn A S U ∧ (M.2.2 28 0 = 88 ∧ M.2.2 28 1 = 101) ∧ ImC M 0 88 i0 ∧ ImC M 1 101 i1
def MA (M : Mm) (σ : Nat → Nat) (n : Nat) (H : Nat → Nat → Nat) (ν : Nat → Int64) (T : Nat → Nat) (L : Nat) (fk ak : Int32) (nw : Nat) (uw : Nat → Int32) (hj : Bool) (td : Nat → Int32) (sn : Nat) (A S U : Nat → Nat) (i0 i1 : Img) (ln : Nat) (tx : Nat → Nat) : Prop := (∀ k, k < 178 → M.1 116 k = nI (σ k)) ∧ (M.1 114 25 = nI n ∧ HMr (M.1 121) n H) ∧ (∀ q, q < σ 2 → M.2.1 119 q = ν q) ∧ (M.1 114 2 = nI L ∧ TM (M.1 115) T L) ∧ M.1 114 15 = fk ∧ (if M.1 114 32 = 0 then (-1 : Int32) else M.1 114 31) = ak ∧ ((M.1 114 30 = nI nw ∨ (nw = 0 ∧ M.1 114 30 = (-1 : Int32))) ∧ ∀ e, e < nw → M.1 126 e = uw e) ∧ (M.1 114 38 = b2 (hj = true) ∧ (hj = true → ∀ k, k < 4 → M.1 128 k = td k)) ∧ CodM (M.1 116) sn A S U ∧ Rsv M ∧ ImM M 0 i0 ∧ ImM M 1 i1 ∧ (M.1 114 34 = nI ln ∧ ∀ e, e < ln → M.1 127 e = nI (tx e))
/-- a state that is as it should be; so often was anybody praised at most -/
def GD (b : Nat) (σ : Nat → Nat) : Prop := Inv σ ∧ (∀ q, q < σ 2 → 1 ≤ σ (78 + q)) ∧ ∀ r, r < 6 → σ (172 + r) ≤ b
def SmL (σ τ : Nat → Nat) : Prop := ∀ i, i < 90 → τ i = σ i
/-- a name: seven small letters at most -/
def NmB1 (v : Int64) : Prop := ∃ w : Nat, w < 72057594037927936 ∧ (∀ k, k < 8 → w / 2 ^ (8 * k) % 256 < 128) ∧ v = Int64.ofNat w
def NmB (ν : Nat → Int64) (m : Nat) : Prop := ∀ q, q < m → NmB1 (ν q)
def ImG (b : Nat) (i : Img) : Prop := i.1 = true → GD b i.2.1 ∧ SenV (i.2.1 2) i.2.2.2.1 i.2.2.2.2.1 i.2.2.2.2.2.1 i.2.2.2.2.2.2 ∧ NmB i.2.2.1 (i.2.1 2)
def PUr (b : Nat) (σ : Nat → Nat) (n : Nat) (H : Nat → Nat → Nat) (ν : Nat → Int64) (T : Nat → Nat) (L : Nat) (fk ak : Int32) (nw : Nat) (uw : Nat → Int32) (hj : Bool) (td : Nat → Int32) (sn : Nat) (A S U : Nat → Nat) (i0 i1 : Img) : Prop := GD b σ ∧ n ≤ 8 ∧ (∀ k, k < n → GD b (H k) ∧ SmL σ (H k)) ∧ L ≤ 940 ∧ nw < 64 ∧ SenV (σ 2) sn A S U ∧ NmB ν (σ 2) ∧ ImG b i0 ∧ ImG b i1
def JV (b ln : Nat) (tx : Nat → Nat) (M : Mm) : Prop := ∃ (σ : Nat → Nat) (n : Nat) (H : Nat → Nat → Nat) (ν : Nat → Int64) (T : Nat → Nat) (L : Nat) (fk ak : Int32) (nw : Nat) (uw : Nat → Int32) (hj : Bool) (td : Nat → Int32) (sn : Nat) (A S U : Nat → Nat) (i0 i1 : Img), CA M σ n H ν T L fk ak nw uw hj td sn A S U i0 i1 ∧ MA M σ n H ν T L fk ak nw uw hj td sn A S U i0 i1 ln tx ∧ PUr b σ n H ν T L fk ak nw uw hj td sn A S U i0 i1
theorem GD_up {b c : Nat} {σ : Nat → Nat} (h : GD b σ) (hc : b ≤ c) : GD c σ := ⟨h.1, h.2.1, fun r hr => Nat.le_trans (h.2.2 r hr) hc⟩
theorem ImG_up {b c : Nat} {i : Img} (h : ImG b i) (hc : b ≤ c) : ImG c i := fun e => ⟨GD_up (h e).1 hc, (h e).2⟩
theorem PUr_up {b c : Nat} {σ : Nat → Nat} {n : Nat} {H : Nat → Nat → Nat} {ν : Nat → Int64} {T : Nat → Nat} {L : Nat} {fk ak : Int32} {nw : Nat} {uw : Nat → Int32} {hj : Bool} {td : Nat → Int32} {sn : Nat} {A S U : Nat → Nat} {i0 i1 : Img} (h : PUr b σ n H ν T L fk ak nw uw hj td sn A S U i0 i1) (hc : b ≤ c) : PUr c σ n H ν T L fk ak nw uw hj td sn A S U i0 i1 := ⟨GD_up h.1 hc, h.2.1, fun k hk => ⟨GD_up (h.2.2.1 k hk).1 hc, (h.2.2.1 k hk).2⟩, h.2.2.2.1, h.2.2.2.2.1, h.2.2.2.2.2.1, h.2.2.2.2.2.2.1, ImG_up h.2.2.2.2.2.2.2.1 hc, ImG_up h.2.2.2.2.2.2.2.2 hc⟩
/-- places of the class that nothing is said of -/
def fre (p : Nat) : Prop := (15 ≤ p ∧ p < 28) ∨ (30 ≤ p ∧ p < 35) ∨ (77 ≤ p ∧ p < 83) ∨ p = 84 ∨ p = 85 ∨ 114 ≤ p
theorem ImC_fr {K : List Nat} {M M' : Mm} {c P : Nat} {i : Img} (hF : Fr K M M') (hP : (P = 88 ∨ P = 101)) (hK : ∀ p ∈ K, ¬ p = 29 ∧ (p < 88 ∨ 114 ≤ p)) (h : ImC M c P i) : ImC M' c P i := by
  have no : ∀ p, p = 29 ∨ (88 ≤ p ∧ p < 114) → ¬ p ∈ K := fun p hp e => by have := hK p e; omega
  refine ⟨by rw [(hF 29 (no 29 (Or.inl rfl))).1]; exact h.1, fun e => ?_⟩
  obtain ⟨h1, h2, h3⟩ := h.2 e
  have el : lkp (P + 4) = P + 1 := by rcases hP with rfl | rfl <;> rfl
  exact ⟨fr_st hF h1 (fun p hp => by have := hK p hp; rw [el]; omega), NmC_fr hF (no _ (by omega)) h2, SnC_fr hF (no _ (by omega)) (no _ (by omega)) (no _ (by omega)) (no _ (by omega)) h3⟩
theorem CA_fr {K : List Nat} {M M' : Mm} {σ : Nat → Nat} {n : Nat} {H : Nat → Nat → Nat} {ν : Nat → Int64} {T : Nat → Nat} {L : Nat} {fk ak : Int32} {nw : Nat} {uw : Nat → Int32} {hj : Bool} {td : Nat → Int32} {sn : Nat} {A S U : Nat → Nat} {i0 i1 : Img} (hF : Fr K M M') (e1 : M'.1 0 1 = M.1 0 1) (e14 : M'.1 0 14 = M.1 0 14) (e15 : M'.1 0 15 = M.1 0 15) (e16 : M'.1 0 16 = M.1 0 16) (hK : ∀ p ∈ K, p = 0 ∨ fre p) (h : CA M σ n H ν T L fk ak nw uw hj td sn A S U i0 i1) : CA M' σ n H ν T L fk ak nw uw hj td sn A S U i0 i1 := by
  unfold fre at hK
  obtain ⟨⟨h1, h2, h3⟩, ⟨h4, h5⟩, h6, h7, ⟨h8, h9⟩, ⟨ha, hb⟩, hc, ⟨hd, he⟩, hf, hg⟩ := h
  have no : ∀ p, (1 ≤ p ∧ p < 15) ∨ (28 ≤ p ∧ p < 30) ∨ (35 ≤ p ∧ p < 77) ∨ p = 83 ∨ (86 ≤ p ∧ p < 114) → ¬ p ∈ K := fun p hp e => by have := hK p e; omega
  refine ⟨⟨fr_st hF h1 (fun p hp => ?_), HC_fr hF h2 (fun p hp => by have := hK p hp; omega), NmC_fr hF (no _ (by omega)) h3⟩, ⟨e1.trans h4, by rw [(hF 1 (no 1 (by omega))).1]; exact h5⟩, e15.trans h6, e16.trans h7, ⟨by rw [(hF 83 (no 83 (by omega))).1]; exact h8, by rw [(hF 86 (no 86 (by omega))).1]; exact h9⟩, ⟨e14.trans ha, by rw [(hF 87 (no 87 (by omega))).1]; exact hb⟩, SnC_fr hF (no _ (by omega)) (no _ (by omega)) (no _ (by omega)) (no _ (by omega)) hc, ⟨by rw [(hF 28 (no 28 (by omega))).2.2]; exact hd, by rw [(hF 28 (no 28 (by omega))).2.2]; exact he⟩, ImC_fr hF (Or.inl rfl) (fun p hp => by have := hK p hp; omega) hf, ImC_fr hF (Or.inr rfl) (fun p hp => by have := hK p hp; omega) hg⟩
  have := hK p hp
  show ¬ p = 3 ∧ ¬ p = 3 + 2 ∧ (p < 6 ∨ 6 + 5 ≤ p)
  omega
theorem CA_FM {M M' : Mm} {σ : Nat → Nat} {n : Nat} {H : Nat → Nat → Nat} {ν : Nat → Int64} {T : Nat → Nat} {L : Nat} {fk ak : Int32} {nw : Nat} {uw : Nat → Int32} {hj : Bool} {td : Nat → Int32} {sn : Nat} {A S U : Nat → Nat} {i0 i1 : Img} (hF : FM M M') (h : CA M σ n H ν T L fk ak nw uw hj td sn A S U i0 i1) : CA M' σ n H ν T L fk ak nw uw hj td sn A S U i0 i1 := by
  have e := (hF 0 (by decide)).1
  exact CA_fr hF (by rw [e]) (by rw [e]) (by rw [e]) (by rw [e]) (fun p hp => Or.inr (Or.inr (Or.inr (Or.inr (Or.inr (Or.inr (by rw [List.mem_range'_1] at hp; exact hp.1))))))) h
theorem ImM_fr {K : List Nat} {M M' : Mm} {c : Nat} {i : Img} (hF : Fr K M M') (h1 : ¬ 131 ∈ K) (h2 : ¬ 132 ∈ K) (h3 : ¬ 133 ∈ K) (h : ImM M c i) : ImM M' c i := by
  unfold ImM
  rw [(hF 131 h1).1, (hF 132 h2).2.1, (hF 133 h3).1]
  exact h
/-- the reference's slots that something is said of -/
def s14 : List Nat := [2, 15, 25, 30, 31, 32, 34, 38]
def frm (p : Nat) : Prop := p < 114 ∨ p = 117 ∨ p = 118 ∨ (122 ≤ p ∧ p < 126) ∨ p = 129 ∨ p = 130
theorem MA_fr {K Z : List Nat} {M M' : Mm} {σ : Nat → Nat} {n : Nat} {H : Nat → Nat → Nat} {ν : Nat → Int64} {T : Nat → Nat} {L : Nat} {fk ak : Int32} {nw : Nat} {uw : Nat → Int32} {hj : Bool} {td : Nat → Int32} {sn : Nat} {A S U : Nat → Nat} {i0 i1 : Img} {ln : Nat} {tx : Nat → Nat} (hF : Fr K M M') (hG : Gx Z (M.1 114) (M'.1 114)) (hZ : ∀ s ∈ s14, ¬ s ∈ Z) (hK : ∀ p ∈ K, p = 114 ∨ frm p) (h : MA M σ n H ν T L fk ak nw uw hj td sn A S U i0 i1 ln tx) : MA M' σ n H ν T L fk ak nw uw hj td sn A S U i0 i1 ln tx := by
  unfold frm at hK
  have g : ∀ s, s ∈ s14 → M'.1 114 s = M.1 114 s := fun s hs => hG s (hZ s hs)
  have no : ∀ p, p = 115 ∨ p = 116 ∨ (119 ≤ p ∧ p < 122) ∨ (126 ≤ p ∧ p < 129) ∨ (131 ≤ p ∧ p < 134) → ¬ p ∈ K := fun p hp e => by have := hK p e; omega
  unfold MA Rsv
  rw [g 2 (by decide), g 15 (by decide), g 25 (by decide), g 30 (by decide), g 31 (by decide), g 32 (by decide), g 34 (by decide), g 38 (by decide), (hF 115 (no _ (by omega))).1, (hF 116 (no _ (by omega))).1, (hF 119 (no _ (by omega))).2.1, (hF 120 (no _ (by omega))).2.1, (hF 121 (no _ (by omega))).1, (hF 126 (no _ (by omega))).1, (hF 127 (no _ (by omega))).1, (hF 128 (no _ (by omega))).1]
  obtain ⟨a1, a2, a3, a4, a5, a6, a7, a8, a9, b1, b2_, b3, b4⟩ := h
  exact ⟨a1, a2, a3, a4, a5, a6, a7, a8, a9, b1, ImM_fr hF (no _ (by omega)) (no _ (by omega)) (no _ (by omega)) b2_, ImM_fr hF (no _ (by omega)) (no _ (by omega)) (no _ (by omega)) b3, b4⟩
theorem MA_FC {M M' : Mm} {σ : Nat → Nat} {n : Nat} {H : Nat → Nat → Nat} {ν : Nat → Int64} {T : Nat → Nat} {L : Nat} {fk ak : Int32} {nw : Nat} {uw : Nat → Int32} {hj : Bool} {td : Nat → Int32} {sn : Nat} {A S U : Nat → Nat} {i0 i1 : Img} {ln : Nat} {tx : Nat → Nat} (hF : FC M M') (h : MA M σ n H ν T L fk ak nw uw hj td sn A S U i0 i1 ln tx) : MA M' σ n H ν T L fk ak nw uw hj td sn A S U i0 i1 ln tx :=
  MA_fr (Z := []) hF (fun k _ => by rw [(hF 114 (by rw [List.mem_range]; omega)).1]) (fun s _ => List.not_mem_nil) (fun p hp => Or.inr (Or.inl (List.mem_range.mp hp))) h
/-- a call of both: their answers are one, and the invariant holds behind them -/
def PR (b ln : Nat) (tx : Nat → Nat) (ji jm : Nat) (As : List Value) (M : Mm) : Prop := Wn 40 ji (fun r M1 => ∃ v, r = some (.int v) ∧ Wn 40 jm (fun r2 M2 => r2 = some (.int v) ∧ JV (b + 64) ln tx M2) (0, lv_args 0 (.ref 114 :: As), [], M1)) (0, lv_args 0 (.ref 0 :: As), [], M)
theorem PR_of {b ln : Nat} {tx : Nat → Nat} {ji jm : Nat} {As : List Value} {M : Mm} {v : Int32} {σ : Nat → Nat} {n : Nat} {H : Nat → Nat → Nat} {ν : Nat → Int64} {T : Nat → Nat} {L : Nat} {fk ak : Int32} {nw : Nat} {uw : Nat → Int32} {hj : Bool} {td : Nat → Int32} {sn : Nat} {A S U : Nat → Nat} {i0 i1 : Img} (h1 : Wn 40 ji (fun r M1 => r = some (.int v) ∧ FC M M1 ∧ CA M1 σ n H ν T L fk ak nw uw hj td sn A S U i0 i1) (0, lv_args 0 (.ref 0 :: As), [], M)) (h2 : ∀ M1, FC M M1 → Wn 40 jm (fun r M2 => r = some (.int v) ∧ FM M1 M2 ∧ MA M2 σ n H ν T L fk ak nw uw hj td sn A S U i0 i1 ln tx) (0, lv_args 0 (.ref 114 :: As), [], M1)) (hU : PUr (b + 64) σ n H ν T L fk ak nw uw hj td sn A S U i0 i1) : PR b ln tx ji jm As M :=
  h1.mono (fun r M1 h => ⟨v, h.1, (h2 M1 h.2.1).mono (fun r2 M2 k => ⟨k.1, σ, n, H, ν, T, L, fk, ak, nw, uw, hj, td, sn, A, S, U, i0, i1, CA_FM k.2.1 h.2.2, k.2.2, hU⟩)⟩)
