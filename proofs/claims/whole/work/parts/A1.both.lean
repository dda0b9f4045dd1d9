/-! Calls of both: helpers. -/
theorem rng_n {a b : Nat} {s : Int32} (ha : a < 2 ^ 31) (hb : b < 2 ^ 31) (h : (nI a).toInt ≤ s.toInt ∧ s.toInt ≤ (nI b).toInt) : ∃ k, a ≤ k ∧ k ≤ b ∧ s = nI k := by
  rw [nI_toInt ha, nI_toInt hb] at h
  obtain ⟨j, hj, rfl⟩ := nI_of (x := s) (by rw [Int32.lt_iff_toInt_lt, Int32.toInt_zero]; omega)
  rw [nI_toInt hj] at h
  exact ⟨j, by omega, by omega, rfl⟩
theorem C_PN {ji : Nat} {c : Cf} {M : Mm} {v : Int32} {σ : Nat → Nat} {n : Nat} {H : Nat → Nat → Nat} {ν : Nat → Int64} {T : Nat → Nat} {L : Nat} {fk ak : Int32} {nw : Nat} {uw : Nat → Int32} {hj : Bool} {td : Nat → Int32} {sn : Nat} {A S U : Nat → Nat} {i0 i1 : Img} (hC : CA M σ n H ν T L fk ak nw uw hj td sn A S U i0 i1) (h : Wn 40 ji (PN M (some (.int v))) c) : Wn 40 ji (fun r M1 => r = some (.int v) ∧ FC M M1 ∧ CA M1 σ n H ν T L fk ak nw uw hj td sn A S U i0 i1) c :=
  h.mono (fun r M1 k => by rw [k.2]; exact ⟨k.1, fr_rf _ _, hC⟩)
theorem C_PV {ji : Nat} {c : Cf} {M : Mm} {v : Int32} {σ : Nat → Nat} {n : Nat} {H : Nat → Nat → Nat} {ν : Nat → Int64} {T : Nat → Nat} {L : Nat} {fk ak : Int32} {nw : Nat} {uw : Nat → Int32} {hj : Bool} {td : Nat → Int32} {sn : Nat} {A S U : Nat → Nat} {i0 i1 : Img} (hC : CA M σ n H ν T L fk ak nw uw hj td sn A S U i0 i1) (h : Wn 40 ji (PV M SL (some (.int v))) c) : Wn 40 ji (fun r M1 => r = some (.int v) ∧ FC M M1 ∧ CA M1 σ n H ν T L fk ak nw uw hj td sn A S U i0 i1) c :=
  h.mono (fun r M1 k => by
    have e := (k.2 0 (by decide)).1
    exact ⟨k.1, fr_up k.2 (by decide), CA_fr k.2 (by rw [e]) (by rw [e]) (by rw [e]) (by rw [e]) (by unfold fre SL; decide) hC⟩)
theorem CA_84 {K : List Nat} {M M' : Mm} {σ : Nat → Nat} {n : Nat} {H : Nat → Nat → Nat} {ν : Nat → Int64} {T : Nat → Nat} {L : Nat} {fk ak : Int32} {nw : Nat} {uw : Nat → Int32} {hj : Bool} {td : Nat → Int32} {sn : Nat} {A S U : Nat → Nat} {i0 i1 : Img} (hK : K = [84] ∨ K = [84, 85]) (hF : Fr K M M') (hC : CA M σ n H ν T L fk ak nw uw hj td sn A S U i0 i1) : FC M M' ∧ CA M' σ n H ν T L fk ak nw uw hj td sn A S U i0 i1 := by
  have h0 : ¬ 0 ∈ K := by rcases hK with rfl | rfl <;> decide
  have e := (hF 0 h0).1
  refine ⟨fr_up hF (by rcases hK with rfl | rfl <;> decide), CA_fr hF (by rw [e]) (by rw [e]) (by rw [e]) (by rw [e]) (by unfold fre; rcases hK with rfl | rfl <;> decide) hC⟩
theorem M_PO {jm : Nat} {c : Cf} {M : Mm} {v t : Int32} {σ : Nat → Nat} {n : Nat} {H : Nat → Nat → Nat} {ν : Nat → Int64} {T : Nat → Nat} {L : Nat} {fk ak : Int32} {nw : Nat} {uw : Nat → Int32} {hj : Bool} {td : Nat → Int32} {sn : Nat} {A S U : Nat → Nat} {i0 i1 : Img} {ln : Nat} {tx : Nat → Nat} (hM : MA M σ n H ν T L fk ak nw uw hj td sn A S U i0 i1 ln tx) (h : Wn 40 jm (PO M (M.1 114) t (some (.int v))) c) : Wn 40 jm (fun r M2 => r = some (.int v) ∧ FM M M2 ∧ MA M2 σ n H ν T L fk ak nw uw hj td sn A S U i0 i1 ln tx) c :=
  h.mono (fun r M2 k => ⟨k.1, fr_up k.2.2.2 (by decide), MA_fr k.2.2.2 k.2.2.1 (by decide) (fun p hp => Or.inl (by simpa using hp)) hM⟩)
theorem Gx_upd0 {g g' : Nat → Int32} {v : Int32} (h : g' = upd g 0 v) : Gx [0] g g' := fun k hk => by rw [h]; exact pk_un (fun e => hk (by rw [e]; exact List.mem_singleton.mpr rfl))
theorem MA_q {p : Nat} {M M' : Mm} {σ : Nat → Nat} {n : Nat} {H : Nat → Nat → Nat} {ν : Nat → Int64} {T : Nat → Nat} {L : Nat} {fk ak : Int32} {nw : Nat} {uw : Nat → Int32} {hj : Bool} {td : Nat → Int32} {sn : Nat} {A S U : Nat → Nat} {i0 i1 : Img} {ln : Nat} {tx : Nat → Nat} (hp : frm p ∧ 114 ≤ p ∧ p < 134) (hM : MA M σ n H ν T L fk ak nw uw hj td sn A S U i0 i1 ln tx) (hg : M'.1 114 = upd (M.1 114) 0 (nI 0)) (hF : Fr [114, p] M M') : FM M M' ∧ MA M' σ n H ν T L fk ak nw uw hj td sn A S U i0 i1 ln tx := by
  refine ⟨fr_up hF (fun q hq => ?_), MA_fr hF (Gx_upd0 hg) (by decide) (fun q hq => ?_) hM⟩
  · rw [List.mem_range'_1]
    simp only [List.mem_cons, List.not_mem_nil, or_false] at hq
    omega
  · simp only [List.mem_cons, List.not_mem_nil, or_false] at hq
    rcases hq with rfl | rfl
    · exact Or.inl rfl
    · exact Or.inr hp.1
theorem Rs_rf {f : Nat → Int32} {σ : Nat → Nat} (h : ∀ k, k < 178 → f k = nI (σ k)) : Rs f f σ := ⟨h, fun _ _ => rfl⟩
theorem CodM_cg {f g : Nat → Int32} {n : Nat} {A S U : Nat → Nat} (h : ∀ k, 178 ≤ k → g k = f k) (hc : CodM f n A S U) : CodM g n A S U := by
  refine ⟨by rw [h 178 (by omega)]; exact hc.1, fun i hi => ?_⟩
  rw [h _ (by omega), h _ (by omega), h _ (by omega)]
  exact hc.2 i hi
theorem MA_st {K Z : List Nat} {M M' : Mm} {σ : Nat → Nat} {n : Nat} {H : Nat → Nat → Nat} {ν : Nat → Int64} {T : Nat → Nat} {L : Nat} {fk ak : Int32} {nw : Nat} {uw : Nat → Int32} {hj : Bool} {td : Nat → Int32} {sn : Nat} {A S U : Nat → Nat} {i0 i1 : Img} {ln : Nat} {tx : Nat → Nat} {τ : Nat → Nat} {n2 : Nat} {H2 : Nat → Nat → Nat} (hF : Fr K M M') (hG : Gx Z (M.1 114) (M'.1 114)) (hZ : ∀ s ∈ [2, 15, 30, 31, 32, 34, 38], ¬ s ∈ Z) (hK : ∀ p ∈ K, p = 114 ∨ p = 116 ∨ p = 121 ∨ frm p) (hR : Rs (M.1 116) (M'.1 116) τ) (h2 : τ 2 = σ 2) (h25 : M'.1 114 25 = nI n2) (hH : HMr (M'.1 121) n2 H2) (h : MA M σ n H ν T L fk ak nw uw hj td sn A S U i0 i1 ln tx) : MA M' τ n2 H2 ν T L fk ak nw uw hj td sn A S U i0 i1 ln tx := by
  unfold frm at hK
  have g : ∀ s, s ∈ [2, 15, 30, 31, 32, 34, 38] → M'.1 114 s = M.1 114 s := fun s hs => hG s (hZ s hs)
  have no : ∀ p, p = 115 ∨ (119 ≤ p ∧ p < 121) ∨ (126 ≤ p ∧ p < 129) ∨ (131 ≤ p ∧ p < 134) → ¬ p ∈ K := fun p hp e => by have := hK p e; omega
  unfold MA Rsv
  rw [g 2 (by decide), g 15 (by decide), g 30 (by decide), g 31 (by decide), g 32 (by decide), g 34 (by decide), g 38 (by decide), (hF 115 (no _ (by omega))).1, (hF 119 (no _ (by omega))).2.1, (hF 120 (no _ (by omega))).2.1, (hF 126 (no _ (by omega))).1, (hF 127 (no _ (by omega))).1, (hF 128 (no _ (by omega))).1, h2]
  obtain ⟨a1, a2, a3, a4, a5, a6, a7, a8, a9, b1, b2_, b3, b4⟩ := h
  exact ⟨hR.1, ⟨h25, hH⟩, a3, a4, a5, a6, a7, a8, CodM_cg hR.2 a9, b1, ImM_fr hF (no _ (by omega)) (no _ (by omega)) (no _ (by omega)) b2_, ImM_fr hF (no _ (by omega)) (no _ (by omega)) (no _ (by omega)) b3, b4⟩
theorem M_PGL {jm : Nat} {c : Cf} {M : Mm} {v : Int32} {σ : Nat → Nat} {n : Nat} {H : Nat → Nat → Nat} {ν : Nat → Int64} {T : Nat → Nat} {L : Nat} {fk ak : Int32} {nw : Nat} {uw : Nat → Int32} {hj : Bool} {td : Nat → Int32} {sn : Nat} {A S U : Nat → Nat} {i0 i1 : Img} {ln : Nat} {tx : Nat → Nat} {Z : List Nat} (hZ : Z = [0, 22] ∨ Z = [0, 22, 35]) (hM : MA M σ n H ν T L fk ak nw uw hj td sn A S U i0 i1 ln tx) (h : Wn 40 jm (PGL M (M.1 116) (M.1 114) Z [114, 116, 122] σ (some (.int v))) c) : Wn 40 jm (fun r M2 => r = some (.int v) ∧ FM M M2 ∧ MA M2 σ n H ν T L fk ak nw uw hj td sn A S U i0 i1 ln tx) c :=
  h.mono (fun r M2 k => by
    obtain ⟨e, kR, kG, kF⟩ := k
    refine ⟨e, fr_up kF (by decide), MA_st kF kG (by rcases hZ with rfl | rfl <;> decide) (by unfold frm; decide) kR rfl ?_ ?_ hM⟩
    · rw [kG 25 (by rcases hZ with rfl | rfl <;> decide)]; exact hM.2.1.1
    · rw [(kF 121 (by decide)).1]; exact hM.2.1.2)
theorem M_PA {jm : Nat} {c : Cf} {M : Mm} {v : Int32} {σ : Nat → Nat} {n : Nat} {H : Nat → Nat → Nat} {ν : Nat → Int64} {T : Nat → Nat} {L : Nat} {fk ak : Int32} {nw : Nat} {uw : Nat → Int32} {hj : Bool} {td : Nat → Int32} {sn : Nat} {A S U : Nat → Nat} {i0 i1 : Img} {ln : Nat} {tx : Nat → Nat} {τ τ2 : Nat → Nat} {n2 : Nat} {H2 : Nat → Nat → Nat} (hM : MA M σ n H ν T L fk ak nw uw hj td sn A S U i0 i1 ln tx) (h2 : τ2 2 = σ 2) (ht : ∀ k, k < 178 → τ k = τ2 k) (h : Wn 40 jm (PA M (M.1 116) (M.1 114) [0, 22, 25, 35] [114, 116, 121] τ n2 H2 (some (.int v))) c) : Wn 40 jm (fun r M2 => r = some (.int v) ∧ FM M M2 ∧ MA M2 τ2 n2 H2 ν T L fk ak nw uw hj td sn A S U i0 i1 ln tx) c :=
  h.mono (fun r M2 k => by
    obtain ⟨e, kR, kH, k25, k0, kG, kF⟩ := k
    exact ⟨e, fr_up kF (by decide), MA_st kF kG (by decide) (by unfold frm; decide) ⟨fun k hk => by rw [← ht k hk]; exact kR.1 k hk, kR.2⟩ h2 k25 kH hM⟩)
theorem CA_st {K : List Nat} {M M' : Mm} {σ : Nat → Nat} {n : Nat} {H : Nat → Nat → Nat} {ν : Nat → Int64} {T : Nat → Nat} {L : Nat} {fk ak : Int32} {nw : Nat} {uw : Nat → Int32} {hj : Bool} {td : Nat → Int32} {sn : Nat} {A S U : Nat → Nat} {i0 i1 : Img} {τ : Nat → Nat} {n2 : Nat} {H2 : Nat → Nat → Nat} (hF : Fr K M M') (e1 : M'.1 0 1 = M.1 0 1) (e14 : M'.1 0 14 = M.1 0 14) (e15 : M'.1 0 15 = M.1 0 15) (e16 : M'.1 0 16 = M.1 0 16) (hK : ∀ p ∈ K, p = 0 ∨ (6 ≤ p ∧ p < 11) ∨ (35 ≤ p ∧ p < 77) ∨ fre p) (hS : StC M' 6 τ) (hH : HC M' n2 H2) (h2 : τ 2 = σ 2) (h : CA M σ n H ν T L fk ak nw uw hj td sn A S U i0 i1) : CA M' τ n2 H2 ν T L fk ak nw uw hj td sn A S U i0 i1 := by
  unfold fre at hK
  obtain ⟨⟨h1, h2', h3⟩, ⟨h4, h5⟩, h6, h7, ⟨h8, h9⟩, ⟨ha, hb⟩, hc, ⟨hd, he⟩, hf, hg⟩ := h
  have no : ∀ p, (1 ≤ p ∧ p < 6) ∨ (11 ≤ p ∧ p < 15) ∨ (28 ≤ p ∧ p < 30) ∨ p = 83 ∨ (86 ≤ p ∧ p < 114) → ¬ p ∈ K := fun p hp e => by have := hK p e; omega
  exact ⟨⟨hS, hH, by rw [h2]; exact NmC_fr hF (no _ (by omega)) h3⟩, ⟨e1.trans h4, by rw [(hF 1 (no 1 (by omega))).1]; exact h5⟩, e15.trans h6, e16.trans h7, ⟨by rw [(hF 83 (no 83 (by omega))).1]; exact h8, by rw [(hF 86 (no 86 (by omega))).1]; exact h9⟩, ⟨e14.trans ha, by rw [(hF 87 (no 87 (by omega))).1]; exact hb⟩, SnC_fr hF (no _ (by omega)) (no _ (by omega)) (no _ (by omega)) (no _ (by omega)) hc, ⟨by rw [(hF 28 (no 28 (by omega))).2.2]; exact hd, by rw [(hF 28 (no 28 (by omega))).2.2]; exact he⟩, ImC_fr hF (Or.inl rfl) (fun p hp => by have := hK p hp; omega) hf, ImC_fr hF (Or.inr rfl) (fun p hp => by have := hK p hp; omega) hg⟩
theorem CL_in {p : Nat} (h : p ∈ CL) : (6 ≤ p ∧ p < 11) ∨ (35 ≤ p ∧ p < 77) := by
  unfold CL HL at h
  simp only [List.mem_append, List.mem_cons, List.not_mem_nil, or_false, List.mem_range'_1] at h
  omega
theorem C_PC {ji : Nat} {c : Cf} {M : Mm} {v : Int32} {σ : Nat → Nat} {n : Nat} {H : Nat → Nat → Nat} {ν : Nat → Int64} {T : Nat → Nat} {L : Nat} {fk ak : Int32} {nw : Nat} {uw : Nat → Int32} {hj : Bool} {td : Nat → Int32} {sn : Nat} {A S U : Nat → Nat} {i0 i1 : Img} {τ : Nat → Nat} {n2 : Nat} {H2 : Nat → Nat → Nat} (hC : CA M σ n H ν T L fk ak nw uw hj td sn A S U i0 i1) (h2 : τ 2 = σ 2) (h : Wn 40 ji (PC M τ n2 H2 (some (.int v))) c) : Wn 40 ji (fun r M1 => r = some (.int v) ∧ FC M M1 ∧ CA M1 τ n2 H2 ν T L fk ak nw uw hj td sn A S U i0 i1) c :=
  h.mono (fun r M1 k => by
    obtain ⟨e, kS, kH, kF⟩ := k
    have e0 := (kF 0 (fun h => by have := CL_in h; omega)).1
    exact ⟨e, fr_up kF (fun p hp => by have := CL_in hp; rw [List.mem_range]; omega), CA_st kF (by rw [e0]) (by rw [e0]) (by rw [e0]) (by rw [e0]) (fun p hp => by have := CL_in hp; omega) kS kH h2 hC⟩)
theorem GD_act {b : Nat} {σ τ : Nat → Nat} (h : GD b σ) (hV : Inv τ) (hs : ∀ i, i < 90 → τ i = σ i) (hp : ∀ r, r < 6 → τ (172 + r) ≤ σ (172 + r) + 41) : GD (b + 64) τ := by
  have b6 := Bd_2 h.1.1
  have e2 := hs 2 (by omega)
  refine ⟨hV, fun q hq => ?_, fun r hr => ?_⟩
  · rw [e2] at hq
    rw [hs (78 + q) (by omega)]
    exact h.2.1 q hq
  · have a := hp r hr
    have c := h.2.2 r hr
    omega
theorem hp_ok {b n : Nat} {σ τ : Nat → Nat} {H : Nat → Nat → Nat} (hn : n ≤ 8) (h : GD b σ) (hH : ∀ k, k < n → GD b (H k) ∧ SmL σ (H k)) (hs : ∀ i, i < 90 → τ i = σ i) : ∀ k, k < hpn n → GD (b + 64) (hpH n H σ k) ∧ SmL τ (hpH n H σ k) := by
  intro k hk
  have g0 : GD (b + 64) σ ∧ SmL τ σ := ⟨GD_up h (by omega), fun i hi => (hs i hi).symm⟩
  have g1 : ∀ j, j < n → GD (b + 64) (H j) ∧ SmL τ (H j) := fun j hj => ⟨GD_up (hH j hj).1 (by omega), fun i hi => by rw [(hH j hj).2 i hi, hs i hi]⟩
  unfold hpn at hk
  unfold hpH
  by_cases e : n = 8
  · rw [if_pos e] at hk ⊢
    by_cases e7 : k = 7
    · rw [if_pos e7]; exact g0
    · rw [if_neg e7]; exact g1 _ (by omega)
  · rw [if_neg e] at hk ⊢
    by_cases e7 : k = n
    · rw [if_pos e7]; exact g0
    · rw [if_neg e7]; exact g1 _ (by omega)
theorem PUr_act {b : Nat} {σ : Nat → Nat} {n : Nat} {H : Nat → Nat → Nat} {ν : Nat → Int64} {T : Nat → Nat} {L : Nat} {fk ak : Int32} {nw : Nat} {uw : Nat → Int32} {hj : Bool} {td : Nat → Int32} {sn : Nat} {A S U : Nat → Nat} {i0 i1 : Img} {τ : Nat → Nat} (P : Prop) {iP : Decidable P} (h : PUr b σ n H ν T L fk ak nw uw hj td sn A S U i0 i1) (hV : Inv τ) (hs : ∀ i, i < 90 → τ i = σ i) (hp : ∀ r, r < 6 → τ (172 + r) ≤ σ (172 + r) + 41) : PUr (b + 64) τ (if P then hpn n else n) (if P then hpH n H σ else H) ν T L fk ak nw uw hj td sn A S U i0 i1 := by
  obtain ⟨h1, h2, h3, h4, h5, h6, h7, h8, h9⟩ := h
  have e2 := hs 2 (by omega)
  refine ⟨GD_act h1 hV hs hp, ?_, fun k hk => ?_, h4, h5, by rw [e2]; exact h6, by rw [e2]; exact h7, ImG_up h8 (by omega), ImG_up h9 (by omega)⟩
  · by_cases c : P
    · rw [if_pos c]; unfold hpn; split <;> omega
    · rw [if_neg c]; exact h2
  · by_cases c : P
    · rw [if_pos c] at hk ⊢; exact hp_ok h2 h1 h3 hs k hk
    · rw [if_neg c] at hk ⊢; exact ⟨GD_up (h3 k hk).1 (by omega), fun i hi => by rw [(h3 k hk).2 i hi, hs i hi]⟩
theorem PR_rel {b ln : Nat} {tx : Nat → Nat} {ji jm : Nat} {As : List Value} {M : Mm} {Rl : Int32 → Prop} {σ : Nat → Nat} {n : Nat} {H : Nat → Nat → Nat} {ν : Nat → Int64} {T : Nat → Nat} {L : Nat} {fk ak : Int32} {nw : Nat} {uw : Nat → Int32} {hj : Bool} {td : Nat → Int32} {sn : Nat} {A S U : Nat → Nat} {i0 i1 : Img} (hu : ∀ v w, Rl v → Rl w → v = w) (h1 : Wn 40 ji (fun r M1 => (∃ v, Rl v ∧ r = some (.int v)) ∧ FC M M1 ∧ CA M1 σ n H ν T L fk ak nw uw hj td sn A S U i0 i1) (0, lv_args 0 (.ref 0 :: As), [], M)) (h2 : ∀ M1, FC M M1 → Wn 40 jm (fun r M2 => (∃ v, Rl v ∧ r = some (.int v)) ∧ FM M1 M2 ∧ MA M2 σ n H ν T L fk ak nw uw hj td sn A S U i0 i1 ln tx) (0, lv_args 0 (.ref 114 :: As), [], M1)) (hU : PUr (b + 64) σ n H ν T L fk ak nw uw hj td sn A S U i0 i1) : PR b ln tx ji jm As M :=
  h1.mono (fun r M1 h => by
    obtain ⟨⟨v, hv, e⟩, hF, hC⟩ := h
    refine ⟨v, e, (h2 M1 hF).mono (fun r2 M2 k => ?_)⟩
    obtain ⟨⟨w, hw, e2⟩, kF, kM⟩ := k
    exact ⟨by rw [e2, hu w v hw hv], σ, n, H, ν, T, L, fk, ak, nw, uw, hj, td, sn, A, S, U, i0, i1, CA_FM kF hC, kM, hU⟩)
