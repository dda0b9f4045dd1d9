/-! Calls of both: the tape, lake, sentence, swore. -/
theorem CA_gen {K : List Nat} {M M' : Mm} {σ : Nat → Nat} {n : Nat} {H : Nat → Nat → Nat} {ν : Nat → Int64} {T : Nat → Nat} {L : Nat} {fk ak : Int32} {nw : Nat} {uw : Nat → Int32} {hj : Bool} {td : Nat → Int32} {sn : Nat} {A S U : Nat → Nat} {i0 i1 : Img} {τ : Nat → Nat} {n2 : Nat} {H2 : Nat → Nat → Nat} {ν2 : Nat → Int64} {T2 : Nat → Nat} {L2 : Nat} {fk2 ak2 : Int32} {hj2 : Bool} {td2 : Nat → Int32} {sn2 : Nat} {A2 S2 U2 : Nat → Nat} (hF : Fr K M M') (hK : ∀ p ∈ K, ¬ (28 ≤ p ∧ p < 30) ∧ ¬ p = 83 ∧ ¬ p = 86 ∧ ¬ (88 ≤ p ∧ p < 114)) (hst : StC M' 6 τ ∧ HC M' n2 H2 ∧ NmC M' 3 ν2 (τ 2)) (ht : M'.1 0 1 = nI L2 ∧ TB (M'.1 1) T2 L2) (hf : M'.1 0 15 = fk2) (ha : M'.1 0 16 = ak2) (hjj : M'.1 0 14 = b2 (hj2 = true) ∧ (hj2 = true → ∀ k, k < 4 → M'.1 87 k = td2 k)) (hs : SnC M' 11 sn2 A2 S2 U2) (h : CA M σ n H ν T L fk ak nw uw hj td sn A S U i0 i1) : CA M' τ n2 H2 ν2 T2 L2 fk2 ak2 nw uw hj2 td2 sn2 A2 S2 U2 i0 i1 := by
  obtain ⟨_, _, _, _, ⟨h8, h9⟩, _, _, ⟨hd, he⟩, hf9, hg9⟩ := h
  have no : ∀ p, (28 ≤ p ∧ p < 30) ∨ p = 83 ∨ p = 86 ∨ (88 ≤ p ∧ p < 114) → ¬ p ∈ K := fun p hp e => by have := hK p e; omega
  exact ⟨hst, ht, hf, ha, ⟨by rw [(hF 83 (no 83 (by omega))).1]; exact h8, by rw [(hF 86 (no 86 (by omega))).1]; exact h9⟩, hjj, hs, ⟨by rw [(hF 28 (no 28 (by omega))).2.2]; exact hd, by rw [(hF 28 (no 28 (by omega))).2.2]; exact he⟩, ImC_fr hF (Or.inl rfl) (fun p hp => by have := hK p hp; omega) hf9, ImC_fr hF (Or.inr rfl) (fun p hp => by have := hK p hp; omega) hg9⟩
theorem CA_st0 {K : List Nat} {M M' : Mm} {σ : Nat → Nat} {n : Nat} {H : Nat → Nat → Nat} {ν : Nat → Int64} {T : Nat → Nat} {L : Nat} {fk ak : Int32} {nw : Nat} {uw : Nat → Int32} {hj : Bool} {td : Nat → Int32} {sn : Nat} {A S U : Nat → Nat} {i0 i1 : Img} (hF : Fr K M M') (hK : ∀ p ∈ K, ¬ (3 ≤ p ∧ p < 11) ∧ ¬ (35 ≤ p ∧ p < 77)) (h : CA M σ n H ν T L fk ak nw uw hj td sn A S U i0 i1) : StC M' 6 σ ∧ HC M' n H ∧ NmC M' 3 ν (σ 2) := by
  have no : ∀ p, (3 ≤ p ∧ p < 11) ∨ (35 ≤ p ∧ p < 77) → ¬ p ∈ K := fun p hp e => by have := hK p e; omega
  refine ⟨fr_st hF h.1.1 (fun p hp => ?_), HC_fr hF h.1.2.1 (fun p hp => by have := hK p hp; omega), NmC_fr hF (no _ (by omega)) h.1.2.2⟩
  have := hK p hp
  show ¬ p = 3 ∧ ¬ p = 3 + 2 ∧ (p < 6 ∨ 6 + 5 ≤ p)
  omega
theorem CA_sn0 {K : List Nat} {M M' : Mm} {σ : Nat → Nat} {n : Nat} {H : Nat → Nat → Nat} {ν : Nat → Int64} {T : Nat → Nat} {L : Nat} {fk ak : Int32} {nw : Nat} {uw : Nat → Int32} {hj : Bool} {td : Nat → Int32} {sn : Nat} {A S U : Nat → Nat} {i0 i1 : Img} (hF : Fr K M M') (hK : ∀ p ∈ K, ¬ (11 ≤ p ∧ p < 15)) (h : CA M σ n H ν T L fk ak nw uw hj td sn A S U i0 i1) : SnC M' 11 sn A S U := by
  have no : ∀ p, (11 ≤ p ∧ p < 15) → ¬ p ∈ K := fun p hp e => by have := hK p e; omega
  exact SnC_fr hF (no _ (by omega)) (no _ (by omega)) (no _ (by omega)) (no _ (by omega)) h.2.2.2.2.2.2.1
theorem MA_gen {K Z : List Nat} {M M' : Mm} {σ : Nat → Nat} {n : Nat} {H : Nat → Nat → Nat} {ν : Nat → Int64} {T : Nat → Nat} {L : Nat} {fk ak : Int32} {nw : Nat} {uw : Nat → Int32} {hj : Bool} {td : Nat → Int32} {sn : Nat} {A S U : Nat → Nat} {i0 i1 : Img} {ln : Nat} {tx : Nat → Nat} {τ : Nat → Nat} {n2 : Nat} {H2 : Nat → Nat → Nat} {ν2 : Nat → Int64} {T2 : Nat → Nat} {L2 : Nat} {fk2 ak2 : Int32} {hj2 : Bool} {td2 : Nat → Int32} {sn2 : Nat} {A2 S2 U2 : Nat → Nat} (hF : Fr K M M') (hG : Gx Z (M.1 114) (M'.1 114)) (hZ : ¬ 30 ∈ Z ∧ ¬ 34 ∈ Z) (hK : ∀ p ∈ K, ¬ p = 120 ∧ ¬ p = 126 ∧ ¬ p = 127 ∧ ¬ (131 ≤ p ∧ p < 134)) (h1 : ∀ k, k < 178 → M'.1 116 k = nI (τ k)) (h2 : M'.1 114 25 = nI n2 ∧ HMr (M'.1 121) n2 H2) (h3 : ∀ q, q < τ 2 → M'.2.1 119 q = ν2 q) (h4 : M'.1 114 2 = nI L2 ∧ TM (M'.1 115) T2 L2) (h5 : M'.1 114 15 = fk2) (h6 : (if M'.1 114 32 = 0 then (-1 : Int32) else M'.1 114 31) = ak2) (h8 : M'.1 114 38 = b2 (hj2 = true) ∧ (hj2 = true → ∀ k, k < 4 → M'.1 128 k = td2 k)) (h9 : CodM (M'.1 116) sn2 A2 S2 U2) (h : MA M σ n H ν T L fk ak nw uw hj td sn A S U i0 i1 ln tx) : MA M' τ n2 H2 ν2 T2 L2 fk2 ak2 nw uw hj2 td2 sn2 A2 S2 U2 i0 i1 ln tx := by
  have no : ∀ p, p = 120 ∨ p = 126 ∨ p = 127 ∨ (131 ≤ p ∧ p < 134) → ¬ p ∈ K := fun p hp e => by have := hK p e; omega
  obtain ⟨_, _, _, _, _, _, a7, _, _, b1, b2_, b3, b4⟩ := h
  refine ⟨h1, h2, h3, h4, h5, h6, ?_, h8, h9, ?_, ImM_fr hF (no _ (by omega)) (no _ (by omega)) (no _ (by omega)) b2_, ImM_fr hF (no _ (by omega)) (no _ (by omega)) (no _ (by omega)) b3, ?_⟩
  · rw [hG 30 hZ.1, (hF 126 (no _ (by omega))).1]; exact a7
  · unfold Rsv; rw [(hF 120 (no _ (by omega))).2.1]; exact b1
  · rw [hG 34 hZ.2, (hF 127 (no _ (by omega))).1]; exact b4
theorem TB_0 (u : Nat → Int32) (T : Nat → Nat) : TB u T 0 := fun k hk => absurd hk (Nat.not_lt_zero _)
theorem TM_0 (u : Nat → Int32) (T : Nat → Nat) : TM u T 0 := fun k hk => absurd hk (Nat.not_lt_zero _)
theorem C_PF1 {ji : Nat} {c : Cf} {M : Mm} {v : Int32} {σ : Nat → Nat} {n : Nat} {H : Nat → Nat → Nat} {ν : Nat → Int64} {T : Nat → Nat} {L : Nat} {fk ak : Int32} {nw : Nat} {uw : Nat → Int32} {hj : Bool} {td : Nat → Int32} {sn : Nat} {A S U : Nat → Nat} {i0 i1 : Img} {T2 : Nat → Nat} {L2 : Nat} (hC : CA M σ n H ν T L fk ak nw uw hj td sn A S U i0 i1) (h : Wn 40 ji (PF1 M 1 0 1 TB [1] T2 L2 (some (.int v))) c) : Wn 40 ji (fun r M1 => r = some (.int v) ∧ FC M M1 ∧ CA M1 σ n H ν T2 L2 fk ak nw uw hj td sn A S U i0 i1) c :=
  h.mono (fun r M1 k => by
    obtain ⟨e, kT, kL, kG, kF⟩ := k
    exact ⟨e, fr_up kF (by decide), CA_gen kF (by decide) (CA_st0 kF (by decide) hC) ⟨kL, kT⟩ (by rw [kG 15 (by decide)]; exact hC.2.2.1) (by rw [kG 16 (by decide)]; exact hC.2.2.2.1) ⟨by rw [kG 14 (by decide)]; exact hC.2.2.2.2.2.1.1, by rw [(kF 87 (by decide)).1]; exact hC.2.2.2.2.2.1.2⟩ (CA_sn0 kF (by decide) hC) hC⟩)
theorem M_PF1 {jm : Nat} {c : Cf} {M : Mm} {v : Int32} {σ : Nat → Nat} {n : Nat} {H : Nat → Nat → Nat} {ν : Nat → Int64} {T : Nat → Nat} {L : Nat} {fk ak : Int32} {nw : Nat} {uw : Nat → Int32} {hj : Bool} {td : Nat → Int32} {sn : Nat} {A S U : Nat → Nat} {i0 i1 : Img} {ln : Nat} {tx : Nat → Nat} {T2 : Nat → Nat} {L2 : Nat} (hM : MA M σ n H ν T L fk ak nw uw hj td sn A S U i0 i1 ln tx) (h : Wn 40 jm (PF1 M 115 114 2 TM [0, 2] T2 L2 (some (.int v))) c) : Wn 40 jm (fun r M2 => r = some (.int v) ∧ FM M M2 ∧ MA M2 σ n H ν T2 L2 fk ak nw uw hj td sn A S U i0 i1 ln tx) c :=
  h.mono (fun r M2 k => by
    obtain ⟨e, kT, kL, kG, kF⟩ := k
    obtain ⟨a1, a2, a3, a4, a5, a6, a7, a8, a9, _⟩ := id hM
    exact ⟨e, fr_up kF (by decide), MA_gen kF kG (by decide) (by decide) (by rw [(kF 116 (by decide)).1]; exact a1) ⟨by rw [kG 25 (by decide)]; exact a2.1, by rw [(kF 121 (by decide)).1]; exact a2.2⟩ (by rw [(kF 119 (by decide)).2.1]; exact a3) ⟨kL, kT⟩ (by rw [kG 15 (by decide)]; exact a5) (by rw [kG 32 (by decide), kG 31 (by decide)]; exact a6) ⟨by rw [kG 38 (by decide)]; exact a8.1, by rw [(kF 128 (by decide)).1]; exact a8.2⟩ (by rw [(kF 116 (by decide)).1]; exact a9) hM⟩)
theorem PUr_L {b : Nat} {σ : Nat → Nat} {n : Nat} {H : Nat → Nat → Nat} {ν : Nat → Int64} {T : Nat → Nat} {L : Nat} {fk ak : Int32} {nw : Nat} {uw : Nat → Int32} {hj : Bool} {td : Nat → Int32} {sn : Nat} {A S U : Nat → Nat} {i0 i1 : Img} {T2 : Nat → Nat} {L2 : Nat} {fk2 ak2 : Int32} (h : PUr b σ n H ν T L fk ak nw uw hj td sn A S U i0 i1) (hL : L2 ≤ 940) : PUr (b + 64) σ n H ν T2 L2 fk2 ak2 nw uw hj td sn A S U i0 i1 := by
  obtain ⟨h1, h2, h3, h4, h5, h6, h7, h8, h9⟩ := PUr_up h (show b ≤ b + 64 by omega)
  exact ⟨h1, h2, h3, hL, h5, h6, h7, h8, h9⟩

theorem r_feed {b ln : Nat} {tx : Nat → Nat} {M : Mm} (hJ : JV b ln tx M) (a c d e f : Int32) : PR b ln tx 0 42 [.int a, .int c, .int d, .int e, .int f] M := by
  obtain ⟨σ, n, H, ν, T, L, fk, ak, nw, uw, hj, td, sn, A, S, U, i0, i1, hC, hM, hU⟩ := hJ
  have hV := hU.1.1
  have b6 := Bd_2 hV.1
  have w8 := hV.1.2.1
  have h8 := hV.1.2.2.2.1
  have L9 := hU.2.2.2.1
  by_cases h20 : L + 20 ≤ 940
  · exact PR_of (C_PF1 hC (c_i_feed 39 M T L a c d e f hC.2.1.1 hC.2.1.2 h20)) (fun M1 hF => by have hM1 := MA_FC hF hM; exact M_PF1 hM1 (c_m_feed 39 M1 T L a c d e f hM1.2.2.2.1.1 hM1.2.2.2.1.2 h20)) (PUr_L hU h20)
  · exact PR_of (C_PF1 hC (c_i_feedX 39 M T L a c d e f hC.2.1.1 hC.2.1.2 ⟨L9, h20⟩)) (fun M1 hF => by have hM1 := MA_FC hF hM; exact M_PF1 hM1 (c_m_feedX 39 M1 T L a c d e f hM1.2.2.2.1.1 hM1.2.2.2.1.2 ⟨L9, h20⟩)) (PUr_L hU L9)
theorem r_end {b ln : Nat} {tx : Nat → Nat} {M : Mm} (hJ : JV b ln tx M) (k : Int32) : PR b ln tx 2 44 [.int k] M := by
  obtain ⟨σ, n, H, ν, T, L, fk, ak, nw, uw, hj, td, sn, A, S, U, i0, i1, hC, hM, hU⟩ := hJ
  have hV := hU.1.1
  have b6 := Bd_2 hV.1
  have w8 := hV.1.2.1
  have h8 := hV.1.2.2.2.1
  have L9 := hU.2.2.2.1
  by_cases hk : 0 ≤ k.toInt ∧ k.toInt ≤ (L : Int)
  · obtain ⟨j, hj2, rfl⟩ := nI_of (x := k) (by rw [Int32.lt_iff_toInt_lt, Int32.toInt_zero]; omega)
    have jl : j ≤ L := by rw [nI_toInt hj2] at hk; omega
    exact PR_of (C_PF1 hC (c_i_end 40 M T L hC.2.1.1 hC.2.1.2 L9 j jl)) (fun M1 hF => by have hM1 := MA_FC hF hM; exact M_PF1 hM1 (c_m_end 40 M1 T L hM1.2.2.2.1.1 hM1.2.2.2.1.2 L9 j jl)) (PUr_L hU (by omega))
  · exact PR_of (C_PF1 hC (c_i_endN 40 M T L hC.2.1.1 hC.2.1.2 L9 k hk)) (fun M1 hF => by have hM1 := MA_FC hF hM; exact M_PF1 hM1 (c_m_endN 40 M1 T L hM1.2.2.2.1.1 hM1.2.2.2.1.2 L9 k hk)) (PUr_L hU L9)
theorem r_lake {b ln : Nat} {tx : Nat → Nat} {M : Mm} (hJ : JV b ln tx M) : PR b ln tx 3 72 [] M := by
  obtain ⟨σ, n, H, ν, T, L, fk, ak, nw, uw, hj, td, sn, A, S, U, i0, i1, hC, hM, hU⟩ := hJ
  have hV := hU.1.1
  have b6 := Bd_2 hV.1
  have w8 := hV.1.2.1
  have h8 := hV.1.2.2.2.1
  have L9 := hU.2.2.2.1
  have hT9 : ∀ k, k < L → T k < 256 := fun k hk => (hC.2.1.2 k hk).2
  have ci := c_i_lake 33 M T L hC.2.1.1 hC.2.1.2 L9
  have cm : ∀ M1, FC M M1 → Wn 40 72 (PLm M1 (M1.1 114) (lnS T L 900 (L + 1) 0 lk0)) (0, lv_args 0 [.ref 114], [], M1) := fun M1 hF => by
    have hM1 := MA_FC hF hM
    exact c_m_lake 34 M1 (M1.1 114) T L rfl hM1.2.2.2.1.1 hM1.2.2.2.1.2 L9 hM1.2.2.2.2.2.2.2.2.2.1
  cases hres : lnS T L 900 (L + 1) 0 lk0 with
  | inl f =>
    rw [hres] at ci cm
    refine PR_of (v := (-1 : Int32) - nI f.2) (T := T) (L := 0) (fk := nI f.1) (ak := ak) (ci.mono (fun r M1 k => ?_)) (fun M1 hF => (cm M1 hF).mono (fun r M2 k => ?_)) (PUr_L hU (by omega))
    · obtain ⟨k1, kG, kr, kf, kF⟩ := k
      exact ⟨kr, fr_up kF (by decide), CA_gen kF (by decide) (CA_st0 kF (by decide) hC) ⟨k1, TB_0 _ _⟩ kf (by rw [kG 16 (by decide)]; exact hC.2.2.2.1) ⟨by rw [kG 14 (by decide)]; exact hC.2.2.2.2.2.1.1, by rw [(kF 87 (by decide)).1]; exact hC.2.2.2.2.2.1.2⟩ (CA_sn0 kF (by decide) hC) hC⟩
    · obtain ⟨kG, kF, k0, k2, kr, k15, k116, k119, k25⟩ := k
      have hM1 := MA_FC hF hM
      obtain ⟨a1, a2, a3, a4, a5, a6, a7, a8, a9, _⟩ := id hM1
      exact ⟨kr, fr_up kF (by decide), MA_gen kF kG (by decide) (by decide) (by rw [k116]; exact a1) ⟨by rw [k25]; exact a2.1, by rw [(kF 121 (by decide)).1]; exact a2.2⟩ (fun q hq => by rw [k119 q (by omega)]; exact a3 q hq) ⟨k2, TM_0 _ _⟩ k15 (by rw [kG 32 (by decide), kG 31 (by decide)]; exact a6) ⟨by rw [kG 38 (by decide)]; exact a8.1, by rw [(kF 128 (by decide)).1]; exact a8.2⟩ (by rw [k116]; exact a9) hM1⟩
  | inr ks =>
    obtain ⟨k9, st⟩ := ks
    rw [hres] at ci cm
    have hw := (lnS_w (L + 1) 0 lk0 (Nat.zero_le _) DW_0 (by decide) hres).1
    have hnm := lnS_nm hT9 (L + 1) 0 lk0 (Nat.zero_le _) DW_0 (by decide) (fun q hq => absurd hq (by show ¬ q < 0; omega)) hres
    have e2 : lkS st.2.1 2 = st.2.1 2 := lkS_lo _ (by omega)
    refine PR_of (v := nI k9) (σ := lkS st.2.1) (n := 0) (H := H) (ν := st.2.2.1) (T := T) (L := 0) (fk := nI 0) (ak := ak) (nw := nw) (uw := uw) (hj := hj) (td := td) (sn := 0) (A := A) (S := S) (U := U) (i0 := i0) (i1 := i1) (ci.mono (fun r M1 k => ?_)) (fun M1 hF => (cm M1 hF).mono (fun r M2 k => ?_)) ?_
    · obtain ⟨k1, kG, kr, kf, kS, kN, k11, k35, _, _, kF⟩ := k
      obtain ⟨x, x8, x1, x2, xn, xr, xs⟩ := hC.1.2.1
      have hH : HC M1 0 H := ⟨x, x8, by rw [k35, pk_un (by decide)]; exact x1, by rw [k35, pk_us], by omega, by rw [(kF 36 (by decide)).2.2]; exact xr, fun k hk => absurd hk (Nat.not_lt_zero _)⟩
      exact ⟨kr, fr_up kF (by decide), CA_gen kF (by decide) ⟨kS, hH, by rw [e2]; exact kN⟩ ⟨k1, TB_0 _ _⟩ kf (by rw [kG 16 (by decide)]; exact hC.2.2.2.1) ⟨by rw [kG 14 (by decide)]; exact hC.2.2.2.2.2.1.1, by rw [(kF 87 (by decide)).1]; exact hC.2.2.2.2.2.1.2⟩ ⟨k11, by omega, fun i hi => absurd hi (Nat.not_lt_zero _)⟩ hC⟩
    · obtain ⟨kG, kF, k0, k2, kr, k15, k116, k119, k25, kB⟩ := k
      have hM1 := MA_FC hF hM
      obtain ⟨a1, a2, a3, a4, a5, a6, a7, a8, a9, _⟩ := id hM1
      exact ⟨kr, fr_up kF (by decide), MA_gen kF kG (by decide) (by decide) (fun k hk => k116 k (by omega)) ⟨k25, fun k hk => absurd hk (Nat.not_lt_zero _)⟩ (fun q hq => k119 q (by rw [e2] at hq; exact hq)) ⟨k2, TM_0 _ _⟩ k15 (by rw [kG 32 (by decide), kG 31 (by decide)]; exact a6) ⟨by rw [kG 38 (by decide)]; exact a8.1, by rw [(kF 128 (by decide)).1]; exact a8.2⟩ ⟨by rw [k116 178 (by omega), lkS_hi _ (by omega)], fun i hi => absurd hi (Nat.not_lt_zero _)⟩ hM1⟩
    · obtain ⟨h1, h2, h3, h4, h5, h6, h7, h8', h9⟩ := PUr_up hU (show b ≤ b + 64 by omega)
      refine ⟨⟨lkS_inv hw, fun q hq => ?_, fun r hr => ?_⟩, by omega, fun k hk => absurd hk (Nat.not_lt_zero _), by omega, h5, ⟨by omega, fun i hi => absurd hi (Nat.not_lt_zero _), fun h => absurd h (Nat.lt_irrefl _)⟩, by rw [e2]; exact hnm, h8', h9⟩
      · rw [e2] at hq
        have d2 := hw.1.2.2.1
        rw [lkS_lo _ (by omega)]
        exact (hw.1.2.2.2.1 q hq).2.1
      · rw [lkS_hi _ (by omega)]
        exact Nat.zero_le _
theorem r_sentence {b ln : Nat} {tx : Nat → Nat} {M : Mm} (hJ : JV b ln tx M) : PR b ln tx 36 144 [] M := by
  obtain ⟨σ, n, H, ν, T, L, fk, ak, nw, uw, hj, td, sn, A, S, U, i0, i1, hC, hM, hU⟩ := hJ
  have hV := hU.1.1
  have b6 := Bd_2 hV.1
  have w8 := hV.1.2.1
  have h8 := hV.1.2.2.2.1
  have L9 := hU.2.2.2.1
  have ci := c_i_sentence 9 M T L hC.2.1.1 hC.2.1.2 L9 σ b6 hC.1.1.2.1 ν hC.1.2.2
  have cm : ∀ M1, FC M M1 → Wn 40 144 (PSe M1 (M1.1 114) (senS T L 200 ν (σ 2))) (0, lv_args 0 [.ref 114], [], M1) := fun M1 hF => by
    have hM1 := MA_FC hF hM
    exact c_m_sentence 34 M1 (M1.1 114) T L rfl hM1.2.2.2.1.1 hM1.2.2.2.1.2 L9 hM1.2.2.2.2.2.2.2.2.2.1 (σ 2) b6 (hM1.1 2 (by omega)) ν hM1.2.2.1
  cases hres : senS T L 200 ν (σ 2) with
  | inl f =>
    rw [hres] at ci cm
    refine PR_of (v := (-1 : Int32) - nI f.2) (T := T) (L := 0) (fk := nI f.1) (ak := ak) (ci.mono (fun r M1 k => ?_)) (fun M1 hF => (cm M1 hF).mono (fun r M2 k => ?_)) (PUr_L hU (by omega))
    · obtain ⟨k1, kG, kr, kf, kF⟩ := k
      exact ⟨kr, fr_up kF (by decide), CA_gen kF (by decide) (CA_st0 kF (by decide) hC) ⟨k1, TB_0 _ _⟩ kf (by rw [kG 16 (by decide)]; exact hC.2.2.2.1) ⟨by rw [kG 14 (by decide)]; exact hC.2.2.2.2.2.1.1, by rw [(kF 87 (by decide)).1]; exact hC.2.2.2.2.2.1.2⟩ (CA_sn0 kF (by decide) hC) hC⟩
    · obtain ⟨kG, kF, k0, k2, kr, k15, k116⟩ := k
      have hM1 := MA_FC hF hM
      obtain ⟨a1, a2, a3, a4, a5, a6, a7, a8, a9, _⟩ := id hM1
      exact ⟨kr, fr_up kF (by decide), MA_gen kF kG (by decide) (by decide) (by rw [k116]; exact a1) ⟨by rw [kG 25 (by decide)]; exact a2.1, by rw [(kF 121 (by decide)).1]; exact a2.2⟩ (by rw [(kF 119 (by decide)).2.1]; exact a3) ⟨k2, TM_0 _ _⟩ k15 (by rw [kG 32 (by decide), kG 31 (by decide)]; exact a6) ⟨by rw [kG 38 (by decide)]; exact a8.1, by rw [(kF 128 (by decide)).1]; exact a8.2⟩ (by rw [k116]; exact a9) hM1⟩
  | inr st =>
    rw [hres] at ci cm
    have sv := (senS_v hres).1
    refine PR_of (v := nI st.2.2.1) (σ := σ) (n := n) (H := H) (ν := ν) (T := T) (L := 0) (fk := nI 0) (ak := ak) (nw := nw) (uw := uw) (hj := hj) (td := td) (i0 := i0) (i1 := i1) (sn := st.2.1) (A := st.2.2.2.1) (S := st.2.2.2.2.1) (U := st.2.2.2.2.2) (ci.mono (fun r M1 k => ?_)) (fun M1 hF => (cm M1 hF).mono (fun r M2 k => ?_)) ?_
    · obtain ⟨k1, kG, kr, kf, kS, kF⟩ := k
      exact ⟨kr, fr_up kF (by decide), CA_gen kF (by decide) (CA_st0 kF (by decide) hC) ⟨k1, TB_0 _ _⟩ kf (by rw [kG 16 (by decide)]; exact hC.2.2.2.1) ⟨by rw [kG 14 (by decide)]; exact hC.2.2.2.2.2.1.1, by rw [(kF 87 (by decide)).1]; exact hC.2.2.2.2.2.1.2⟩ kS hC⟩
    · obtain ⟨kG, kF, k0, k2, kr, k15, k116, kc⟩ := k
      have hM1 := MA_FC hF hM
      obtain ⟨a1, a2, a3, a4, a5, a6, a7, a8, a9, _⟩ := id hM1
      exact ⟨kr, fr_up kF (by decide), MA_gen kF kG (by decide) (by decide) (fun k hk => by rw [k116 k hk]; exact a1 k hk) ⟨by rw [kG 25 (by decide)]; exact a2.1, by rw [(kF 121 (by decide)).1]; exact a2.2⟩ (by rw [(kF 119 (by decide)).2.1]; exact a3) ⟨k2, TM_0 _ _⟩ k15 (by rw [kG 32 (by decide), kG 31 (by decide)]; exact a6) ⟨by rw [kG 38 (by decide)]; exact a8.1, by rw [(kF 128 (by decide)).1]; exact a8.2⟩ kc hM1⟩
    · obtain ⟨h1, h2, h3, h4, h5, h6, h7, h8', h9⟩ := PUr_up hU (show b ≤ b + 64 by omega)
      exact ⟨h1, h2, h3, by omega, h5, sv, h7, h8', h9⟩
theorem CA_sw {M M' : Mm} {σ : Nat → Nat} {n : Nat} {H : Nat → Nat → Nat} {ν : Nat → Int64} {T : Nat → Nat} {L : Nat} {fk ak : Int32} {nw : Nat} {uw : Nat → Int32} {hj : Bool} {td : Nat → Int32} {sn : Nat} {A S U : Nat → Nat} {i0 i1 : Img} {ak2 : Int32} (hF : Fr [0] M M') (h1 : M'.1 0 1 = nI 0) (h14 : M'.1 0 14 = M.1 0 14) (h15 : M'.1 0 15 = M.1 0 15) (h16 : M'.1 0 16 = ak2) (hC : CA M σ n H ν T L fk ak nw uw hj td sn A S U i0 i1) : FC M M' ∧ CA M' σ n H ν T 0 fk ak2 nw uw hj td sn A S U i0 i1 :=
  ⟨fr_up hF (by decide), CA_gen hF (by decide) (CA_st0 hF (by decide) hC) ⟨h1, TB_0 _ _⟩ (h15.trans hC.2.2.1) h16 ⟨h14.trans hC.2.2.2.2.2.1.1, by rw [(hF 87 (by decide)).1]; exact hC.2.2.2.2.2.1.2⟩ (CA_sn0 hF (by decide) hC) hC⟩
theorem MA_sw {M M' : Mm} {σ : Nat → Nat} {n : Nat} {H : Nat → Nat → Nat} {ν : Nat → Int64} {T : Nat → Nat} {L : Nat} {fk ak : Int32} {nw : Nat} {uw : Nat → Int32} {hj : Bool} {td : Nat → Int32} {sn : Nat} {A S U : Nat → Nat} {i0 i1 : Img} {ln : Nat} {tx : Nat → Nat} {ak2 : Int32} (kF : Fr [114] M M') (kG : Gx KW (M.1 114) (M'.1 114)) (k2 : M'.1 114 2 = nI 0) (h6 : (if M'.1 114 32 = 0 then (-1 : Int32) else M'.1 114 31) = ak2) (hM : MA M σ n H ν T L fk ak nw uw hj td sn A S U i0 i1 ln tx) : FM M M' ∧ MA M' σ n H ν T 0 fk ak2 nw uw hj td sn A S U i0 i1 ln tx := by
  obtain ⟨a1, a2, a3, a4, a5, a6, a7, a8, a9, _⟩ := id hM
  exact ⟨fr_up kF (by decide), MA_gen kF kG (by decide) (by decide) (by rw [(kF 116 (by decide)).1]; exact a1) ⟨by rw [kG 25 (by decide)]; exact a2.1, by rw [(kF 121 (by decide)).1]; exact a2.2⟩ (by rw [(kF 119 (by decide)).2.1]; exact a3) ⟨k2, TM_0 _ _⟩ (by rw [kG 15 (by decide)]; exact a5) h6 ⟨by rw [kG 38 (by decide)]; exact a8.1, by rw [(kF 128 (by decide)).1]; exact a8.2⟩ (by rw [(kF 116 (by decide)).1]; exact a9) hM⟩
theorem r_swore {b ln : Nat} {tx : Nat → Nat} {M : Mm} (hJ : JV b ln tx M) : PR b ln tx 27 119 [] M := by
  obtain ⟨σ, n, H, ν, T, L, fk, ak, nw, uw, hj, td, sn, A, S, U, i0, i1, hC, hM, hU⟩ := hJ
  have hV := hU.1.1
  have b6 := Bd_2 hV.1
  have w8 := hV.1.2.1
  have h8 := hV.1.2.2.2.1
  have L9 := hU.2.2.2.1
  have ci := c_i_swore 36 M σ hC.1.1 hV.1 T L hC.2.1.1 hC.2.1.2 L9
  have cm : ∀ M1, FC M M1 → Wn 40 119 (PMW M1 (M1.1 114) σ T L) (0, lv_args 0 [.ref 114], [], M1) := fun M1 hF => by
    have hM1 := MA_FC hF hM
    exact c_m_swore 36 M1 (M1.1 114) rfl σ ⟨hM1.1, hV.1⟩ T L hM1.2.2.2.1.1 hM1.2.2.2.1.2 L9
  by_cases ht : tri σ T L
  · by_cases hs : 0 < ssN σ T L (σ 2)
    · refine PR_of (v := nI (ssN σ T L (σ 2))) (T := T) (L := 0) (fk := fk) (ak := bI (bqN σ (ssN σ T L (σ 2)) (σ 2) 64)) (ci.mono (fun r M1 k => ?_)) (fun M1 hF => (cm M1 hF).mono (fun r M2 k => ?_)) (PUr_L hU (by omega))
      · obtain ⟨kF, _, ky, _⟩ := k
        obtain ⟨kr, k0⟩ := ky ht
        rw [if_pos hs] at k0
        exact ⟨kr, CA_sw kF (by rw [k0, pk_un (by decide), pk_us]) (by rw [k0, pk_un (by decide), pk_un (by decide)]) (by rw [k0, pk_un (by decide), pk_un (by decide)]) (by rw [k0, pk_us]) hC⟩
      · obtain ⟨kF, _, _, k2, kG, ky, _⟩ := k
        obtain ⟨kr, k9⟩ := ky ht
        obtain ⟨k32, k31⟩ := k9 hs
        exact ⟨kr, MA_sw kF kG k2 (by rw [k32, if_neg (by decide)]; exact k31) (MA_FC hF hM)⟩
    · refine PR_of (v := nI (ssN σ T L (σ 2))) (T := T) (L := 0) (fk := fk) (ak := ak) (ci.mono (fun r M1 k => ?_)) (fun M1 hF => (cm M1 hF).mono (fun r M2 k => ?_)) (PUr_L hU (by omega))
      · obtain ⟨kF, _, ky, _⟩ := k
        obtain ⟨kr, k0⟩ := ky ht
        rw [if_neg hs] at k0
        exact ⟨kr, CA_sw kF (by rw [k0, pk_us]) (by rw [k0, pk_un (by decide)]) (by rw [k0, pk_un (by decide)]) (by rw [k0, pk_un (by decide)]; exact hC.2.2.2.1) hC⟩
      · obtain ⟨kF, _, _, k2, kG, ky, kn⟩ := k
        obtain ⟨kr, _⟩ := ky ht
        obtain ⟨_, k32, k31⟩ := kn (Or.inr hs)
        exact ⟨kr, MA_sw kF kG k2 (by rw [k32, k31]; exact (MA_FC hF hM).2.2.2.2.2.1) (MA_FC hF hM)⟩
  · refine PR_of (v := (-1 : Int32)) (T := T) (L := 0) (fk := fk) (ak := ak) (ci.mono (fun r M1 k => ?_)) (fun M1 hF => (cm M1 hF).mono (fun r M2 k => ?_)) (PUr_L hU (by omega))
    · obtain ⟨kF, _, _, kn⟩ := k
      obtain ⟨kr, k0⟩ := kn ht
      exact ⟨kr, CA_sw kF (by rw [k0, pk_us]) (by rw [k0, pk_un (by decide)]) (by rw [k0, pk_un (by decide)]) (by rw [k0, pk_un (by decide)]; exact hC.2.2.2.1) hC⟩
    · obtain ⟨kF, _, _, k2, kG, _, kn⟩ := k
      obtain ⟨kr, k32, k31⟩ := kn (Or.inl ht)
      exact ⟨kr ht, MA_sw kF kG k2 (by rw [k32, k31]; exact (MA_FC hF hM).2.2.2.2.2.1) (MA_FC hF hM)⟩
