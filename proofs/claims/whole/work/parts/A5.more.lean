/-! Calls of both: book, way, image, restore. -/
def bTd (a c d e : Int32) : Nat → Int32 := fun i => if i = 0 then a else if i = 1 then c else if i = 2 then d else e
theorem bTd_of {u : Nat → Int32} {a c d e : Int32} (h : u 0 = a ∧ u 1 = c ∧ u 2 = d ∧ u 3 = e) : ∀ k, k < 4 → u k = bTd a c d e k := fun k hk => by
  obtain ⟨h0, h1, h2, h3⟩ := h
  rcases (show k = 0 ∨ k = 1 ∨ k = 2 ∨ k = 3 by omega) with rfl | rfl | rfl | rfl
  · exact h0
  · exact h1
  · exact h2
  · exact h3
theorem PUr_x {b : Nat} {σ : Nat → Nat} {n : Nat} {H : Nat → Nat → Nat} {ν : Nat → Int64} {T : Nat → Nat} {L : Nat} {fk ak : Int32} {nw : Nat} {uw : Nat → Int32} {hj : Bool} {td : Nat → Int32} {sn : Nat} {A S U : Nat → Nat} {i0 i1 : Img} {T2 : Nat → Nat} {L2 : Nat} {fk2 ak2 : Int32} {hj2 : Bool} {td2 : Nat → Int32} (h : PUr b σ n H ν T L fk ak nw uw hj td sn A S U i0 i1) (hL : L2 ≤ 940) : PUr b σ n H ν T2 L2 fk2 ak2 nw uw hj2 td2 sn A S U i0 i1 := by
  obtain ⟨h1, h2, h3, h4, h5, h6, h7, h8, h9⟩ := h
  exact ⟨h1, h2, h3, hL, h5, h6, h7, h8, h9⟩
theorem CA_bk {p : Nat} (h : p ∈ [0, 30, 31, 32, 33, 34, 77, 79, 80, 81, 82, 87] ++ CL) : p = 0 ∨ (30 ≤ p ∧ p < 35) ∨ p = 77 ∨ (79 ≤ p ∧ p < 83) ∨ p = 87 ∨ (6 ≤ p ∧ p < 11) ∨ (35 ≤ p ∧ p < 77) := by
  rcases List.mem_append.mp h with h | h
  · simp only [List.mem_cons, List.not_mem_nil, or_false] at h
    omega
  · have := CL_in h
    omega
theorem r_book {b ln : Nat} {tx : Nat → Nat} {M : Mm} (hb : b < 1000000) (hJ : JV b ln tx M) (lv : Int32) : PR b ln tx 33 136 [.int lv] M := by
  obtain ⟨σ, n, H, ν, T, L, fk, ak, nw, uw, hj, td, sn, A, S, U, i0, i1, hC, hM, hU⟩ := hJ
  have hV := hU.1.1
  have b6 := Bd_2 hV.1
  have w8 := hV.1.2.1
  have h8 := hV.1.2.2.2.1
  have L9 := hU.2.2.2.1
  by_cases hl : (nI 0).toInt ≤ lv.toInt ∧ lv.toInt ≤ (nI 1).toInt
  rotate_left
  · have n0 : ¬ lv = 0 := fun e => hl (by rw [e]; decide)
    have n1 : ¬ lv = nI 1 := fun e => hl (by rw [e]; decide)
    refine PR_of (C_PN hC (c_i_book_no 40 M lv n0 n1 _ ⟨rfl, rfl⟩)) (fun M1 hF => (c_m_book_no 39 M1 (M1.1 114) rfl lv hl).mono (fun r M2 k => ?_)) (PUr_up hU (by omega))
    exact ⟨k.1, fr_up k.2.2.2 (by decide), MA_fr k.2.2.2 (Gx_upd0 k.2.1) (by decide) (fun p hp => Or.inl (by simpa using hp)) (MA_FC hF hM)⟩
  obtain ⟨c, _, c2, rfl⟩ := rng_n (by decide) (by decide) hl
  have hpr : ∀ r, r < 6 → σ (172 + r) + 41 < 1073741824 := fun r hr => by have := hU.1.2.2 r hr; omega
  have ci := c_i_book 33 M c (by omega) T L hC.2.1.1 hC.2.1.2 L9 σ n H hC.1.1 hV hC.1.2.1 hpr ν hC.1.2.2
  have cm : ∀ M1, FC M M1 → Wn 40 136 (PBK M1 (M1.1 116) (M1.1 114) c σ n H (bkS T L 400 ν (σ 2) (L + 1) 0 bk0 0)) (0, lv_args 0 [.ref 114, .int (nI c)], [], M1) := fun M1 hF => by
    have hM1 := MA_FC hF hM
    exact c_m_book 31 M1 c (by omega) (M1.1 116) (M1.1 114) T L rfl hM1.2.2.2.1.1 hM1.2.2.2.1.2 L9 hM1.2.2.2.2.2.2.2.2.2.1 σ (Rs_rf hM1.1) hV n hU.2.1 H hM1.2.1.1 hM1.2.1.2 hpr ν hM1.2.2.1
  cases hres : bkS T L 400 ν (σ 2) (L + 1) 0 bk0 0 with
  | inl f =>
    rw [hres] at ci cm
    refine PR_of (v := (-2 : Int32) - nI f.2) (σ := σ) (n := n) (H := H) (ν := ν) (T := T) (L := 0) (fk := nI f.1) (ak := ak) (nw := nw) (uw := uw) (hj := hj) (td := td) (sn := sn) (A := A) (S := S) (U := U) (i0 := i0) (i1 := i1) (ci.mono (fun r M1 k => ?_)) (fun M1 hF => (cm M1 hF).mono (fun r M2 k => ?_)) (PUr_L hU (by omega))
    · obtain ⟨k1, kG, kr, kf, k14, kF⟩ := k
      exact ⟨kr, fr_up kF (by decide), CA_gen kF (by decide) (CA_st0 kF (by decide) hC) ⟨k1, TB_0 _ _⟩ kf (by rw [kG 16 (by decide)]; exact hC.2.2.2.1) ⟨by rw [k14]; exact hC.2.2.2.2.2.1.1, by rw [(kF 87 (by decide)).1]; exact hC.2.2.2.2.2.1.2⟩ (CA_sn0 kF (by decide) hC) hC⟩
    · obtain ⟨k0, k2, kG, kF, kr, k15, k116, k121, k128, k25, k38⟩ := k
      have hM1 := MA_FC hF hM
      obtain ⟨a1, a2, a3, a4, a5, a6, a7, a8, a9, _⟩ := id hM1
      exact ⟨kr, fr_up kF (by decide), MA_gen kF kG (by decide) (by decide) (by rw [k116]; exact a1) ⟨by rw [k25]; exact a2.1, by rw [k121]; exact a2.2⟩ (by rw [(kF 119 (by decide)).2.1]; exact a3) ⟨k2, TM_0 _ _⟩ k15 (by rw [kG 32 (by decide), kG 31 (by decide)]; exact a6) ⟨by rw [k38]; exact a8.1, by rw [k128]; exact a8.2⟩ (by rw [k116]; exact a9) hM1⟩
  | inr ks =>
    obtain ⟨k9, E⟩ := ks
    rw [hres] at ci cm
    obtain ⟨k40, hE⟩ := bkS_ok (T := T) (mo := 400) (ν := ν) (np := σ 2) (L + 1) 0 bk0 0 (Nat.zero_le L) (by omega) (fun i hi => absurd hi (by omega)) hres
    obtain ⟨o1, o2, o3, o4, o5⟩ := bkL_ok (E := E) k9 0 σ hV rfl (fun k _ h => hE k (by omega)) (fun r hr => by have := hpr r hr; omega)
    have tl : ∀ i, i < 90 → (if c = 1 ∧ 0 < (bkL E k9 0 σ).1 then (bkL E k9 0 σ).2.2 else σ) i = σ i := fun i hi => by split <;> first | exact o2 i hi | rfl
    have ti : Inv (if c = 1 ∧ 0 < (bkL E k9 0 σ).1 then (bkL E k9 0 σ).2.2 else σ) := by split <;> first | exact o1 | exact hV
    have tp : ∀ r, r < 6 → (if c = 1 ∧ 0 < (bkL E k9 0 σ).1 then (bkL E k9 0 σ).2.2 else σ) (172 + r) ≤ σ (172 + r) + 41 := fun r hr => by
      have := o3 r hr
      split <;> omega
    generalize hτ : (if c = 1 ∧ 0 < (bkL E k9 0 σ).1 then (bkL E k9 0 σ).2.2 else σ) = τ at tl ti tp
    have e2 := tl 2 (by omega)
    refine PR_of (v := bkR (bkL E k9 0 σ).2.1 (bkL E k9 0 σ).1) (σ := τ) (n := (if c = 1 ∧ 0 < (bkL E k9 0 σ).1 then hpn n else n)) (H := (if c = 1 ∧ 0 < (bkL E k9 0 σ).1 then hpH n H σ else H)) (ν := ν) (T := T) (L := 0) (fk := nI 0) (ak := ak) (nw := nw) (uw := uw) (hj := true) (td := (bTd (nI (bkL E k9 0 σ).2.1) (nI (bkL E k9 0 σ).1) (nI ((bkL E k9 0 σ).2.2 90)) (nI ((bkL E k9 0 σ).2.2 91)))) (sn := sn) (A := A) (S := S) (U := U) (i0 := i0) (i1 := i1) (ci.mono (fun r M1 k => ?_)) (fun M1 hF => (cm M1 hF).mono (fun r M2 k => ?_)) (PUr_x (PUr_act (c = 1 ∧ 0 < (bkL E k9 0 σ).1) hU ti tl tp) (by omega))
    · obtain ⟨k1, kG, kr, kf, k14, k87, kS, kH, _, _, kF⟩ := k
      rw [hτ] at kS
      refine ⟨kr, fr_up kF (fun p hp => by have := CA_bk hp; rw [List.mem_range]; omega), CA_gen kF (fun p hp => by have := CA_bk hp; omega) ⟨kS, kH, ?_⟩ ⟨k1, TB_0 _ _⟩ kf (by rw [kG 16 (by decide)]; exact hC.2.2.2.1) ⟨k14, fun _ => bTd_of k87⟩ (CA_sn0 kF (fun p hp => by have := CA_bk hp; omega) hC) hC⟩
      rw [e2]
      exact NmC_fr kF (fun h => by have := CA_bk h; omega) hC.1.2.2
    · obtain ⟨k0, k2, kG, kF, kr, k15, k38, k128, kR, kH, k25⟩ := k
      rw [hτ] at kR
      have hM1 := MA_FC hF hM
      obtain ⟨a1, a2, a3, a4, a5, a6, a7, a8, a9, _⟩ := id hM1
      exact ⟨kr, fr_up kF (by decide), MA_gen kF kG (by decide) (by decide) kR.1 ⟨k25, kH⟩ (by rw [(kF 119 (by decide)).2.1, e2]; exact a3) ⟨k2, TM_0 _ _⟩ k15 (by rw [kG 32 (by decide), kG 31 (by decide)]; exact a6) ⟨k38, fun _ => bTd_of k128⟩ (CodM_cg kR.2 a9) hM1⟩
theorem CA_wy {M M' : Mm} {σ : Nat → Nat} {n : Nat} {H : Nat → Nat → Nat} {ν : Nat → Int64} {T : Nat → Nat} {L : Nat} {fk ak : Int32} {nw : Nat} {uw : Nat → Int32} {hj : Bool} {td : Nat → Int32} {sn : Nat} {A S U : Nat → Nat} {i0 i1 : Img} {w2 : Nat} {u2 : Nat → Int32} (hF : Fr [83, 84, 85, 86] M M') (h3 : M'.1 83 3 = nI w2) (hu : ∀ e, e < w2 → M'.1 86 e = u2 e) (h : CA M σ n H ν T L fk ak nw uw hj td sn A S U i0 i1) : FC M M' ∧ CA M' σ n H ν T L fk ak w2 u2 hj td sn A S U i0 i1 := by
  obtain ⟨h1, h2, h4, h5, h6, h7, h8, h9, ha, hb⟩ := id h
  have e0 := (hF 0 (by decide)).1
  exact ⟨fr_up hF (by decide), CA_st0 hF (by decide) h, ⟨by rw [e0]; exact h2.1, by rw [(hF 1 (by decide)).1]; exact h2.2⟩, by rw [e0]; exact h4, by rw [e0]; exact h5, ⟨h3, hu⟩, ⟨by rw [e0]; exact h7.1, by rw [(hF 87 (by decide)).1]; exact h7.2⟩, CA_sn0 hF (by decide) h, ⟨by rw [(hF 28 (by decide)).2.2]; exact h9.1, by rw [(hF 28 (by decide)).2.2]; exact h9.2⟩, ImC_fr hF (Or.inl rfl) (by decide) ha, ImC_fr hF (Or.inr rfl) (by decide) hb⟩
theorem MA_wy {M M' : Mm} {σ : Nat → Nat} {n : Nat} {H : Nat → Nat → Nat} {ν : Nat → Int64} {T : Nat → Nat} {L : Nat} {fk ak : Int32} {nw : Nat} {uw : Nat → Int32} {hj : Bool} {td : Nat → Int32} {sn : Nat} {A S U : Nat → Nat} {i0 i1 : Img} {ln : Nat} {tx : Nat → Nat} {w2 : Nat} {u2 : Nat → Int32} (hF : Fr [114, 123, 126] M M') (hg : M'.1 114 = upd (upd (M.1 114) 0 (nI 0)) 30 (nI w2)) (hu : ∀ e, e < w2 → M'.1 126 e = u2 e) (h : MA M σ n H ν T L fk ak nw uw hj td sn A S U i0 i1 ln tx) : FM M M' ∧ MA M' σ n H ν T L fk ak w2 u2 hj td sn A S U i0 i1 ln tx := by
  obtain ⟨a1, a2, a3, a4, a5, a6, a7, a8, a9, b1, b2_, b3, b4⟩ := id h
  have g : ∀ s, ¬ s = 0 → ¬ s = 30 → M'.1 114 s = M.1 114 s := fun s h0 h30 => by rw [hg, pk_un h30, pk_un h0]
  refine ⟨fr_up hF (by decide), by rw [(hF 116 (by decide)).1]; exact a1, ⟨by rw [g 25 (by decide) (by decide)]; exact a2.1, by rw [(hF 121 (by decide)).1]; exact a2.2⟩, by rw [(hF 119 (by decide)).2.1]; exact a3, ⟨by rw [g 2 (by decide) (by decide)]; exact a4.1, by rw [(hF 115 (by decide)).1]; exact a4.2⟩, by rw [g 15 (by decide) (by decide)]; exact a5, by rw [g 32 (by decide) (by decide), g 31 (by decide) (by decide)]; exact a6, ⟨Or.inl (by rw [hg, pk_us]), hu⟩, ⟨by rw [g 38 (by decide) (by decide)]; exact a8.1, by rw [(hF 128 (by decide)).1]; exact a8.2⟩, by rw [(hF 116 (by decide)).1]; exact a9, ?_, ImM_fr hF (by decide) (by decide) (by decide) b2_, ImM_fr hF (by decide) (by decide) (by decide) b3, ⟨by rw [g 34 (by decide) (by decide)]; exact b4.1, by rw [(hF 127 (by decide)).1]; exact b4.2⟩⟩
  unfold Rsv
  rw [(hF 120 (by decide)).2.1]
  exact b1
theorem r_way {b ln : Nat} {tx : Nat → Nat} {M : Mm} (hJ : JV b ln tx M) (p x y : Int32) : PR b ln tx 17 109 [.int p, .int x, .int y] M := by
  obtain ⟨σ, n, H, ν, T, L, fk, ak, nw, uw, hj, td, sn, A, S, U, i0, i1, hC, hM, hU⟩ := hJ
  have hV := hU.1.1
  have b6 := Bd_2 hV.1
  have w8 := hV.1.2.1
  have h8 := hV.1.2.2.2.1
  by_cases hc : cso σ p x y
  rotate_left
  · exact PR_of (C_PN hC (c_i_wayX 37 M σ hC.1.1 hV.1 p x y hc)) (fun M1 hF => by have hM1 := MA_FC hF hM; exact M_PO hM1 (c_m_wayX 38 M1 (M1.1 114) rfl σ ⟨hM1.1, hV.1⟩ p x y hc)) (PUr_up hU (by omega))
  obtain ⟨q, a, c, hq, ha, hc2, rfl, rfl, rfl, hf⟩ := cso_of hc b6 w8 h8
  refine (c_i_way 34 M σ hC.1.1 hV q a c hq ha hc2 hf).mono (fun r M1 k => ?_)
  obtain ⟨o, ho, kr, kn, ks⟩ := k
  have hF : FC M M1 := by
    cases o with
    | none => exact fr_up (kn rfl).1 (by decide)
    | some m => exact fr_up (ks m rfl).2.1 (by decide)
  have hM1 := MA_FC hF hM
  refine ⟨oI o, kr, (c_m_way 33 M1 (M1.1 114) rfl σ ⟨hM1.1, hV.1⟩ q a c hq ha hc2 hf).mono (fun r2 M2 k2 => ?_)⟩
  obtain ⟨o2, ho2, kr2, kn2, ks2⟩ := k2
  have eo : o2 = o := WyO_u ho2 ho
  subst eo
  refine ⟨kr2, ?_⟩
  cases o2 with
  | none =>
    have f2 := (kn2 rfl).1
    have m2 := MA_fr f2 (Gx_upd0 (kn2 rfl).2) (by decide) (by unfold frm; decide) hM1
    exact ⟨σ, n, H, ν, T, L, fk, ak, nw, uw, hj, td, sn, A, S, U, i0, i1, CA_FM (fr_up f2 (by decide)) (CA_84 (Or.inr rfl) (kn rfl).1 hC).2, m2, PUr_up hU (by omega)⟩
  | some m =>
    obtain ⟨m64, f1, g1, u, w, sd, hu⟩ := ks m rfl
    obtain ⟨_, f2, g2, u', w', sd', hu'⟩ := ks2 m rfl
    have eu := (SdW_u sd sd' m (Nat.le_refl _)).2
    have c1 := (CA_wy (w2 := m) (u2 := fun e => nI (u e)) f1 (by rw [g1, pk_us]) hu hC).2
    have m2 := MA_wy (w2 := m) (u2 := fun e => nI (u e)) f2 g2 (fun e he => by rw [hu' e he, eu e he]) hM1
    obtain ⟨h1, h2, h3, h4, h5, h6, h7, h8', h9⟩ := PUr_up hU (show b ≤ b + 64 by omega)
    exact ⟨σ, n, H, ν, T, L, fk, ak, m, (fun e => nI (u e)), hj, td, sn, A, S, U, i0, i1, CA_FM m2.1 c1, m2.2, h1, h2, h3, h4, m64, h6, h7, h8', h9⟩
theorem k01 {k : Int32} (h : ¬ ((nI 0).toInt ≤ k.toInt ∧ k.toInt ≤ (nI 1).toInt)) : k < 0 ∨ ¬ k < (nI 2) := by
  by_cases c : k < 0
  · exact Or.inl c
  · refine Or.inr (fun c2 => h ?_)
    rw [Int32.lt_iff_toInt_lt, Int32.toInt_zero] at c
    rw [Int32.lt_iff_toInt_lt] at c2
    have e2 : (nI 2).toInt = 2 := rfl
    have e1 : (nI 1).toInt = 1 := rfl
    have e0 : (nI 0).toInt = 0 := rfl
    omega
theorem M_PMn {jm : Nat} {c : Cf} {M : Mm} {σ : Nat → Nat} {n : Nat} {H : Nat → Nat → Nat} {ν : Nat → Int64} {T : Nat → Nat} {L : Nat} {fk ak : Int32} {nw : Nat} {uw : Nat → Int32} {hj : Bool} {td : Nat → Int32} {sn : Nat} {A S U : Nat → Nat} {i0 i1 : Img} {ln : Nat} {tx : Nat → Nat} (hM : MA M σ n H ν T L fk ak nw uw hj td sn A S U i0 i1 ln tx) (h : Wn 40 jm (PMn M (M.1 114)) c) : Wn 40 jm (fun r M2 => r = some (.int (nI 0)) ∧ FM M M2 ∧ MA M2 σ n H ν T L fk ak nw uw hj td sn A S U i0 i1 ln tx) c :=
  h.mono (fun r M2 k => ⟨k.1, fr_up k.2.2.2 (by decide), MA_fr k.2.2.2 (Gx_upd0 k.2.1) (by decide) (fun p hp => Or.inl (by simpa using hp)) hM⟩)
theorem CodM_sh {f g : Nat → Int32} {n : Nat} {A S U : Nat → Nat} (h : ∀ k, 178 ≤ k → k < 359 → g k = f k) (hn : n ≤ 39) (hc : CodM f n A S U) : CodM g n A S U := by
  refine ⟨by rw [h 178 (by omega) (by omega)]; exact hc.1, fun i hi => ?_⟩
  rw [h _ (by omega) (by omega), h _ (by omega) (by omega), h _ (by omega) (by omega)]
  exact hc.2 i hi
theorem CA_im0 {M M' : Mm} {σ : Nat → Nat} {n : Nat} {H : Nat → Nat → Nat} {ν : Nat → Int64} {T : Nat → Nat} {L : Nat} {fk ak : Int32} {nw : Nat} {uw : Nat → Int32} {hj : Bool} {td : Nat → Int32} {sn : Nat} {A S U : Nat → Nat} {i0 i1 : Img} (hF : Fr [29, 89, 90, 91, 92, 93, 94, 95, 96, 97, 98, 99, 100] M M') (hS : StC M' (88 + 4) σ) (hN : NmC M' (88 + 1) ν (σ 2)) (hs : SnC M' (88 + 9) sn A S U) (h29 : M'.1 29 = upd (M.1 29) 0 (nI 1)) (h : CA M σ n H ν T L fk ak nw uw hj td sn A S U i0 i1) : FC M M' ∧ CA M' σ n H ν T L fk ak nw uw hj td sn A S U (true, σ, ν, sn, A, S, U) i1 := by
  obtain ⟨h1, h2, h4, h5, h6, h7, h8, h9, ha, hb⟩ := id h
  have e0 := (hF 0 (by decide)).1
  have hn : ImC M' 0 88 (true, σ, ν, sn, A, S, U) := ⟨by rw [h29, pk_us]; rfl, fun _ => ⟨hS, hN, hs⟩⟩
  have ho : ImC M' 1 101 i1 := by
    obtain ⟨z1, z2⟩ := hb
    refine ⟨by rw [h29, pk_un (by decide)]; exact z1, fun e => ?_⟩
    obtain ⟨y1, y2, y3⟩ := z2 e
    exact ⟨fr_st hF y1 (by decide), NmC_fr hF (by decide) y2, SnC_fr hF (by decide) (by decide) (by decide) (by decide) y3⟩
  exact ⟨fr_up hF (by decide), CA_st0 hF (by decide) h, ⟨by rw [e0]; exact h2.1, by rw [(hF 1 (by decide)).1]; exact h2.2⟩, by rw [e0]; exact h4, by rw [e0]; exact h5, ⟨by rw [(hF 83 (by decide)).1]; exact h6.1, by rw [(hF 86 (by decide)).1]; exact h6.2⟩, ⟨by rw [e0]; exact h7.1, by rw [(hF 87 (by decide)).1]; exact h7.2⟩, CA_sn0 hF (by decide) h, ⟨by rw [(hF 28 (by decide)).2.2]; exact h9.1, by rw [(hF 28 (by decide)).2.2]; exact h9.2⟩, hn, ho⟩
theorem MA_im0 {M M' : Mm} {σ : Nat → Nat} {n : Nat} {H : Nat → Nat → Nat} {ν : Nat → Int64} {T : Nat → Nat} {L : Nat} {fk ak : Int32} {nw : Nat} {uw : Nat → Int32} {hj : Bool} {td : Nat → Int32} {sn : Nat} {A S U : Nat → Nat} {i0 i1 : Img} {ln : Nat} {tx : Nat → Nat} (hn9 : sn ≤ 39) (h26 : σ 2 ≤ 6) (h6o : i1.1 = true → i1.2.1 2 ≤ 6) (h9o : i1.1 = true → i1.2.2.2.1 ≤ 39) (hF : Fr [114, 131, 132, 133] M M') (hg : M'.1 114 = upd (M.1 114) 0 (nI 0)) (h131 : M'.1 131 = cpB (M.1 131) (M.1 116) (359 * 0) 359) (h132 : M'.2.1 132 = cpB (M.2.1 132) (M.2.1 119) (6 * 0) 6) (h133 : M'.1 133 = upd (M.1 133) 0 (nI 1)) (h : MA M σ n H ν T L fk ak nw uw hj td sn A S U i0 i1 ln tx) : FM M M' ∧ MA M' σ n H ν T L fk ak nw uw hj td sn A S U (true, σ, ν, sn, A, S, U) i1 ln tx := by
  obtain ⟨a1, a2, a3, a4, a5, a6, a7, a8, a9, b1, b2_, b3, b4⟩ := id h
  have g : ∀ s, ¬ s = 0 → M'.1 114 s = M.1 114 s := fun s h0 => by rw [hg, pk_un h0]
  have r1 : ∀ k, k < 359 → M'.1 131 (359 * 0 + k) = M.1 116 k := fun k hk => by
    rw [h131]; unfold cpB; rw [if_pos (by omega), show 359 * 0 + k - 359 * 0 = k by omega]
  have r2 : ∀ k, k < 6 → M'.2.1 132 (6 * 0 + k) = M.2.1 119 k := fun k hk => by
    rw [h132]; unfold cpB; rw [if_pos (by omega), show 6 * 0 + k - 6 * 0 = k by omega]
  have s1 : ∀ k, k < 359 → M'.1 131 (359 * 1 + k) = M.1 131 (359 * 1 + k) := fun k hk => by
    rw [h131]; unfold cpB; rw [if_neg (by omega)]
  have s2 : ∀ k, k < 6 → M'.2.1 132 (6 * 1 + k) = M.2.1 132 (6 * 1 + k) := fun k hk => by
    rw [h132]; unfold cpB; rw [if_neg (by omega)]
  have hn : ImM M' 0 (true, σ, ν, sn, A, S, U) := ⟨by rw [h133, pk_us]; rfl, fun _ => ⟨fun k hk => by rw [r1 k (by omega)]; exact a1 k hk, fun q (hq : q < σ 2) => by rw [r2 q (by omega)]; exact a3 q hq, CodM_sh (fun k h1 h2 => r1 k h2) hn9 a9⟩⟩
  refine ⟨fr_up hF (by decide), by rw [(hF 116 (by decide)).1]; exact a1, ⟨by rw [g 25 (by decide)]; exact a2.1, by rw [(hF 121 (by decide)).1]; exact a2.2⟩, by rw [(hF 119 (by decide)).2.1]; exact a3, ⟨by rw [g 2 (by decide)]; exact a4.1, by rw [(hF 115 (by decide)).1]; exact a4.2⟩, by rw [g 15 (by decide)]; exact a5, by rw [g 32 (by decide), g 31 (by decide)]; exact a6, ⟨by rw [g 30 (by decide)]; exact a7.1, by rw [(hF 126 (by decide)).1]; exact a7.2⟩, ⟨by rw [g 38 (by decide)]; exact a8.1, by rw [(hF 128 (by decide)).1]; exact a8.2⟩, by rw [(hF 116 (by decide)).1]; exact a9, ?_, hn, ?_, ⟨by rw [g 34 (by decide)]; exact b4.1, by rw [(hF 127 (by decide)).1]; exact b4.2⟩⟩
  · unfold Rsv
    rw [(hF 120 (by decide)).2.1]
    exact b1
  · obtain ⟨z1, z2⟩ := b3
    refine ⟨by rw [h133, pk_un (by decide)]; exact z1, fun e => ?_⟩
    obtain ⟨y1, y2, y3⟩ := z2 e
    exact ⟨fun k hk => by rw [s1 k (by omega)]; exact y1 k hk, fun q hq => by rw [s2 q (by have := h6o e; omega)]; exact y2 q hq, CodM_sh (fun k h1 h2 => s1 k h2) (h9o e) y3⟩
theorem CA_im1 {M M' : Mm} {σ : Nat → Nat} {n : Nat} {H : Nat → Nat → Nat} {ν : Nat → Int64} {T : Nat → Nat} {L : Nat} {fk ak : Int32} {nw : Nat} {uw : Nat → Int32} {hj : Bool} {td : Nat → Int32} {sn : Nat} {A S U : Nat → Nat} {i0 i1 : Img} (hF : Fr [29, 102, 103, 104, 105, 106, 107, 108, 109, 110, 111, 112, 113] M M') (hS : StC M' (101 + 4) σ) (hN : NmC M' (101 + 1) ν (σ 2)) (hs : SnC M' (101 + 9) sn A S U) (h29 : M'.1 29 = upd (M.1 29) 1 (nI 1)) (h : CA M σ n H ν T L fk ak nw uw hj td sn A S U i0 i1) : FC M M' ∧ CA M' σ n H ν T L fk ak nw uw hj td sn A S U i0 (true, σ, ν, sn, A, S, U) := by
  obtain ⟨h1, h2, h4, h5, h6, h7, h8, h9, ha, hb⟩ := id h
  have e0 := (hF 0 (by decide)).1
  have hn : ImC M' 1 101 (true, σ, ν, sn, A, S, U) := ⟨by rw [h29, pk_us]; rfl, fun _ => ⟨hS, hN, hs⟩⟩
  have ho : ImC M' 0 88 i0 := by
    obtain ⟨z1, z2⟩ := ha
    refine ⟨by rw [h29, pk_un (by decide)]; exact z1, fun e => ?_⟩
    obtain ⟨y1, y2, y3⟩ := z2 e
    exact ⟨fr_st hF y1 (by decide), NmC_fr hF (by decide) y2, SnC_fr hF (by decide) (by decide) (by decide) (by decide) y3⟩
  exact ⟨fr_up hF (by decide), CA_st0 hF (by decide) h, ⟨by rw [e0]; exact h2.1, by rw [(hF 1 (by decide)).1]; exact h2.2⟩, by rw [e0]; exact h4, by rw [e0]; exact h5, ⟨by rw [(hF 83 (by decide)).1]; exact h6.1, by rw [(hF 86 (by decide)).1]; exact h6.2⟩, ⟨by rw [e0]; exact h7.1, by rw [(hF 87 (by decide)).1]; exact h7.2⟩, CA_sn0 hF (by decide) h, ⟨by rw [(hF 28 (by decide)).2.2]; exact h9.1, by rw [(hF 28 (by decide)).2.2]; exact h9.2⟩, ho, hn⟩
theorem MA_im1 {M M' : Mm} {σ : Nat → Nat} {n : Nat} {H : Nat → Nat → Nat} {ν : Nat → Int64} {T : Nat → Nat} {L : Nat} {fk ak : Int32} {nw : Nat} {uw : Nat → Int32} {hj : Bool} {td : Nat → Int32} {sn : Nat} {A S U : Nat → Nat} {i0 i1 : Img} {ln : Nat} {tx : Nat → Nat} (hn9 : sn ≤ 39) (h26 : σ 2 ≤ 6) (h6o : i0.1 = true → i0.2.1 2 ≤ 6) (h9o : i0.1 = true → i0.2.2.2.1 ≤ 39) (hF : Fr [114, 131, 132, 133] M M') (hg : M'.1 114 = upd (M.1 114) 0 (nI 0)) (h131 : M'.1 131 = cpB (M.1 131) (M.1 116) (359 * 1) 359) (h132 : M'.2.1 132 = cpB (M.2.1 132) (M.2.1 119) (6 * 1) 6) (h133 : M'.1 133 = upd (M.1 133) 1 (nI 1)) (h : MA M σ n H ν T L fk ak nw uw hj td sn A S U i0 i1 ln tx) : FM M M' ∧ MA M' σ n H ν T L fk ak nw uw hj td sn A S U i0 (true, σ, ν, sn, A, S, U) ln tx := by
  obtain ⟨a1, a2, a3, a4, a5, a6, a7, a8, a9, b1, b2_, b3, b4⟩ := id h
  have g : ∀ s, ¬ s = 0 → M'.1 114 s = M.1 114 s := fun s h0 => by rw [hg, pk_un h0]
  have r1 : ∀ k, k < 359 → M'.1 131 (359 * 1 + k) = M.1 116 k := fun k hk => by
    rw [h131]; unfold cpB; rw [if_pos (by omega), show 359 * 1 + k - 359 * 1 = k by omega]
  have r2 : ∀ k, k < 6 → M'.2.1 132 (6 * 1 + k) = M.2.1 119 k := fun k hk => by
    rw [h132]; unfold cpB; rw [if_pos (by omega), show 6 * 1 + k - 6 * 1 = k by omega]
  have s1 : ∀ k, k < 359 → M'.1 131 (359 * 0 + k) = M.1 131 (359 * 0 + k) := fun k hk => by
    rw [h131]; unfold cpB; rw [if_neg (by omega)]
  have s2 : ∀ k, k < 6 → M'.2.1 132 (6 * 0 + k) = M.2.1 132 (6 * 0 + k) := fun k hk => by
    rw [h132]; unfold cpB; rw [if_neg (by omega)]
  have hn : ImM M' 1 (true, σ, ν, sn, A, S, U) := ⟨by rw [h133, pk_us]; rfl, fun _ => ⟨fun k hk => by rw [r1 k (by omega)]; exact a1 k hk, fun q (hq : q < σ 2) => by rw [r2 q (by omega)]; exact a3 q hq, CodM_sh (fun k h1 h2 => r1 k h2) hn9 a9⟩⟩
  refine ⟨fr_up hF (by decide), by rw [(hF 116 (by decide)).1]; exact a1, ⟨by rw [g 25 (by decide)]; exact a2.1, by rw [(hF 121 (by decide)).1]; exact a2.2⟩, by rw [(hF 119 (by decide)).2.1]; exact a3, ⟨by rw [g 2 (by decide)]; exact a4.1, by rw [(hF 115 (by decide)).1]; exact a4.2⟩, by rw [g 15 (by decide)]; exact a5, by rw [g 32 (by decide), g 31 (by decide)]; exact a6, ⟨by rw [g 30 (by decide)]; exact a7.1, by rw [(hF 126 (by decide)).1]; exact a7.2⟩, ⟨by rw [g 38 (by decide)]; exact a8.1, by rw [(hF 128 (by decide)).1]; exact a8.2⟩, by rw [(hF 116 (by decide)).1]; exact a9, ?_, ?_, hn, ⟨by rw [g 34 (by decide)]; exact b4.1, by rw [(hF 127 (by decide)).1]; exact b4.2⟩⟩
  · unfold Rsv
    rw [(hF 120 (by decide)).2.1]
    exact b1
  · obtain ⟨z1, z2⟩ := b2_
    refine ⟨by rw [h133, pk_un (by decide)]; exact z1, fun e => ?_⟩
    obtain ⟨y1, y2, y3⟩ := z2 e
    exact ⟨fun k hk => by rw [s1 k (by omega)]; exact y1 k hk, fun q hq => by rw [s2 q (by have := h6o e; omega)]; exact y2 q hq, CodM_sh (fun k h1 h2 => s1 k h2) (h9o e) y3⟩
theorem r_image {b ln : Nat} {tx : Nat → Nat} {M : Mm} (hJ : JV b ln tx M) (k : Int32) : PR b ln tx 38 148 [.int k] M := by
  obtain ⟨σ, n, H, ν, T, L, fk, ak, nw, uw, hj, td, sn, A, S, U, i0, i1, hC, hM, hU⟩ := hJ
  have hV := hU.1.1
  have b6 := Bd_2 hV.1
  have w8 := hV.1.2.1
  have h8 := hV.1.2.2.2.1
  by_cases hk : (nI 0).toInt ≤ k.toInt ∧ k.toInt ≤ (nI 1).toInt
  rotate_left
  · exact PR_of (C_PN hC (c_i_image_no 40 M k (k01 hk) _ ⟨rfl, rfl⟩)) (fun M1 hF => by have hM1 := MA_FC hF hM; exact M_PMn hM1 (c_m_image_no 39 M1 (M1.1 114) rfl k hk)) (PUr_up hU (by omega))
  obtain ⟨c, _, c2, rfl⟩ := rng_n (by decide) (by decide) hk
  have sv := hU.2.2.2.2.2.1
  obtain ⟨h1, h2, h3, h4, h5, h6, h7, h8', h9⟩ := PUr_up hU (show b ≤ b + 64 by omega)
  have x0 : i0.1 = true → i0.2.1 2 ≤ 6 := fun e => Bd_2 (h8' e).1.1.1
  have x1 : i1.1 = true → i1.2.1 2 ≤ 6 := fun e => Bd_2 (h9 e).1.1.1
  have y0 : i0.1 = true → i0.2.2.2.1 ≤ 39 := fun e => (h8' e).2.1.1
  have y1 : i1.1 = true → i1.2.2.2.1 ≤ 39 := fun e => (h9 e).2.1.1
  rcases (show c = 0 ∨ c = 1 by omega) with rfl | rfl
  · refine PR_of (v := nI 1) (σ := σ) (n := n) (H := H) (ν := ν) (T := T) (L := L) (fk := fk) (ak := ak) (nw := nw) (uw := uw) (hj := hj) (td := td) (sn := sn) (A := A) (S := S) (U := U) (i0 := (true, σ, ν, sn, A, S, U)) (i1 := i1) ((c_i_image_0 38 M σ ν sn A S U hC.1.1 hC.1.2.2 hC.2.2.2.2.2.2.1 hC.2.2.2.2.2.2.2.1.1).mono (fun r M1 k => ?_)) (fun M1 hF => (c_m_image_0 39 M1 (M1.1 114) rfl).mono (fun r M2 k => ?_)) ⟨h1, h2, h3, h4, h5, h6, h7, fun _ => ⟨h1, h6, h7⟩, h9⟩
    · obtain ⟨kr, kS, kN, ks, k29, kF⟩ := k
      exact ⟨kr, CA_im0 kF kS kN ks k29 hC⟩
    · obtain ⟨kr, k0, ka, kb, kc, kF⟩ := k
      exact ⟨kr, MA_im0 sv.1 b6 x1 y1 kF k0 ka kb kc (MA_FC hF hM)⟩
  · refine PR_of (v := nI 1) (σ := σ) (n := n) (H := H) (ν := ν) (T := T) (L := L) (fk := fk) (ak := ak) (nw := nw) (uw := uw) (hj := hj) (td := td) (sn := sn) (A := A) (S := S) (U := U) (i0 := i0) (i1 := (true, σ, ν, sn, A, S, U)) ((c_i_image_1 38 M σ ν sn A S U hC.1.1 hC.1.2.2 hC.2.2.2.2.2.2.1 hC.2.2.2.2.2.2.2.1.2).mono (fun r M1 k => ?_)) (fun M1 hF => (c_m_image_1 39 M1 (M1.1 114) rfl).mono (fun r M2 k => ?_)) ⟨h1, h2, h3, h4, h5, h6, h7, h8', fun _ => ⟨h1, h6, h7⟩⟩
    · obtain ⟨kr, kS, kN, ks, k29, kF⟩ := k
      exact ⟨kr, CA_im1 kF kS kN ks k29 hC⟩
    · obtain ⟨kr, k0, ka, kb, kc, kF⟩ := k
      exact ⟨kr, MA_im1 sv.1 b6 x0 y0 kF k0 ka kb kc (MA_FC hF hM)⟩
theorem r_restore0 {b ln : Nat} {tx : Nat → Nat} {M : Mm} (hJ : JV b ln tx M) : PR b ln tx 39 149 [.int (nI 0)] M := by
  obtain ⟨σ, n, H, ν, T, L, fk, ak, nw, uw, hj, td, sn, A, S, U, i0, i1, hC, hM, hU⟩ := hJ
  have hV := hU.1.1
  have b6 := Bd_2 hV.1
  have w8 := hV.1.2.1
  have h8 := hV.1.2.2.2.1
  obtain ⟨h1, h2, h3, h4, h5, h6, h7, h8', h9⟩ := PUr_up hU (show b ≤ b + 64 by omega)
  have hi := hC.2.2.2.2.2.2.2.2.1
  cases ek : i0.1 with
  | false =>
    have e29 : M.1 29 0 = nI 0 := by rw [hi.1, ek]; rfl
    exact PR_of (C_PN hC (c_i_restore_0_u 40 M e29 _ ⟨rfl, rfl⟩)) (fun M1 hF => by
      have hM1 := MA_FC hF hM
      have e33 : M1.1 133 0 = nI 0 := by rw [hM1.2.2.2.2.2.2.2.2.2.2.1.1, ek]; rfl
      exact M_PMn hM1 (c_m_restore_0_u 39 M1 (M1.1 114) rfl e33)) (PUr_up hU (by omega))
  | true =>
    have e29 : M.1 29 0 = nI 1 := by rw [hi.1, ek]; rfl
    obtain ⟨zS, zN, zs⟩ := hi.2 ek
    obtain ⟨gd, gs, gn⟩ := h8' ek
    refine PR_of (v := nI 1) (σ := i0.2.1) (n := 0) (H := H) (ν := i0.2.2.1) (T := T) (L := L) (fk := fk) (ak := ak) (nw := nw) (uw := uw) (hj := hj) (td := td) (sn := i0.2.2.2.1) (A := i0.2.2.2.2.1) (S := i0.2.2.2.2.2.1) (U := i0.2.2.2.2.2.2) (i0 := i0) (i1 := i1) ((c_i_restore_0 38 M _ _ _ _ _ _ zS zN zs hC.2.2.2.2.2.2.2.1.1 e29).mono (fun r M1 k => ?_)) (fun M1 hF => (c_m_restore_0 39 M1 (M1.1 114) rfl (by rw [(MA_FC hF hM).2.2.2.2.2.2.2.2.2.2.1.1, ek]; rfl)).mono (fun r M2 k => ?_)) ⟨gd, by omega, fun k hk => absurd hk (Nat.not_lt_zero _), h4, h5, gs, gn, h8', h9⟩
    · obtain ⟨kr, kS, kN, ks, k35, _, _, kF⟩ := k
      obtain ⟨x, x8, x1, x2, xn, xr, xs⟩ := hC.1.2.1
      have hH : HC M1 0 H := ⟨x, x8, by rw [k35, pk_un (by decide)]; exact x1, by rw [k35, pk_us], by omega, by rw [(kF 36 (by decide)).2.2]; exact xr, fun k hk => absurd hk (Nat.not_lt_zero _)⟩
      have e0 := (kF 0 (by decide)).1
      exact ⟨kr, fr_up kF (by decide), CA_gen kF (by decide) ⟨kS, hH, kN⟩ ⟨by rw [e0]; exact hC.2.1.1, by rw [(kF 1 (by decide)).1]; exact hC.2.1.2⟩ (by rw [e0]; exact hC.2.2.1) (by rw [e0]; exact hC.2.2.2.1) ⟨by rw [e0]; exact hC.2.2.2.2.2.1.1, by rw [(kF 87 (by decide)).1]; exact hC.2.2.2.2.2.1.2⟩ ks hC⟩
    · obtain ⟨kr, k0, k116, k119, kF⟩ := k
      have hM1 := MA_FC hF hM
      obtain ⟨m1, m2, m3⟩ := hM1.2.2.2.2.2.2.2.2.2.2.1.2 ek
      obtain ⟨a1, a2, a3, a4, a5, a6, a7, a8, a9, _⟩ := id hM1
      have kG : Gx [0, 25] (M1.1 114) (M2.1 114) := fun s hs => by
        rw [k0, pk_un (fun e => hs (by rw [e]; decide)), pk_un (fun e => hs (by rw [e]; decide))]
      refine ⟨kr, fr_up kF (by decide), MA_gen kF kG (by decide) (by decide) (fun k hk => ?_) ⟨by rw [k0, pk_us], fun k hk => absurd hk (Nat.not_lt_zero _)⟩ (fun q hq => ?_) ⟨by rw [kG 2 (by decide)]; exact a4.1, by rw [(kF 115 (by decide)).1]; exact a4.2⟩ (by rw [kG 15 (by decide)]; exact a5) (by rw [kG 32 (by decide), kG 31 (by decide)]; exact a6) ⟨by rw [kG 38 (by decide)]; exact a8.1, by rw [(kF 128 (by decide)).1]; exact a8.2⟩ ?_ hM1⟩
      · rw [k116, cpG_at (by omega)]; exact m1 k hk
      · have := Bd_2 gd.1.1
        rw [k119, cpG_at (by omega)]; exact m2 q hq
      · exact CodM_sh (fun k h1 h2 => by rw [k116, cpG_at h2]) gs.1 m3
theorem r_restore1 {b ln : Nat} {tx : Nat → Nat} {M : Mm} (hJ : JV b ln tx M) : PR b ln tx 39 149 [.int (nI 1)] M := by
  obtain ⟨σ, n, H, ν, T, L, fk, ak, nw, uw, hj, td, sn, A, S, U, i0, i1, hC, hM, hU⟩ := hJ
  have hV := hU.1.1
  have b6 := Bd_2 hV.1
  have w8 := hV.1.2.1
  have h8 := hV.1.2.2.2.1
  obtain ⟨h1, h2, h3, h4, h5, h6, h7, h8', h9⟩ := PUr_up hU (show b ≤ b + 64 by omega)
  have hi := hC.2.2.2.2.2.2.2.2.2
  cases ek : i1.1 with
  | false =>
    have e29 : M.1 29 1 = nI 0 := by rw [hi.1, ek]; rfl
    exact PR_of (C_PN hC (c_i_restore_1_u 40 M e29 _ ⟨rfl, rfl⟩)) (fun M1 hF => by
      have hM1 := MA_FC hF hM
      have e33 : M1.1 133 1 = nI 0 := by rw [hM1.2.2.2.2.2.2.2.2.2.2.2.1.1, ek]; rfl
      exact M_PMn hM1 (c_m_restore_1_u 39 M1 (M1.1 114) rfl e33)) (PUr_up hU (by omega))
  | true =>
    have e29 : M.1 29 1 = nI 1 := by rw [hi.1, ek]; rfl
    obtain ⟨zS, zN, zs⟩ := hi.2 ek
    obtain ⟨gd, gs, gn⟩ := h9 ek
    refine PR_of (v := nI 1) (σ := i1.2.1) (n := 0) (H := H) (ν := i1.2.2.1) (T := T) (L := L) (fk := fk) (ak := ak) (nw := nw) (uw := uw) (hj := hj) (td := td) (sn := i1.2.2.2.1) (A := i1.2.2.2.2.1) (S := i1.2.2.2.2.2.1) (U := i1.2.2.2.2.2.2) (i0 := i0) (i1 := i1) ((c_i_restore_1 38 M _ _ _ _ _ _ zS zN zs hC.2.2.2.2.2.2.2.1.2 e29).mono (fun r M1 k => ?_)) (fun M1 hF => (c_m_restore_1 39 M1 (M1.1 114) rfl (by rw [(MA_FC hF hM).2.2.2.2.2.2.2.2.2.2.2.1.1, ek]; rfl)).mono (fun r M2 k => ?_)) ⟨gd, by omega, fun k hk => absurd hk (Nat.not_lt_zero _), h4, h5, gs, gn, h8', h9⟩
    · obtain ⟨kr, kS, kN, ks, k35, _, _, kF⟩ := k
      obtain ⟨x, x8, x1, x2, xn, xr, xs⟩ := hC.1.2.1
      have hH : HC M1 0 H := ⟨x, x8, by rw [k35, pk_un (by decide)]; exact x1, by rw [k35, pk_us], by omega, by rw [(kF 36 (by decide)).2.2]; exact xr, fun k hk => absurd hk (Nat.not_lt_zero _)⟩
      have e0 := (kF 0 (by decide)).1
      exact ⟨kr, fr_up kF (by decide), CA_gen kF (by decide) ⟨kS, hH, kN⟩ ⟨by rw [e0]; exact hC.2.1.1, by rw [(kF 1 (by decide)).1]; exact hC.2.1.2⟩ (by rw [e0]; exact hC.2.2.1) (by rw [e0]; exact hC.2.2.2.1) ⟨by rw [e0]; exact hC.2.2.2.2.2.1.1, by rw [(kF 87 (by decide)).1]; exact hC.2.2.2.2.2.1.2⟩ ks hC⟩
    · obtain ⟨kr, k0, k116, k119, kF⟩ := k
      have hM1 := MA_FC hF hM
      obtain ⟨m1, m2, m3⟩ := hM1.2.2.2.2.2.2.2.2.2.2.2.1.2 ek
      obtain ⟨a1, a2, a3, a4, a5, a6, a7, a8, a9, _⟩ := id hM1
      have kG : Gx [0, 25] (M1.1 114) (M2.1 114) := fun s hs => by
        rw [k0, pk_un (fun e => hs (by rw [e]; decide)), pk_un (fun e => hs (by rw [e]; decide))]
      refine ⟨kr, fr_up kF (by decide), MA_gen kF kG (by decide) (by decide) (fun k hk => ?_) ⟨by rw [k0, pk_us], fun k hk => absurd hk (Nat.not_lt_zero _)⟩ (fun q hq => ?_) ⟨by rw [kG 2 (by decide)]; exact a4.1, by rw [(kF 115 (by decide)).1]; exact a4.2⟩ (by rw [kG 15 (by decide)]; exact a5) (by rw [kG 32 (by decide), kG 31 (by decide)]; exact a6) ⟨by rw [kG 38 (by decide)]; exact a8.1, by rw [(kF 128 (by decide)).1]; exact a8.2⟩ ?_ hM1⟩
      · rw [k116, cpG_at (by omega)]; exact m1 k hk
      · have := Bd_2 gd.1.1
        rw [k119, cpG_at (by omega)]; exact m2 q hq
      · exact CodM_sh (fun k h1 h2 => by rw [k116, cpG_at h2]) gs.1 m3
theorem r_restore {b ln : Nat} {tx : Nat → Nat} {M : Mm} (hJ : JV b ln tx M) (k : Int32) : PR b ln tx 39 149 [.int k] M := by
  by_cases hk : (nI 0).toInt ≤ k.toInt ∧ k.toInt ≤ (nI 1).toInt
  · obtain ⟨c, _, c2, rfl⟩ := rng_n (by decide) (by decide) hk
    rcases (show c = 0 ∨ c = 1 by omega) with rfl | rfl
    · exact r_restore0 hJ
    · exact r_restore1 hJ
  · obtain ⟨σ, n, H, ν, T, L, fk, ak, nw, uw, hj, td, sn, A, S, U, i0, i1, hC, hM, hU⟩ := hJ
    exact PR_of (C_PN hC (c_i_restore_no 40 M k (k01 hk) _ ⟨rfl, rfl⟩)) (fun M1 hF => by have hM1 := MA_FC hF hM; exact M_PMn hM1 (c_m_restore_no 39 M1 (M1.1 114) rfl k hk)) (PUr_up hU (by omega))
