/-! Calls of both: what is asked, acts. -/
theorem cI_n {σ : Nat → Nat} {x y : Int32} (h : cI σ x y) (h0 : σ 0 ≤ 8) (h1 : σ 1 ≤ 8) : ∃ a c, a < σ 0 ∧ c < σ 1 ∧ x = nI a ∧ y = nI c := by
  obtain ⟨a, ha, e, -⟩ := i32_nat (n := σ 0) h.1 h.2.1 (by omega)
  obtain ⟨c, hc, e2, -⟩ := i32_nat (n := σ 1) h.2.2.1 h.2.2.2 (by omega)
  exact ⟨a, c, ha, hc, e, e2⟩
theorem cso_of {σ : Nat → Nat} {p x y : Int32} (h : cso σ p x y) (h6 : σ 2 ≤ 6) (h0 : σ 0 ≤ 8) (h1 : σ 1 ≤ 8) : ∃ q a c, q < σ 2 ∧ a < σ 0 ∧ c < σ 1 ∧ p = nI q ∧ x = nI a ∧ y = nI c ∧ ¬ fal σ q = true := by
  obtain ⟨q, hq, rfl⟩ := pI_n h.1 h6
  obtain ⟨a, c, ha, hc, e, e2⟩ := cI_n h.2.1 h0 h1
  have := h.2.2
  rw [nI_clamp (by omega)] at this
  exact ⟨q, a, c, hq, ha, hc, rfl, e, e2, this⟩
theorem r_cell {b ln : Nat} {tx : Nat → Nat} {M : Mm} (hJ : JV b ln tx M) (x y w : Int32) : PR b ln tx 6 88 [.int x, .int y, .int w] M := by
  obtain ⟨σ, n, H, ν, T, L, fk, ak, nw, uw, hj, td, sn, A, S, U, i0, i1, hC, hM, hU⟩ := hJ
  have hV := hU.1.1
  have b6 := Bd_2 hV.1
  have w8 := hV.1.2.1
  have h8 := hV.1.2.2.2.1
  by_cases hc : cI σ x y
  · obtain ⟨a, c, ha, hc2, rfl, rfl⟩ := cI_n hc w8 h8
    exact PR_of (C_PN hC (c_i_cell 38 M σ hC.1.1 hV a c w ha hc2)) (fun M1 hF => by have hM1 := MA_FC hF hM; exact M_PO hM1 (c_m_cell 36 M1 (M1.1 116) (M1.1 114) σ (Rs_rf hM1.1) hV rfl a c w ha hc2)) (PUr_up hU (by omega))
  · exact PR_of (C_PN hC (c_i_cellC 39 M σ hC.1.1 hV x y w hc)) (fun M1 hF => by have hM1 := MA_FC hF hM; exact M_PO hM1 (c_m_cellC 38 M1 (M1.1 116) (M1.1 114) σ (Rs_rf hM1.1) hV rfl x y w hc)) (PUr_up hU (by omega))
theorem r_now {b ln : Nat} {tx : Nat → Nat} {M : Mm} (hJ : JV b ln tx M) (w : Int32) : PR b ln tx 7 89 [.int w] M := by
  obtain ⟨σ, n, H, ν, T, L, fk, ak, nw, uw, hj, td, sn, A, S, U, i0, i1, hC, hM, hU⟩ := hJ
  have hV := hU.1.1
  have b6 := Bd_2 hV.1
  have w8 := hV.1.2.1
  have h8 := hV.1.2.2.2.1
  exact PR_of (C_PN hC (c_i_now 37 M σ hC.1.1 hV w)) (fun M1 hF => by have hM1 := MA_FC hF hM; exact M_PO hM1 (c_m_now 38 M1 (M1.1 116) (M1.1 114) σ (Rs_rf hM1.1) hV rfl w)) (PUr_up hU (by omega))
theorem r_count {b ln : Nat} {tx : Nat → Nat} {M : Mm} (hJ : JV b ln tx M) (w : Int32) : PR b ln tx 8 150 [.int w] M := by
  obtain ⟨σ, n, H, ν, T, L, fk, ak, nw, uw, hj, td, sn, A, S, U, i0, i1, hC, hM, hU⟩ := hJ
  have hV := hU.1.1
  have b6 := Bd_2 hV.1
  have w8 := hV.1.2.1
  have h8 := hV.1.2.2.2.1
  have e1 := hC.2.1.1
  have hi := c_i_count 40 M σ hC.1.1 hV w
  rw [e1] at hi
  exact PR_of (C_PN hC hi) (fun M1 hF => by
    have hM1 := MA_FC hF hM
    have hm := c_m_count 39 M1 (M1.1 116) (M1.1 114) σ (Rs_rf hM1.1) hV rfl w
    rw [hM1.2.2.2.1.1] at hm
    exact M_PO hM1 hm) (PUr_up hU (by omega))
theorem r_fair {b ln : Nat} {tx : Nat → Nat} {M : Mm} (hJ : JV b ln tx M) : PR b ln tx 26 116 [] M := by
  obtain ⟨σ, n, H, ν, T, L, fk, ak, nw, uw, hj, td, sn, A, S, U, i0, i1, hC, hM, hU⟩ := hJ
  have hV := hU.1.1
  have b6 := Bd_2 hV.1
  have w8 := hV.1.2.1
  have h8 := hV.1.2.2.2.1
  exact PR_of (C_PN hC (c_i_fair 38 M σ hC.1.1 hV)) (fun M1 hF => by have hM1 := MA_FC hF hM; exact M_PO hM1 (c_m_fair 38 M1 (M1.1 116) (M1.1 114) σ (Rs_rf hM1.1) hV rfl hU.1.2.1)) (PUr_up hU (by omega))
theorem r_stands {b ln : Nat} {tx : Nat → Nat} {M : Mm} (hJ : JV b ln tx M) (p : Int32) : PR b ln tx 25 121 [.int p] M := by
  obtain ⟨σ, n, H, ν, T, L, fk, ak, nw, uw, hj, td, sn, A, S, U, i0, i1, hC, hM, hU⟩ := hJ
  have hV := hU.1.1
  have b6 := Bd_2 hV.1
  have w8 := hV.1.2.1
  have h8 := hV.1.2.2.2.1
  by_cases hp : pI σ p
  · obtain ⟨k, hk, rfl⟩ := pI_n hp b6
    exact PR_of (C_PN hC (c_i_stands 38 M σ hC.1.1 hV k hk)) (fun M1 hF => by have hM1 := MA_FC hF hM; exact M_PO hM1 (c_m_stands 36 M1 (M1.1 116) (M1.1 114) σ (Rs_rf hM1.1) hV rfl k hk)) (PUr_up hU (by omega))
  · exact PR_of (C_PN hC (c_i_standsP 39 M σ hC.1.1 hV p hp)) (fun M1 hF => by have hM1 := MA_FC hF hM; exact M_PO hM1 (c_m_standsP 38 M1 (M1.1 116) (M1.1 114) σ (Rs_rf hM1.1) hV rfl p hp)) (PUr_up hU (by omega))
theorem r_swears {b ln : Nat} {tx : Nat → Nat} {M : Mm} (hJ : JV b ln tx M) (p : Int32) : PR b ln tx 22 114 [.int p] M := by
  obtain ⟨σ, n, H, ν, T, L, fk, ak, nw, uw, hj, td, sn, A, S, U, i0, i1, hC, hM, hU⟩ := hJ
  have hV := hU.1.1
  have b6 := Bd_2 hV.1
  have w8 := hV.1.2.1
  have h8 := hV.1.2.2.2.1
  by_cases hp : pI σ p
  · obtain ⟨k, hk, rfl⟩ := pI_n hp b6
    exact PR_of (C_PV hC (c_i_swears 35 M σ hC.1.1 hV k hk)) (fun M1 hF => by have hM1 := MA_FC hF hM; exact M_PGL (Or.inl rfl) hM1 (c_m_swears 32 M1 (M1.1 116) (M1.1 114) σ (Rs_rf hM1.1) hV rfl k hk)) (PUr_up hU (by omega))
  · exact PR_of (C_PV hC (c_i_swearsP 39 M σ hC.1.1 hV p hp)) (fun M1 hF => by have hM1 := MA_FC hF hM; exact M_PGL (Or.inl rfl) hM1 (c_m_swearsP 38 M1 (M1.1 116) (M1.1 114) σ (Rs_rf hM1.1) hV rfl p hp)) (PUr_up hU (by omega))
theorem r_falls {b ln : Nat} {tx : Nat → Nat} {M : Mm} (hJ : JV b ln tx M) (p : Int32) : PR b ln tx 23 115 [.int p] M := by
  obtain ⟨σ, n, H, ν, T, L, fk, ak, nw, uw, hj, td, sn, A, S, U, i0, i1, hC, hM, hU⟩ := hJ
  have hV := hU.1.1
  have b6 := Bd_2 hV.1
  have w8 := hV.1.2.1
  have h8 := hV.1.2.2.2.1
  by_cases hp : pI σ p
  · obtain ⟨k, hk, rfl⟩ := pI_n hp b6
    exact PR_of (C_PV hC (c_i_falls 35 M σ hC.1.1 hV k hk)) (fun M1 hF => by have hM1 := MA_FC hF hM; exact M_PGL (Or.inl rfl) hM1 (c_m_falls 32 M1 (M1.1 116) (M1.1 114) σ (Rs_rf hM1.1) hV rfl k hk)) (PUr_up hU (by omega))
  · exact PR_of (C_PV hC (c_i_fallsP 39 M σ hC.1.1 hV p hp)) (fun M1 hF => by have hM1 := MA_FC hF hM; exact M_PGL (Or.inl rfl) hM1 (c_m_fallsP 38 M1 (M1.1 116) (M1.1 114) σ (Rs_rf hM1.1) hV rfl p hp)) (PUr_up hU (by omega))
theorem r_odds {b ln : Nat} {tx : Nat → Nat} {M : Mm} (hb : b < 1000000) (hJ : JV b ln tx M) (p z y : Int32) : PR b ln tx 24 133 [.int p, .int z, .int y] M := by
  obtain ⟨σ, n, H, ν, T, L, fk, ak, nw, uw, hj, td, sn, A, S, U, i0, i1, hC, hM, hU⟩ := hJ
  have hV := hU.1.1
  have b6 := Bd_2 hV.1
  have w8 := hV.1.2.1
  have h8 := hV.1.2.2.2.1
  have hpr : ∀ r, r < 6 → σ (172 + r) + 6 < 1073741824 := fun r hr => by have := hU.1.2.2 r hr; omega
  by_cases hp : pI σ p
  · obtain ⟨k, hk, rfl⟩ := pI_n hp b6
    by_cases hz : (nI 1).toInt ≤ z.toInt ∧ z.toInt ≤ (nI 30).toInt
    · obtain ⟨c, c1, c2, rfl⟩ := rng_n (by decide) (by decide) hz
      exact PR_of (C_PV hC (c_i_odds 33 M σ hC.1.1 hV k c y hk c1 c2 hpr)) (fun M1 hF => by have hM1 := MA_FC hF hM; exact M_PGL (Or.inr rfl) hM1 (c_m_odds 32 M1 (M1.1 116) (M1.1 114) σ (Rs_rf hM1.1) hV rfl k c y hk c1 c2 hpr)) (PUr_up hU (by omega))
    · exact PR_of (C_PV hC (c_i_oddsN 39 M σ hC.1.1 hV k z y hk hz)) (fun M1 hF => by have hM1 := MA_FC hF hM; exact M_PGL (Or.inr rfl) hM1 (c_m_oddsN 38 M1 (M1.1 116) (M1.1 114) σ (Rs_rf hM1.1) hV rfl k z y hk hz)) (PUr_up hU (by omega))
  · exact PR_of (C_PV hC (c_i_oddsP 39 M σ hC.1.1 hV p z y hp)) (fun M1 hF => by have hM1 := MA_FC hF hM; exact M_PGL (Or.inr rfl) hM1 (c_m_oddsP 38 M1 (M1.1 116) (M1.1 114) σ (Rs_rf hM1.1) hV rfl p z y hp)) (PUr_up hU (by omega))
theorem r_fault {b ln : Nat} {tx : Nat → Nat} {M : Mm} (hJ : JV b ln tx M) : PR b ln tx 5 73 [] M := by
  obtain ⟨σ, n, H, ν, T, L, fk, ak, nw, uw, hj, td, sn, A, S, U, i0, i1, hC, hM, hU⟩ := hJ
  have hV := hU.1.1
  have b6 := Bd_2 hV.1
  have w8 := hV.1.2.1
  have h8 := hV.1.2.2.2.1
  have hi := c_i_fault 40 M
  rw [hC.2.2.1] at hi
  exact PR_of (C_PN hC hi) (fun M1 hF => by
    have hM1 := MA_FC hF hM
    have hm := c_m_fault 40 M1 (M1.1 114) rfl
    rw [hM1.2.2.2.2.1] at hm
    exact M_PO hM1 hm) (PUr_up hU (by omega))
theorem r_ask {b ln : Nat} {tx : Nat → Nat} {M : Mm} (hJ : JV b ln tx M) : PR b ln tx 32 120 [] M := by
  obtain ⟨σ, n, H, ν, T, L, fk, ak, nw, uw, hj, td, sn, A, S, U, i0, i1, hC, hM, hU⟩ := hJ
  have hV := hU.1.1
  have b6 := Bd_2 hV.1
  have w8 := hV.1.2.1
  have h8 := hV.1.2.2.2.1
  have hi := c_i_ask 40 M
  rw [hC.2.2.2.1] at hi
  exact PR_of (C_PN hC hi) (fun M1 hF => by
    have hM1 := MA_FC hF hM
    have hm := c_m_ask 40 M1 (M1.1 114) rfl
    rw [hM1.2.2.2.2.2.1] at hm
    exact M_PO hM1 hm) (PUr_up hU (by omega))
theorem r_bows {b ln : Nat} {tx : Nat → Nat} {M : Mm} (hJ : JV b ln tx M) (p x y : Int32) : PR b ln tx 20 111 [.int p, .int x, .int y] M := by
  obtain ⟨σ, n, H, ν, T, L, fk, ak, nw, uw, hj, td, sn, A, S, U, i0, i1, hC, hM, hU⟩ := hJ
  have hV := hU.1.1
  have b6 := Bd_2 hV.1
  have w8 := hV.1.2.1
  have h8 := hV.1.2.2.2.1
  by_cases hc : cso σ p x y
  · obtain ⟨q, a, c, hq, ha, hc2, rfl, rfl, rfl, hf⟩ := cso_of hc b6 w8 h8
    refine PR_rel (Rl := fun v => ∃ o, LCo (EB σ (okW σ q (σ (160 + q)))) (σ (160 + q)) 0 (xB σ q) (8 * c + a) o ∧ v = oI o) (fun v w h k => ?_) ((c_i_bows 35 M σ hC.1.1 hV.1 q a c hq ha hc2 hf).mono (fun r M1 k => ?_)) (fun M1 hF => ((c_m_bows 35 M1 (M1.1 114) rfl σ ⟨(MA_FC hF hM).1, hV.1⟩ q a c hq ha hc2 hf).mono (fun r M2 k => ?_))) (PUr_up hU (by omega))
    · obtain ⟨o, h1, h2⟩ := h
      obtain ⟨o', k1, k2⟩ := k
      rw [h2, k2, LCo_u h1 k1]
    · obtain ⟨⟨o, h1, h2⟩, h3⟩ := k
      exact ⟨⟨_, ⟨o, h1, rfl⟩, h2⟩, CA_84 (Or.inl rfl) h3 hC⟩
    · obtain ⟨⟨o, h1, h2⟩, h3, h4⟩ := k
      exact ⟨⟨_, ⟨o, h1, rfl⟩, h2⟩, MA_q (by unfold frm; decide) (MA_FC hF hM) h3 h4⟩
  · exact PR_of (C_PN hC (c_i_bowsX 37 M σ hC.1.1 hV.1 p x y hc)) (fun M1 hF => by have hM1 := MA_FC hF hM; exact M_PO hM1 (c_m_bowsX 38 M1 (M1.1 114) rfl σ ⟨hM1.1, hV.1⟩ p x y hc)) (PUr_up hU (by omega))
theorem r_firm {b ln : Nat} {tx : Nat → Nat} {M : Mm} (hJ : JV b ln tx M) (p x y : Int32) : PR b ln tx 21 112 [.int p, .int x, .int y] M := by
  obtain ⟨σ, n, H, ν, T, L, fk, ak, nw, uw, hj, td, sn, A, S, U, i0, i1, hC, hM, hU⟩ := hJ
  have hV := hU.1.1
  have b6 := Bd_2 hV.1
  have w8 := hV.1.2.1
  have h8 := hV.1.2.2.2.1
  by_cases hc : cso σ p x y
  · obtain ⟨q, a, c, hq, ha, hc2, rfl, rfl, rfl, hf⟩ := cso_of hc b6 w8 h8
    refine PR_rel (Rl := fiR σ q (8 * c + a)) (fun v w h k => fiR_u h k) ((c_i_firm 35 M σ hC.1.1 hV.1 q a c hq ha hc2 hf).mono (fun r M1 k => ⟨k.1, CA_84 (Or.inl rfl) k.2 hC⟩)) (fun M1 hF => ((c_m_firm 35 M1 (M1.1 114) rfl σ ⟨(MA_FC hF hM).1, hV.1⟩ q a c hq ha hc2 hf).mono (fun r M2 k => ⟨k.1, MA_q (by unfold frm; decide) (MA_FC hF hM) k.2.1 k.2.2⟩))) (PUr_up hU (by omega))
  · exact PR_of (C_PN hC (c_i_firmX 37 M σ hC.1.1 hV.1 p x y hc)) (fun M1 hF => by have hM1 := MA_FC hF hM; exact M_PO hM1 (c_m_firmX 38 M1 (M1.1 114) rfl σ ⟨hM1.1, hV.1⟩ p x y hc)) (PUr_up hU (by omega))
theorem r_told {b ln : Nat} {tx : Nat → Nat} {M : Mm} (hJ : JV b ln tx M) (w : Int32) : PR b ln tx 35 137 [.int w] M := by
  obtain ⟨σ, n, H, ν, T, L, fk, ak, nw, uw, hj, td, sn, A, S, U, i0, i1, hC, hM, hU⟩ := hJ
  have hV := hU.1.1
  have b6 := Bd_2 hV.1
  have w8 := hV.1.2.1
  have h8 := hV.1.2.2.2.1
  cases hj with
  | false =>
    have e14 : M.1 0 14 = 0 := hC.2.2.2.2.2.1.1
    exact PR_of (C_PN hC (c_i_told0 40 M (M.1 0) (M.1 87) rfl rfl w e14)) (fun M1 hF => by
      have hM1 := MA_FC hF hM
      exact M_PO hM1 (c_m_told0 40 M1 (M1.1 114) rfl (M1.1 128) rfl w hM1.2.2.2.2.2.2.2.1.1)) (PUr_up hU (by omega))
  | true =>
    have e14 : ¬ M.1 0 14 = 0 := by rw [hC.2.2.2.2.2.1.1]; decide
    have t1 := hC.2.2.2.2.2.1.2 rfl
    by_cases hw : (nI 0).toInt ≤ w.toInt ∧ w.toInt ≤ (nI 3).toInt
    · obtain ⟨k, _, k4, rfl⟩ := rng_n (by decide) (by decide) hw
      have hi := c_i_told 40 M (M.1 0) (M.1 87) rfl rfl k (by omega) e14
      rw [t1 k (by omega)] at hi
      exact PR_of (C_PN hC hi) (fun M1 hF => by
        have hM1 := MA_FC hF hM
        have e38 : ¬ M1.1 114 38 = 0 := by rw [hM1.2.2.2.2.2.2.2.1.1]; decide
        have hm := c_m_told 39 M1 (M1.1 114) rfl (M1.1 128) rfl k (by omega) e38
        rw [hM1.2.2.2.2.2.2.2.1.2 rfl k (by omega)] at hm
        exact M_PO hM1 hm) (PUr_up hU (by omega))
    · have hm : ∀ M1, FC M M1 → Wn 40 137 (fun r M2 => r = some (.int (-1)) ∧ FM M1 M2 ∧ MA M2 σ n H ν T L fk ak nw uw true td sn A S U i0 i1 ln tx) (0, lv_args 0 [.ref 114, .int w], [], M1) := fun M1 hF => by
        have hM1 := MA_FC hF hM
        exact M_PO hM1 (c_m_toldN 39 M1 (M1.1 114) rfl (M1.1 128) rfl w (by rw [hM1.2.2.2.2.2.2.2.1.1]; decide) hw)
      by_cases hl : w < 0
      · exact PR_of (C_PN hC (c_i_toldL 40 M (M.1 0) (M.1 87) rfl rfl w e14 hl)) hm (PUr_up hU (by omega))
      · have hh : (nI 4) ≤ w := by
          rw [Int32.le_iff_toInt_le]
          rw [Int32.lt_iff_toInt_lt, Int32.toInt_zero] at hl
          have e4 : (nI 4).toInt = 4 := rfl
          have e3 : (nI 3).toInt = 3 := rfl
          have e0 : (nI 0).toInt = 0 := rfl
          omega
        exact PR_of (C_PN hC (c_i_toldH 40 M (M.1 0) (M.1 87) rfl rfl w e14 hl hh)) hm (PUr_up hU (by omega))
theorem r_wayAt {b ln : Nat} {tx : Nat → Nat} {M : Mm} (hJ : JV b ln tx M) (x : Int32) : PR b ln tx 19 110 [.int x] M := by
  obtain ⟨σ, n, H, ν, T, L, fk, ak, nw, uw, hj, td, sn, A, S, U, i0, i1, hC, hM, hU⟩ := hJ
  have hV := hU.1.1
  have b6 := Bd_2 hV.1
  have w8 := hV.1.2.1
  have h8 := hV.1.2.2.2.1
  have n64 := hU.2.2.2.2.1
  have e3 := hC.2.2.2.2.1.1
  have u1 := hC.2.2.2.2.1.2
  by_cases hx : x < 0 ∨ nI nw ≤ x
  · have hm : ∀ M1, FC M M1 → Wn 40 110 (fun r M2 => r = some (.int (-1)) ∧ FM M1 M2 ∧ MA M2 σ n H ν T L fk ak nw uw hj td sn A S U i0 i1 ln tx) (0, lv_args 0 [.ref 114, .int x], [], M1) := fun M1 hF => by
      have hM1 := MA_FC hF hM
      rcases hM1.2.2.2.2.2.2.1.1 with h30 | h30
      · exact M_PO hM1 (c_m_wayAtX 39 M1 (M1.1 114) rfl nw h30 n64 x hx)
      · exact M_PO hM1 (c_m_wayAtM 39 M1 h30.2 x)
    by_cases hl : x < 0
    · exact PR_of (C_PN hC (c_i_wayAtL 39 M (M.1 83) (M.1 86) nw rfl e3 n64 rfl x hl)) hm (PUr_up hU (by omega))
    · exact PR_of (C_PN hC (c_i_wayAtH 39 M (M.1 83) (M.1 86) nw rfl e3 n64 rfl x hl (hx.resolve_left hl))) hm (PUr_up hU (by omega))
  · obtain ⟨k, k1, rfl⟩ := nI_of (x := x) (fun h => hx (Or.inl h))
    have kn : k < nw := by
      apply Classical.byContradiction
      intro h
      exact hx (Or.inr ((n_le rfl rfl (by omega) k1).mpr (by omega)))
    have hi := c_i_wayAt 39 M (M.1 83) (M.1 86) nw rfl e3 n64 rfl k kn
    rw [u1 k kn] at hi
    exact PR_of (C_PN hC hi) (fun M1 hF => by
      have hM1 := MA_FC hF hM
      have h30 : M1.1 114 30 = nI nw := hM1.2.2.2.2.2.2.1.1.resolve_right (fun h => by omega)
      have hm := c_m_wayAt 39 M1 (M1.1 114) rfl (M1.1 126) rfl nw k h30 n64 kn
      rw [hM1.2.2.2.2.2.2.1.2 k kn] at hm
      exact M_PO hM1 hm) (PUr_up hU (by omega))
theorem r_go {b ln : Nat} {tx : Nat → Nat} {M : Mm} (hJ : JV b ln tx M) (p s : Int32) : PR b ln tx 10 98 [.int p, .int s] M := by
  obtain ⟨σ, n, H, ν, T, L, fk, ak, nw, uw, hj, td, sn, A, S, U, i0, i1, hC, hM, hU⟩ := hJ
  have hV := hU.1.1
  have b6 := Bd_2 hV.1
  have w8 := hV.1.2.1
  have h8 := hV.1.2.2.2.1
  by_cases hp : pI σ p
  · obtain ⟨k, hk, rfl⟩ := pI_n hp b6
    by_cases hz : (nI 0).toInt ≤ s.toInt ∧ s.toInt ≤ (nI 3).toInt
    · obtain ⟨c, _, c2, rfl⟩ := rng_n (by decide) (by decide) hz
      have hs : ∀ i, i < 90 → gof σ k c i = σ i := fun i hi => gof_lo (by omega) (by omega)
      exact PR_of (C_PC hC (hs 2 (by omega)) (c_i_go 35 M σ n H hC.1.1 hV hC.1.2.1 k c hk (by omega))) (fun M1 hF => by have hM1 := MA_FC hF hM; exact M_PA hM1 (hs 2 (by omega)) (fun _ _ => rfl) (c_m_go 34 M1 (M1.1 116) (M1.1 114) σ n H (Rs_rf hM1.1) hV rfl hM1.2.1.1 hU.2.1 hM1.2.1.2 k c hk (by omega))) (PUr_act (wgo σ k c = 0) hU (Inv_gof hV hk) hs (fun r hr => by rw [gof_lo (by omega) (by omega)]; omega))
    · exact PR_of (C_PC hC rfl (c_i_goS 39 M σ n H hC.1.1 hV hC.1.2.1 k s hk hz)) (fun M1 hF => by have hM1 := MA_FC hF hM; exact M_PA hM1 rfl (fun _ _ => rfl) (c_m_goS 38 M1 (M1.1 116) (M1.1 114) σ n H (Rs_rf hM1.1) hV rfl hM1.2.1.1 hU.2.1 hM1.2.1.2 k s hk hz)) (PUr_up hU (by omega))
  · exact PR_of (C_PC hC rfl (c_i_goP 39 M σ n H hC.1.1 hV hC.1.2.1 p s hp)) (fun M1 hF => by have hM1 := MA_FC hF hM; exact M_PA hM1 rfl (fun _ _ => rfl) (c_m_goP 38 M1 (M1.1 116) (M1.1 114) σ n H (Rs_rf hM1.1) hV rfl hM1.2.1.1 hU.2.1 hM1.2.1.2 p s hp)) (PUr_up hU (by omega))
theorem r_bow {b ln : Nat} {tx : Nat → Nat} {M : Mm} (hJ : JV b ln tx M) (p : Int32) : PR b ln tx 11 99 [.int p] M := by
  obtain ⟨σ, n, H, ν, T, L, fk, ak, nw, uw, hj, td, sn, A, S, U, i0, i1, hC, hM, hU⟩ := hJ
  have hV := hU.1.1
  have b6 := Bd_2 hV.1
  have w8 := hV.1.2.1
  have h8 := hV.1.2.2.2.1
  by_cases hp : pI σ p
  · obtain ⟨k, hk, rfl⟩ := pI_n hp b6
    have hs : ∀ i, i < 90 → bowf σ k i = σ i := fun i hi => bowf_lo (by omega) (Bd_q hV.1 _ (by omega)).1 (by omega)
    exact PR_of (C_PC hC (hs 2 (by omega)) (c_i_bow 37 M σ n H hC.1.1 hV hC.1.2.1 k hk)) (fun M1 hF => by have hM1 := MA_FC hF hM; exact M_PA hM1 (hs 2 (by omega)) (fun _ _ => rfl) (c_m_bow 37 M1 (M1.1 116) (M1.1 114) σ n H (Rs_rf hM1.1) hV rfl hM1.2.1.1 hU.2.1 hM1.2.1.2 k hk)) (PUr_act (wbw σ k = 0) hU (Inv_bowf hV hk) hs (fun r hr => by rw [bowf_lo (by omega) (Bd_q hV.1 _ (by omega)).1 (by omega)]; omega))
  · exact PR_of (C_PC hC rfl (c_i_bowP 39 M σ n H hC.1.1 hV hC.1.2.1 p hp)) (fun M1 hF => by have hM1 := MA_FC hF hM; exact M_PA hM1 rfl (fun _ _ => rfl) (c_m_bowP 38 M1 (M1.1 116) (M1.1 114) σ n H (Rs_rf hM1.1) hV rfl hM1.2.1.1 hU.2.1 hM1.2.1.2 p hp)) (PUr_up hU (by omega))
theorem r_swear {b ln : Nat} {tx : Nat → Nat} {M : Mm} (hJ : JV b ln tx M) (p : Int32) : PR b ln tx 13 101 [.int p] M := by
  obtain ⟨σ, n, H, ν, T, L, fk, ak, nw, uw, hj, td, sn, A, S, U, i0, i1, hC, hM, hU⟩ := hJ
  have hV := hU.1.1
  have b6 := Bd_2 hV.1
  have w8 := hV.1.2.1
  have h8 := hV.1.2.2.2.1
  by_cases hp : pI σ p
  · obtain ⟨k, hk, rfl⟩ := pI_n hp b6
    have hs : ∀ i, i < 90 → swf σ k i = σ i := fun i hi => swf_lo (by omega) (by omega)
    exact PR_of (C_PC hC (hs 2 (by omega)) (c_i_swear 35 M σ n H hC.1.1 hV hC.1.2.1 k hk)) (fun M1 hF => by have hM1 := MA_FC hF hM; exact M_PA hM1 (hs 2 (by omega)) (fun _ _ => rfl) (c_m_swear 34 M1 (M1.1 116) (M1.1 114) σ n H (Rs_rf hM1.1) hV rfl hM1.2.1.1 hU.2.1 hM1.2.1.2 k hk)) (PUr_act (¬ fal σ k = true) hU (Inv_swf hV (by omega)) hs (fun r hr => by rw [swf_lo (by omega) (by omega)]; omega))
  · exact PR_of (C_PC hC rfl (c_i_swearP 39 M σ n H hC.1.1 hV hC.1.2.1 p hp)) (fun M1 hF => by have hM1 := MA_FC hF hM; exact M_PA hM1 rfl (fun _ _ => rfl) (c_m_swearP 38 M1 (M1.1 116) (M1.1 114) σ n H (Rs_rf hM1.1) hV rfl hM1.2.1.1 hU.2.1 hM1.2.1.2 p hp)) (PUr_up hU (by omega))
theorem prf_pr {σ : Nat → Nat} (hB : Bd σ) {q r k : Nat} (hr : r < 6) (hk : k < 6) : prf σ q r (172 + k) ≤ σ (172 + k) + 41 := by
  unfold prf
  by_cases h : wpr σ q r = 0
  · rw [if_pos h]
    have := flat_pr hr (Bd_q hB r hr).1 hk
    omega
  · rw [if_neg h]; omega
theorem r_praise {b ln : Nat} {tx : Nat → Nat} {M : Mm} (hb : b < 1000000) (hJ : JV b ln tx M) (p s : Int32) : PR b ln tx 12 100 [.int p, .int s] M := by
  obtain ⟨σ, n, H, ν, T, L, fk, ak, nw, uw, hj, td, sn, A, S, U, i0, i1, hC, hM, hU⟩ := hJ
  have hV := hU.1.1
  have b6 := Bd_2 hV.1
  have w8 := hV.1.2.1
  have h8 := hV.1.2.2.2.1
  by_cases hp : pI σ p
  · obtain ⟨k, hk, rfl⟩ := pI_n hp b6
    by_cases hz : pI σ s
    · obtain ⟨c, hc, rfl⟩ := pI_n hz b6
      have hpr : σ (172 + c) + 1 < 1073741824 := by have := hU.1.2.2 c (by omega); omega
      have hs : ∀ i, i < 90 → prf σ k c i = σ i := fun i hi => prf_lo (by omega) (Bd_q hV.1 _ (by omega)).1 hi
      exact PR_of (C_PC hC (hs 2 (by omega)) (c_i_praise 36 M σ n H hC.1.1 hV hC.1.2.1 k c hk hc hpr)) (fun M1 hF => by have hM1 := MA_FC hF hM; exact M_PA hM1 (hs 2 (by omega)) (fun _ _ => rfl) (c_m_praise 34 M1 (M1.1 116) (M1.1 114) σ n H (Rs_rf hM1.1) hV rfl hM1.2.1.1 hU.2.1 hM1.2.1.2 k c hk hc hpr)) (PUr_act (wpr σ k c = 0) hU (Inv_prf hV hc hpr) hs (fun r hr => prf_pr hV.1 (by omega) hr))
    · exact PR_of (C_PC hC rfl (c_i_praiseR 39 M σ n H hC.1.1 hV hC.1.2.1 k s hk hz)) (fun M1 hF => by have hM1 := MA_FC hF hM; exact M_PA hM1 rfl (fun _ _ => rfl) (c_m_praiseR 38 M1 (M1.1 116) (M1.1 114) σ n H (Rs_rf hM1.1) hV rfl hM1.2.1.1 hU.2.1 hM1.2.1.2 k s hk hz)) (PUr_up hU (by omega))
  · exact PR_of (C_PC hC rfl (c_i_praiseP 39 M σ n H hC.1.1 hV hC.1.2.1 p s hp)) (fun M1 hF => by have hM1 := MA_FC hF hM; exact M_PA hM1 rfl (fun _ _ => rfl) (c_m_praiseP 38 M1 (M1.1 116) (M1.1 114) σ n H (Rs_rf hM1.1) hV rfl hM1.2.1.1 hU.2.1 hM1.2.1.2 p s hp)) (PUr_up hU (by omega))
theorem mn_400 {z h : Nat} (hh : h ≤ 400) : h + mn z (400 - h) ≤ 400 := by
  unfold mn
  split <;> omega
theorem r_hours {b ln : Nat} {tx : Nat → Nat} {M : Mm} (hJ : JV b ln tx M) (z : Int32) : PR b ln tx 14 102 [.int z] M := by
  obtain ⟨σ, n, H, ν, T, L, fk, ak, nw, uw, hj, td, sn, A, S, U, i0, i1, hC, hM, hU⟩ := hJ
  have hV := hU.1.1
  have b6 := Bd_2 hV.1
  have w8 := hV.1.2.1
  have h8 := hV.1.2.2.2.1
  have h4 : σ 90 ≤ 400 := hV.1.2.2.2.2.2.2.2.2.2.2.2.2.2.2.1
  by_cases hz : (nI 1).toInt ≤ z.toInt ∧ z.toInt ≤ (nI 60).toInt
  · obtain ⟨c, c1, c2, rfl⟩ := rng_n (by decide) (by decide) hz
    have hs : ∀ i, i < 90 → hK σ (mn c (400 - σ 90)) i = σ i := fun i hi => hK_lo b6 (by omega) _
    exact PR_of (C_PC hC (hs 2 (by omega)) (c_i_hours 35 M σ n H hC.1.1 hV hC.1.2.1 c c1 c2)) (fun M1 hF => by have hM1 := MA_FC hF hM; exact M_PA hM1 (hs 2 (by omega)) (fun _ _ => rfl) (c_m_hours 32 M1 (M1.1 116) (M1.1 114) σ n H (Rs_rf hM1.1) hV rfl hM1.2.1.1 hU.2.1 hM1.2.1.2 c c1 c2)) (PUr_act (0 < mn c (400 - σ 90)) hU (Inv_hK hV _ (mn_400 h4)) hs (fun r hr => Nat.le_trans (hK_pr hr _) (by omega)))
  · exact PR_of (C_PC hC rfl (c_i_hoursN 40 M σ n H hC.1.1 hV hC.1.2.1 z hz)) (fun M1 hF => by have hM1 := MA_FC hF hM; exact M_PA hM1 rfl (fun _ _ => rfl) (c_m_hoursN 39 M1 (M1.1 116) (M1.1 114) σ n H (Rs_rf hM1.1) hV rfl hM1.2.1.1 hU.2.1 hM1.2.1.2 z hz)) (PUr_up hU (by omega))
theorem dhN_pr {σ : Nat → Nat} (h : Inv σ) {x : Int32} (hp : ∀ r, r < 6 → σ (172 + r) + 6 < 1073741824) {r : Nat} (hr : r < 6) : (dK σ x 0).1 (172 + r) ≤ σ (172 + r) := Nat.le_refl _
theorem dK_pr {σ : Nat → Nat} {x : Int32} {r : Nat} (hr : r < 6) : ∀ n, (dK σ x n).1 (172 + r) ≤ σ (172 + r)
  | 0 => Nat.le_refl _
  | n + 1 => by
    rw [dK_s]
    show hour _ (172 + r) ≤ _
    rw [hour_pr hr]
    exact Nat.zero_le _
theorem r_drawn {b ln : Nat} {tx : Nat → Nat} {M : Mm} (hb : b < 1000000) (hJ : JV b ln tx M) (z y : Int32) : PR b ln tx 15 132 [.int z, .int y] M := by
  obtain ⟨σ, n, H, ν, T, L, fk, ak, nw, uw, hj, td, sn, A, S, U, i0, i1, hC, hM, hU⟩ := hJ
  have hV := hU.1.1
  have b6 := Bd_2 hV.1
  have w8 := hV.1.2.1
  have h8 := hV.1.2.2.2.1
  have h4 : σ 90 ≤ 400 := hV.1.2.2.2.2.2.2.2.2.2.2.2.2.2.2.1
  have hpr : ∀ r, r < 6 → σ (172 + r) + 6 < 1073741824 := fun r hr => by have := hU.1.2.2 r hr; omega
  by_cases hz : (nI 1).toInt ≤ z.toInt ∧ z.toInt ≤ (nI 60).toInt
  · obtain ⟨c, c1, c2, rfl⟩ := rng_n (by decide) (by decide) hz
    have hs : ∀ i, i < 90 → (dK σ y (mn c (400 - σ 90))).1 i = σ i := fun i hi => dK_lo hV hpr hi _ (mn_400 h4)
    exact PR_of (C_PC hC (hs 2 (by omega)) (c_i_drawn 33 M σ n H hC.1.1 hV hC.1.2.1 c y c1 c2 hpr)) (fun M1 hF => by have hM1 := MA_FC hF hM; exact M_PA hM1 (hs 2 (by omega)) (fun _ _ => rfl) (c_m_drawn 32 M1 (M1.1 116) (M1.1 114) σ n H (Rs_rf hM1.1) hV rfl hM1.2.1.1 hU.2.1 hM1.2.1.2 c y c1 c2 hpr)) (PUr_act (0 < mn c (400 - σ 90)) hU ((dK_ok hV hpr _ (mn_400 h4)).1) hs (fun r hr => Nat.le_trans (dK_pr hr _) (by omega)))
  · exact PR_of (C_PC hC rfl (c_i_drawnN 40 M σ n H hC.1.1 hV hC.1.2.1 z y hz)) (fun M1 hF => by have hM1 := MA_FC hF hM; exact M_PA hM1 rfl (fun _ _ => rfl) (c_m_drawnN 39 M1 (M1.1 116) (M1.1 114) σ n H (Rs_rf hM1.1) hV rfl hM1.2.1.1 hU.2.1 hM1.2.1.2 z y hz)) (PUr_up hU (by omega))
theorem r_undo {b ln : Nat} {tx : Nat → Nat} {M : Mm} (hJ : JV b ln tx M) : PR b ln tx 16 104 [] M := by
  obtain ⟨σ, n, H, ν, T, L, fk, ak, nw, uw, hj, td, sn, A, S, U, i0, i1, hC, hM, hU⟩ := hJ
  have hV := hU.1.1
  have b6 := Bd_2 hV.1
  have w8 := hV.1.2.1
  have h8 := hV.1.2.2.2.1
  by_cases e : n = 0
  · have hi := c_i_undo 38 M σ n H hC.1.1 hV hC.1.2.1
    rw [if_pos e, if_pos e] at hi
    have en : n - 1 = n := by omega
    rw [en] at hi
    exact PR_of (C_PC hC rfl hi) (fun M1 hF => by
      have hM1 := MA_FC hF hM
      have hm := c_m_undo 40 M1 (M1.1 116) (M1.1 114) σ n H (Rs_rf hM1.1) hV rfl hM1.2.1.1 hU.2.1 hM1.2.1.2
      rw [if_pos e, if_pos e, en] at hm
      exact M_PA hM1 rfl (fun _ _ => rfl) hm) (PUr_up hU (by omega))
  · have hi := c_i_undo 38 M σ n H hC.1.1 hV hC.1.2.1
    rw [if_neg e, if_neg e] at hi
    obtain ⟨gd, sm⟩ := hU.2.2.1 (n - 1) (by omega)
    have e2 : H (n - 1) 2 = σ 2 := sm 2 (by omega)
    refine PR_of (C_PC hC e2 hi) (fun M1 hF => by
      have hM1 := MA_FC hF hM
      have hm := c_m_undo 40 M1 (M1.1 116) (M1.1 114) σ n H (Rs_rf hM1.1) hV rfl hM1.2.1.1 hU.2.1 hM1.2.1.2
      rw [if_neg e, if_neg e] at hm
      exact M_PA hM1 e2 (fun k hk => mrg_eq (fun i hi => (sm i hi).symm) hk) hm) ?_
    obtain ⟨h1, h2, h3, h4, h5, h6, h7, h8', h9⟩ := hU
    exact ⟨GD_up gd (by omega), by omega, fun k hk => ⟨GD_up (h3 k (by omega)).1 (by omega), fun i hi => by rw [(h3 k (by omega)).2 i hi, sm i hi]⟩, h4, h5, by rw [e2]; exact h6, by rw [e2]; exact h7, ImG_up h8' (by omega), ImG_up h9 (by omega)⟩
theorem M_PSy {jm : Nat} {c : Cf} {M : Mm} {v : Int32} {σ : Nat → Nat} {n : Nat} {H : Nat → Nat → Nat} {ν : Nat → Int64} {T : Nat → Nat} {L : Nat} {fk ak : Int32} {nw : Nat} {uw : Nat → Int32} {hj : Bool} {td : Nat → Int32} {sn : Nat} {A S U : Nat → Nat} {i0 i1 : Img} {ln : Nat} {tx : Nat → Nat} (hM : MA M σ n H ν T L fk ak nw uw hj td sn A S U i0 i1 ln tx) (h : Wn 40 jm (PSy M (M.1 114) v) c) : Wn 40 jm (fun r M2 => r = some (.int v) ∧ FM M M2 ∧ MA M2 σ n H ν T L fk ak nw uw hj td sn A S U i0 i1 ln tx) c :=
  h.mono (fun r M2 k => ⟨k.1, MA_q (by unfold frm; decide) hM k.2.1 k.2.2⟩)
theorem r_said {b ln : Nat} {tx : Nat → Nat} {M : Mm} (hJ : JV b ln tx M) (k : Int32) : PR b ln tx 37 147 [.int k] M := by
  obtain ⟨σ, n, H, ν, T, L, fk, ak, nw, uw, hj, td, sn, A, S, U, i0, i1, hC, hM, hU⟩ := hJ
  have hV := hU.1.1
  have b6 := Bd_2 hV.1
  have w8 := hV.1.2.1
  have h8 := hV.1.2.2.2.1
  exact PR_of (C_PN hC (c_i_said 35 M σ hC.1.1 hV.1 hV.2.1 sn A S U hC.2.2.2.2.2.2.1 hU.2.2.2.2.2.1 k _ ⟨rfl, rfl⟩)) (fun M1 hF => by have hM1 := MA_FC hF hM; exact M_PSy hM1 (c_m_said 32 M1 (M1.1 114) rfl σ ⟨hM1.1, hV.1⟩ sn A S U hM1.2.2.2.2.2.2.2.2.1 hU.2.2.2.2.2.1 k)) (PUr_up hU (by omega))
