/-! The reference's sentence. -/
/-- the sentence in the reference's row -/
def CodM (u : Nat → Int32) (n : Nat) (A S U : Nat → Nat) : Prop := u 178 = nI n ∧ ∀ i, i < n → u (179 + 3 * i) = nI (cdW (A i)) ∧ u (180 + 3 * i) = nI (cdS (S i)) ∧ u (181 + 3 * i) = nI (U i)
def KSe : List Nat := [0, 2, 3, 4, 5, 11, 12, 13, 14, 15, 16, 18, 20, 40, 41, 42, 43, 44]
def PSe (M0 : Mm) (g : Nat → Int32) (res : Flt ⊕ Sst) : Po := fun r0 M' => Gx KSe g (M'.1 114) ∧ Fr [114, 116, 118, 129] M0 M' ∧ M'.1 114 0 = nI 0 ∧ M'.1 114 2 = nI 0 ∧ match res with
  | .inl f => r0 = some (.int ((-1 : Int32) - nI f.2)) ∧ M'.1 114 15 = nI f.1 ∧ M'.1 116 = M0.1 116
  | .inr st => r0 = some (.int (nI st.2.2.1)) ∧ M'.1 114 15 = nI 0 ∧ (∀ k, k < 178 → M'.1 116 k = M0.1 116 k) ∧ CodM (M'.1 116) st.2.1 st.2.2.2.1 st.2.2.2.2.1 st.2.2.2.2.2
def SInv (M : Mm) (g : Nat → Int32) (T : Nat → Nat) (L mo : Nat) (c : Cst) (N : Mm) : Prop := TkM N T L mo c.2.2.1 ∧ SM N c.2.2 ∧ SK N c.2.1 ∧ N.1 114 44 = nI (if c.1 = true then 1 else 0) ∧ CB c ∧ N.1 114 15 = nI 0 ∧ N.1 114 0 = nI 0 ∧ N.1 114 2 = nI 0 ∧ Gx KSe g (N.1 114) ∧ Fr [114, 118, 129] M N
theorem KS_KSe : ∀ k, k ∈ KS → k ∈ KSe := by decide
set_option maxRecDepth 20000 in
theorem c_m_sentence_132 (d : Nat) (M N : Mm) (g : Nat → Int32) (st : Sst) (hs : SM N st) (hn : st.2.1 ≤ 40) (h15 : N.1 114 15 = nI 0) (h0 : N.1 114 0 = nI 0) (h2 : N.1 114 2 = nI 0) (hx : Gx KSe g (N.1 114)) (hF : Fr [114, 118, 129] M N) : Wn (d + 6) 144 (PSe M g (.inr st)) (132, [(1, .int (nI 0)), (0, .ref 114)], [], N) := by
  refine Wn.run (tab := tb_m_sentence) rfl 6 (c' := (144, [(1, .int (nI 0)), (0, .ref 114)], [], (mI N 116 (upd (N.1 116) 178 (N.1 114 40))))) (o := [shp 114 = (0, 10), shp 114 = (0, 10), aok shp 116 0 (nI 178)]) rfl ⟨rfl, rfl, ⟨rfl, vp_in_nI (by decide) (by decide)⟩⟩ ?_
  rw [hs.1]
  generalize hM1 : (mI N 116 (upd (N.1 116) 178 (nI st.2.1))) = N1
  have f1 := fr_1I hM1
  refine Wn.run (tab := tb_m_sentence) rfl 2 (c' := (146, [(2, .int (nI 0)), (1, .int (nI 0)), (0, .ref 114)], [], N1)) (o := []) rfl trivial ?_
  have loop : ∀ (m z : Nat) (O : Mm), 3 * st.2.1 - z = m → z ≤ 3 * st.2.1 → (∀ k, k < 178 → O.1 116 k = M.1 116 k) → O.1 116 178 = nI st.2.1 → (∀ k, k < z → O.1 116 (179 + k) = N.1 118 k) → Fr [116] N O → Wn (d + 6) 144 (PSe M g (.inr st)) (146, [(2, .int (nI z)), (1, .int (nI 0)), (0, .ref 114)], [], O) := by
    intro m
    induction m using Nat.strongRecOn with
    | _ m ih =>
      intro z O hm hz o1 o2 o3 hFO
      have e40 : O.1 114 40 = nI st.2.1 := by rw [(hFO 114 (by decide)).1]; exact hs.1
      refine Wn.run (tab := tb_m_sentence) rfl 6 (c' := (if ((nI 3) * (O.1 114 40)) ≤ (nI z) then 178 else 156, [(2, .int (nI z)), (1, .int (nI 0)), (0, .ref 114)], [], O)) (o := [shp 114 = (0, 10)]) rfl rfl ?_
      rw [e40, show (nI 3) * (nI st.2.1) = nI (3 * st.2.1) from pk_mul _ _]
      by_cases hz4 : 3 * st.2.1 ≤ z
      · rw [if_pos ((n_le rfl rfl (by omega) (by omega)).mpr hz4)]
        refine Wn.run (tab := tb_m_sentence) rfl 2 (c' := (182, [(2, .int (nI z)), (1, .int (nI 0)), (0, .ref 114)], [.int (O.1 114 41)], O)) (o := [shp 114 = (0, 10)]) rfl rfl ?_
        rw [show O.1 114 41 = nI st.2.2.1 from by rw [(hFO 114 (by decide)).1]; exact hs.2.1]
        have e114 := (hFO 114 (by decide)).1
        refine Wn.iret rfl ⟨by rw [e114]; exact hx, fr_tr (fr_up hF (by decide)) hFO (by decide), by rw [e114]; exact h0, by rw [e114]; exact h2, rfl, by rw [e114]; exact h15, o1, o2, fun i hi => ?_⟩
        have q := hs.2.2 i hi
        refine ⟨?_, ?_, ?_⟩
        · rw [o3 (3 * i) (by omega)]; exact q.1
        · rw [show 180 + 3 * i = 179 + (3 * i + 1) by omega, o3 (3 * i + 1) (by omega)]; exact q.2.1
        · rw [show 181 + 3 * i = 179 + (3 * i + 2) by omega, o3 (3 * i + 2) (by omega)]; exact q.2.2
      · rw [if_neg (mt (n_le rfl rfl (by omega) (by omega)).mp hz4)]
        have ei : (nI 179) + (nI z) = nI (179 + z) := nI_add _ _
        have kz : aok shp 116 0 ((nI 179) + (nI z)) := ak1 (n := 359) rfl rfl ei (by omega)
        refine Wn.run (tab := tb_m_sentence) rfl 10 (c' := (172, [(2, .int (nI z)), (1, .int (nI 0)), (0, .ref 114)], [], (mI O 116 (upd (O.1 116) (((nI 179) + (nI z))).toNatClampNeg (O.1 118 ((nI z)).toNatClampNeg))))) (o := [shp 114 = (0, 10), shp 114 = (0, 10), aok shp 118 0 (nI z), aok shp 116 0 ((nI 179) + (nI z))]) rfl ⟨rfl, rfl, (ak1 (n := 135) rfl rfl rfl (by omega)), kz⟩ ?_
        rw [show O.1 118 ((nI z)).toNatClampNeg = N.1 118 z from by rw [nI_clamp (by omega), (hFO 118 (by decide)).1], show (((nI 179) + (nI z))).toNatClampNeg = 179 + z from cl1 ei (by omega)]
        generalize hO2 : (mI O 116 (upd (O.1 116) (179 + z) (N.1 118 z))) = O2
        refine Wn.run (tab := tb_m_sentence) rfl 2 (c' := (146, [(2, .int ((nI z) + (nI 1))), (1, .int (nI 0)), (0, .ref 114)], [], O2)) (o := []) rfl trivial ?_
        rw [nI_add]
        refine ih (3 * st.2.1 - (z + 1)) (by omega) (z + 1) O2 rfl (by omega) (fun k hk => ?_) ?_ (fun k hk => ?_) (fr_tr hFO (fr_1I hO2) (by decide))
        · rw [mI_eq hO2, pk_un (by omega)]; exact o1 k hk
        · rw [mI_eq hO2, pk_un (by omega)]; exact o2
        · rw [mI_eq hO2]
          by_cases e : k = z
          · rw [e, pk_us]
          · rw [pk_un (by omega)]; exact o3 k (by omega)
  refine loop (3 * st.2.1) 0 N1 rfl (by omega) (fun k hk => ?_) ?_ (fun k hk => absurd hk (by omega)) (fr_up f1 (by decide))
  · rw [mI_eq hM1, pk_un (by omega), (hF 116 (by decide)).1]
  · rw [mI_eq hM1, pk_us]
set_option maxRecDepth 20000 in
theorem c_m_sentence_48 (d : Nat) (M : Mm) (g : Nat → Int32) (T : Nat → Nat) (L mo : Nat) (hv : Rsv M) (np : Nat) (hnp : np ≤ 6) (h116 : M.1 116 2 = nI np) (ν : Nat → Int64) (hN : ∀ q, q < np → M.2.1 119 q = ν q) : ∀ (f : Nat) (c : Cst) (N : Mm), L < c.2.2.1 + f → SInv M g T L mo c N → Wn (d + 6) 144 (PSe M g (mcS T L mo ν np f c)) (48, [(1, .int (nI 1)), (0, .ref 114)], [], N) := by
  intro f
  induction f with
  | zero => intro c N h1 h2; have := h2.1.2.2.2.2.2.2.2.2.2.2.2; omega
  | succ f ih =>
    intro c N hf ⟨hK, hs, hk, hw, hcb, h15, h0, h2, hx, hF⟩
    obtain ⟨w, S, st⟩ := c
    dsimp only at hK hs hk hw hf
    have hpL := hK.2.2.2.2.2.2.2.2.2.2.2
    have kl := tKd_le T L mo st.1
    have cl := tCd_le (tKd T L mo st.1)
    refine Wn.run (tab := tb_m_sentence) rfl 2 (c' := (if (nI 1) = 0 then 132 else 52, [(1, .int (nI 1)), (0, .ref 114)], [], N)) (o := []) rfl trivial ?_
    rw [if_neg (show ¬ nI 1 = 0 by decide)]
    refine Wn.run (tab := tb_m_sentence) rfl 3 (c' := (if (N.1 114 44) = 0 then 101 else 59, [(1, .int (nI 1)), (0, .ref 114)], [], N)) (o := [shp 114 = (0, 10)]) rfl rfl ?_
    -- a fault
    have flt : ∀ (N2 : Mm) (e : Flt), N2.1 114 15 = nI e.1 → N2.1 114 16 = nI e.2 → Gx KS (N.1 114) (N2.1 114) → Fr [114, 118, 129] M N2 → PSe M g (.inl e) (some (.int ((-1 : Int32) - nI e.2))) N2 := by
      intro N2 e a1 a2 a3 a4
      exact ⟨Gx_tr2 hx a3 KS_KSe, fr_up a4 (by decide), (a3 0 (by decide)).trans h0, (a3 2 (by decide)).trans h2, rfl, a1, (a4 116 (by decide)).1⟩
    have z125 : ∀ (N2 : Mm) (e : Flt), N2.1 114 15 = nI e.1 → N2.1 114 16 = nI e.2 → Gx KS (N.1 114) (N2.1 114) → Fr [114, 118, 129] M N2 → Wn (d + 6) 144 (PSe M g (.inl e)) (125, [(1, .int (nI 1)), (0, .ref 114)], [], N2) := by
      intro N2 e a1 a2 a3 a4
      refine Wn.run (tab := tb_m_sentence) rfl 4 (c' := (131, [(1, .int (nI 1)), (0, .ref 114)], [.int ((-1 : Int32) - (N2.1 114 16))], N2)) (o := [shp 114 = (0, 10)]) rfl rfl ?_
      rw [a2]
      exact Wn.iret rfl (flt N2 e a1 a2 a3 a4)
    have nxt : ∀ (N2 : Mm) (c2 : Cst), CB c2 → st.1 < c2.2.2.1 → Gx KS (N.1 114) (N2.1 114) → Fr [114, 118, 129] N N2 → TkM N2 T L mo c2.2.2.1 → SM N2 c2.2.2 → SK N2 c2.2.1 → N2.1 114 44 = nI (if c2.1 = true then 1 else 0) → N2.1 114 15 = N.1 114 15 → Wn (d + 6) 144 (PSe M g (mcS T L mo ν np f c2)) (48, [(1, .int (nI 1)), (0, .ref 114)], [], N2) := by
      intro N2 c2 a0 a1 a2 a3 a4 a5 a6 a7 a8
      exact ih c2 N2 (by omega) ⟨a4, a5, a6, a7, a0, a8.trans h15, (a2 0 (by decide)).trans h0, (a2 2 (by decide)).trans h2, Gx_tr2 hx a2 KS_KSe, fr_tr hF a3 (by decide)⟩
    cases w with
    | false =>
      rw [show N.1 114 44 = nI 0 from hw, if_pos (show nI 0 = 0 by decide)]
      refine Wn.run (tab := tb_m_sentence) rfl 3 (c' := (if (N.1 114 44) = 0 then 118 else 108, [(1, .int (nI 1)), (0, .ref 114)], [], N)) (o := [shp 114 = (0, 10)]) rfl rfl ?_
      rw [show N.1 114 44 = nI 0 from hw, if_pos (show nI 0 = 0 by decide)]
      refine Wn.run (tab := tb_m_sentence) rfl 1 (c' := (119, [(1, .int (nI 1)), (0, .ref 114)], [.ref 114], N)) (o := []) rfl trivial ?_
      have e : mcS T L mo ν np (f + 1) (false, S, st) = match opS T L mo ν np S st with
        | .inl e => .inl e
        | .inr c2 => mcS T L mo ν np f c2 := by
        show ((if false = true ∧ _ then _ else match (if false = true then bhS T L mo S st else opS T L mo ν np S st) with | .inl e => Sum.inl e | .inr c2 => mcS T L mo ν np f c2) : Flt ⊕ Sst) = _
        rw [if_neg (by simp), if_neg (by simp)]
      rw [e]
      refine Wn.callV (p := 114) (n := 1) (ix := 456) (ci := (10)) (POp9 N T L mo (opS T L mo ν np S st)) [] [] rfl rfl rfl rfl (Nat.le_of_ble_eq_true rfl) (Nat.le_of_ble_eq_true rfl) (c_m_operand (d + 1) N T L mo S st hK hs hk hw hcb.1 hcb.2.1 hcb.2.2 (Rsv_fr hF (by decide) hv) np hnp (by rw [(hF 116 (by decide)).1]; exact h116) ν (by intro q hq; rw [Nat.zero_add, (hF 119 (by decide)).2.1]; exact hN q hq)) ?_
      intro r0 N2 hres
      obtain ⟨a1, a2, hres⟩ := hres
      cases hq : opS T L mo ν np S st with
      | inl e =>
        rw [hq] at hres
        obtain ⟨rfl, a3, a4⟩ := hres
        show Wn _ 144 _ (122, [(1, .int (nI 1)), (0, .ref 114)], [.int (nI 0)], N2)
        refine Wn.run (tab := tb_m_sentence) rfl 1 (c' := (if ¬ (nI 0) = 0 then 48 else 125, [(1, .int (nI 1)), (0, .ref 114)], [], N2)) (o := []) rfl trivial ?_
        rw [if_neg (show ¬ ¬ nI 0 = 0 by decide)]
        exact z125 N2 e a3 a4 a1 (fr_tr hF a2 (by decide))
      | inr c2 =>
        rw [hq] at hres
        obtain ⟨rfl, a3, a4, a5, a6, a7⟩ := hres
        show Wn _ 144 _ (122, [(1, .int (nI 1)), (0, .ref 114)], [.int (nI 1)], N2)
        refine Wn.run (tab := tb_m_sentence) rfl 1 (c' := (if ¬ (nI 1) = 0 then 48 else 125, [(1, .int (nI 1)), (0, .ref 114)], [], N2)) (o := []) rfl trivial ?_
        rw [if_pos (show ¬ nI 1 = 0 by decide)]
        exact nxt N2 c2 (opS_cb hcb hq) (stp_p (ν := ν) (np := np) (c := (false, S, st)) (c2 := c2) hpL (by rw [if_neg (by simp)]; exact hq)).1 a1 a2 a3 a4 a5 a6 a7
    | true =>
      have w1 : N.1 114 44 = nI 1 := hw
      rw [w1, if_neg (show ¬ nI 1 = 0 by decide)]
      refine Wn.run (tab := tb_m_sentence) rfl 3 (c' := (if ¬ (N.1 114 11) = 0 then 101 else 66, [(1, .int (nI 1)), (0, .ref 114)], [], N)) (o := [shp 114 = (0, 10)]) rfl rfl ?_
      by_cases hz : tKd T L mo st.1 = 0
      · rw [if_neg (show ¬ ¬ (N.1 114 11) = 0 from fun q => q ((TkM_0 hK).mpr hz))]
        have e : mcS T L mo ν np (f + 1) (true, S, st) = (if (jnS 25 (ntS S st).1 (ntS S st).2).1 = [] then .inr (jnS 25 (ntS S st).1 (ntS S st).2).2 else .inl (1, tAt T L mo st.1)) := by
          show (if true = true ∧ tKd T L mo st.1 = 0 then _ else _) = _
          rw [if_pos ⟨rfl, hz⟩]
        rw [e]
        have b1 : st.2.1 + S.length + 1 ≤ 2 * st.2.2.1 := hcb.1
        have b2' : st.2.2.1 ≤ 20 := hcb.2.1
        have n1 := nt_len S st
        have n3 := (ntS_p S st).2
        have j1 := jn_len 25 (ntS S st).1 (ntS S st).2
        have j3 := (jnS_p 25 (ntS S st).1 (ntS S st).2).2
        refine Wn.run (tab := tb_m_sentence) rfl 1 (c' := (67, [(1, .int (nI 1)), (0, .ref 114)], [.ref 114], N)) (o := []) rfl trivial ?_
        refine Wn.callV (p := 114) (n := 1) (ix := 447) (ci := (10)) (PNt N (ntS S st).1 (ntS S st).2 [40, 42, 43]) [] [] rfl rfl rfl rfl (Nat.le_of_ble_eq_true rfl) (Nat.le_of_ble_eq_true rfl) (c_m_nots (d + 4) S st N hs hk (by omega)) ?_
        rintro _ N1 ⟨rfl, p1, p2, p3, p4, p5⟩
        show Wn _ 144 _ (70, [(1, .int (nI 1)), (0, .ref 114)], [], N1)
        refine Wn.run (tab := tb_m_sentence) rfl 2 (c' := (73, [(1, .int (nI 1)), (0, .ref 114)], [.int (nI 22), .ref 114], N1)) (o := []) rfl trivial ?_
        generalize hjn : jnS 25 (ntS S st).1 (ntS S st).2 = jn at *
        obtain ⟨S2, st2⟩ := jn
        dsimp only at j1 j3 ⊢
        refine Wn.callV (p := 114) (n := 2) (ix := 450) (ci := (10)) (PNt N1 S2 st2 [40, 42]) [.int (nI 22)] [] rfl rfl rfl rfl (Nat.le_of_ble_eq_true rfl) (Nat.le_of_ble_eq_true rfl) (by have q9 := c_m_joins (d + 4) 25 (Or.inl rfl) (ntS S st).1 (ntS S st).2 N1 p1 p2 (by omega); rw [hjn] at q9; exact q9) ?_
        rintro _ N2 ⟨rfl, q1, q2, q3, q4, q5⟩
        show Wn _ 144 _ (76, [(1, .int (nI 1)), (0, .ref 114)], [], N2)
        refine Wn.run (tab := tb_m_sentence) rfl 3 (c' := (if (N2.1 114 42) ≤ 0 then 96 else 83, [(1, .int (nI 1)), (0, .ref 114)], [], N2)) (o := [shp 114 = (0, 10)]) rfl rfl ?_
        have x2 : Gx [40, 42, 43] (N.1 114) (N2.1 114) := Gx_tr2 p3 q3 (by decide)
        have F2 : Fr [114, 118, 129] M N2 := fr_tr (fr_tr hF p5 (by decide)) q5 (by decide)
        rw [show N2.1 114 42 = nI S2.length from q2.1]
        cases S2 with
        | nil =>
          rw [if_pos (show nI ([] : List Nat).length ≤ 0 by decide), if_pos rfl]
          refine Wn.run (tab := tb_m_sentence) rfl 3 (c' := (48, [(1, .int (nI 0)), (0, .ref 114)], [], N2)) (o := []) rfl trivial ?_
          refine Wn.run (tab := tb_m_sentence) rfl 2 (c' := (if (nI 0) = 0 then 132 else 52, [(1, .int (nI 0)), (0, .ref 114)], [], N2)) (o := []) rfl trivial ?_
          rw [if_pos (show nI 0 = 0 by decide)]
          have j1 : st2.2.1 + 0 = _ := j1
          exact c_m_sentence_132 d M N2 g st2 q1 (by omega) ((x2 15 (by decide)).trans h15) ((x2 0 (by decide)).trans h0) ((x2 2 (by decide)).trans h2) (Gx_tr2 hx x2 (by decide)) F2
        | cons x S3 =>
          have j1 : st2.2.1 + (S3.length + 1) = _ := j1
          rw [if_neg (show ¬ nI (x :: S3).length ≤ 0 from mt (n_le rfl nI_0.symm (by show S3.length + 1 < _; omega) (by omega)).mp (by show ¬ S3.length + 1 ≤ 0; omega)), if_neg (fun q => by cases q)]
          have K2 : TkM N2 T L mo st.1 := TkM_gx x2 (by decide) (by rw [q4, p4]) (((q5 115 (by decide)).1).trans (p5 115 (by decide)).1) hK
          refine Wn.run (tab := tb_m_sentence) rfl 2 (c' := (85, [(1, .int (nI 1)), (0, .ref 114)], [.int (nI 1), .ref 114], N2)) (o := []) rfl trivial ?_
          refine Wn.callV (p := 114) (n := 2) (ix := 188) (ci := (10)) (PBd N2 (N2.1 114) (nI 1) (nI (tAt T L mo st.1))) [.int (nI 1)] [] rfl rfl rfl rfl (Nat.le_of_ble_eq_true rfl) (Nat.le_of_ble_eq_true rfl) (c_m_bad _ N2 _ T L mo st.1 rfl K2 (nI 1)) ?_
          rintro r0 N3 ⟨rfl, r1, r2, r3⟩
          show Wn _ 144 _ (88, [(1, .int (nI 1)), (0, .ref 114)], [.int (nI 0)], N3)
          refine Wn.run (tab := tb_m_sentence) rfl 5 (c' := (95, [(1, .int (nI 1)), (0, .ref 114)], [.int ((-1 : Int32) - (N3.1 114 16))], N3)) (o := [shp 114 = (0, 10)]) rfl rfl ?_
          have e16 : N3.1 114 16 = nI (tAt T L mo st.1) := by rw [r1, pk_us]
          rw [e16]
          exact Wn.iret rfl (flt N3 (1, tAt T L mo st.1) (by rw [r1, pk_un (by decide), pk_us]) e16 (by rw [r1]; exact Gx_up (Gx_up (Gx_sub x2 (by decide)) (by decide)) (by decide)) (fr_tr F2 r3 (by decide)))
      · rw [if_pos (show ¬ (N.1 114 11) = 0 from mt (TkM_0 hK).mp hz)]
        refine Wn.run (tab := tb_m_sentence) rfl 3 (c' := (if (N.1 114 44) = 0 then 118 else 108, [(1, .int (nI 1)), (0, .ref 114)], [], N)) (o := [shp 114 = (0, 10)]) rfl rfl ?_
        rw [w1, if_neg (show ¬ nI 1 = 0 by decide)]
        refine Wn.run (tab := tb_m_sentence) rfl 1 (c' := (109, [(1, .int (nI 1)), (0, .ref 114)], [.ref 114], N)) (o := []) rfl trivial ?_
        have e : mcS T L mo ν np (f + 1) (true, S, st) = match bhS T L mo S st with
          | .inl e => .inl e
          | .inr c2 => mcS T L mo ν np f c2 := by
          show ((if true = true ∧ tKd T L mo st.1 = 0 then _ else match (if true = true then bhS T L mo S st else opS T L mo ν np S st) with | .inl e => Sum.inl e | .inr c2 => mcS T L mo ν np f c2) : Flt ⊕ Sst) = _
          rw [if_neg (fun q => hz q.2), if_pos rfl]
        rw [e]
        refine Wn.callV (p := 114) (n := 1) (ix := 453) (ci := (10)) (POp9 N T L mo (bhS T L mo S st)) [] [] rfl rfl rfl rfl (Nat.le_of_ble_eq_true rfl) (Nat.le_of_ble_eq_true rfl) (c_m_behind (d + 1) N T L mo S st hK hs hk w1 hcb hz) ?_
        intro r0 N2 hres
        obtain ⟨a1, a2, hres⟩ := hres
        cases hq : bhS T L mo S st with
        | inl e =>
          rw [hq] at hres
          obtain ⟨rfl, a3, a4⟩ := hres
          show Wn _ 144 _ (112, [(1, .int (nI 1)), (0, .ref 114)], [.int (nI 0)], N2)
          refine Wn.run (tab := tb_m_sentence) rfl 1 (c' := (if ¬ (nI 0) = 0 then 48 else 115, [(1, .int (nI 1)), (0, .ref 114)], [], N2)) (o := []) rfl trivial ?_
          rw [if_neg (show ¬ ¬ nI 0 = 0 by decide)]
          refine Wn.run (tab := tb_m_sentence) rfl 1 (c' := (125, [(1, .int (nI 1)), (0, .ref 114)], [], N2)) (o := []) rfl trivial ?_
          exact z125 N2 e a3 a4 a1 (fr_tr hF a2 (by decide))
        | inr c2 =>
          rw [hq] at hres
          obtain ⟨rfl, a3, a4, a5, a6, a7⟩ := hres
          show Wn _ 144 _ (112, [(1, .int (nI 1)), (0, .ref 114)], [.int (nI 1)], N2)
          refine Wn.run (tab := tb_m_sentence) rfl 1 (c' := (if ¬ (nI 1) = 0 then 48 else 115, [(1, .int (nI 1)), (0, .ref 114)], [], N2)) (o := []) rfl trivial ?_
          rw [if_pos (show ¬ nI 1 = 0 by decide)]
          exact nxt N2 c2 (bhS_cb hcb hq) (stp_p (ν := ν) (np := np) (c := (true, S, st)) (c2 := c2) hpL (by rw [if_pos rfl]; exact hq)).1 a1 a2 a3 a4 a5 a6 a7
set_option maxRecDepth 20000 in
theorem c_m_sentence (d : Nat) (M : Mm) (g : Nat → Int32) (T : Nat → Nat) (L : Nat) (hg : M.1 114 = g) (hL2 : g 2 = nI L) (hT : TM (M.1 115) T L) (hL9 : L ≤ 940) (hv : Rsv M) (np : Nat) (hnp : np ≤ 6) (h116 : M.1 116 2 = nI np) (ν : Nat → Int64) (hN : ∀ q, q < np → M.2.1 119 q = ν q) : Wn (d + 6) 144 (PSe M g (senS T L 200 ν np)) (0, lv_args 0 [.ref 114], [], M) := by
  rw [← mS9_sen]
  refine Wn.run (tab := tb_m_sentence) rfl 3 (c' := (5, [(0, .ref 114)], [], (mI M 114 (upd (M.1 114) 0 (nI 0))))) (o := [shp 114 = (0, 10)]) rfl rfl ?_
  generalize hM1 : (mI M 114 (upd (M.1 114) 0 (nI 0))) = M1
  have g1 : M1.1 114 = upd g 0 (nI 0) := by rw [← hg]; exact mI_eq hM1
  refine Wn.run (tab := tb_m_sentence) rfl 2 (c' := (9, [(0, .ref 114)], [.int (nI 200), .ref 114], M1)) (o := []) rfl trivial ?_
  refine Wn.callV (p := 114) (n := 2) (ix := 241) (ci := (10)) (PTa M1 (M1.1 114) L (nI 200)) [.int (nI 200)] [] rfl rfl rfl rfl (Nat.le_of_ble_eq_true rfl) (Nat.le_of_ble_eq_true rfl) (c_m_taken _ M1 _ rfl L (by rw [g1, pk_un (by decide)]; exact hL2) (nI 200)) ?_
  rintro r0 M2 ⟨rfl, t1, t2, t3⟩
  show Wn _ 144 _ (12, [(0, .ref 114)], [], M2)
  refine Wn.run (tab := tb_m_sentence) rfl 3 (c' := (17, [(0, .ref 114)], [], (mI M2 114 (upd (M2.1 114) 15 (nI 0))))) (o := [shp 114 = (0, 10)]) rfl rfl ?_
  generalize hM3 : (mI M2 114 (upd (M2.1 114) 15 (nI 0))) = M3
  refine Wn.run (tab := tb_m_sentence) rfl 3 (c' := (22, [(0, .ref 114)], [], (mI M3 114 (upd (M3.1 114) 40 (nI 0))))) (o := [shp 114 = (0, 10)]) rfl rfl ?_
  generalize hM4 : (mI M3 114 (upd (M3.1 114) 40 (nI 0))) = M4
  refine Wn.run (tab := tb_m_sentence) rfl 3 (c' := (27, [(0, .ref 114)], [], (mI M4 114 (upd (M4.1 114) 41 (nI 0))))) (o := [shp 114 = (0, 10)]) rfl rfl ?_
  generalize hM5 : (mI M4 114 (upd (M4.1 114) 41 (nI 0))) = M5
  refine Wn.run (tab := tb_m_sentence) rfl 3 (c' := (32, [(0, .ref 114)], [], (mI M5 114 (upd (M5.1 114) 42 (nI 0))))) (o := [shp 114 = (0, 10)]) rfl rfl ?_
  generalize hM6 : (mI M5 114 (upd (M5.1 114) 42 (nI 0))) = M6
  refine Wn.run (tab := tb_m_sentence) rfl 3 (c' := (37, [(0, .ref 114)], [], (mI M6 114 (upd (M6.1 114) 43 (nI 1))))) (o := [shp 114 = (0, 10)]) rfl rfl ?_
  generalize hM7 : (mI M6 114 (upd (M6.1 114) 43 (nI 1))) = M7
  refine Wn.run (tab := tb_m_sentence) rfl 3 (c' := (42, [(0, .ref 114)], [], (mI M7 114 (upd (M7.1 114) 44 (nI 0))))) (o := [shp 114 = (0, 10), is01 (nI 0)]) rfl ⟨rfl, (Or.inl rfl)⟩ ?_
  generalize hM8 : (mI M7 114 (upd (M7.1 114) 44 (nI 0))) = M8
  have e8 : M8.1 114 = upd (upd (upd (upd (upd (upd (upd (upd (upd (upd (upd g 0 (nI 0)) 3 (nI L)) 2 (nI 0)) 4 (nI 0)) 5 (nI 200)) 15 (nI 0)) 40 (nI 0)) 41 (nI 0)) 42 (nI 0)) 43 (nI 1)) 44 (nI 0) := by rw [mI_eq hM8, mI_eq hM7, mI_eq hM6, mI_eq hM5, mI_eq hM4, mI_eq hM3, t1, g1]
  have f8 : Fr [114] M M8 := fr_tr (fr_tr (fr_tr (fr_tr (fr_tr (fr_tr (fr_tr (fr_1I hM1) t3 (by decide)) (fr_1I hM3) (by decide)) (fr_1I hM4) (by decide)) (fr_1I hM5) (by decide)) (fr_1I hM6) (by decide)) (fr_1I hM7) (by decide)) (fr_1I hM8) (by decide)
  refine Wn.run (tab := tb_m_sentence) rfl 1 (c' := (43, [(0, .ref 114)], [.ref 114], M8)) (o := []) rfl trivial ?_
  refine Wn.callV (p := 114) (n := 1) (ix := 191) (ci := (10)) (PNx M8 (M8.1 114) T L 200 0) [] [] rfl rfl rfl rfl (Nat.le_of_ble_eq_true rfl) (Nat.le_of_ble_eq_true rfl) (c_m_next (d + 4) M8 _ _ T L 200 0 rfl (by rw [e8]; exact rfl) (by rw [e8]; exact rfl) (by rw [e8]; exact rfl) ((f8 115 (by decide)).1) hT hL9 (by decide) (by omega)) ?_
  rintro r0 M9 ⟨rfl, n1, n2, n3, n4⟩
  show Wn _ 144 _ (46, [(0, .ref 114)], [], M9)
  refine Wn.run (tab := tb_m_sentence) rfl 2 (c' := (48, [(1, .int (nI 1)), (0, .ref 114)], [], M9)) (o := []) rfl trivial ?_
  refine c_m_sentence_48 d M g T L 200 hv np hnp h116 ν hN (L + 1) (false, [], sn0) M9 (by show L < 0 + (L + 1); omega) ⟨n1, ⟨?_, ?_, fun i hi => absurd hi (by show ¬ i < 0; omega)⟩, ⟨?_, ?_, trivial, trivial⟩, ?_, ⟨by decide, by decide, by decide⟩, ?_, ?_, ?_, ?_, fr_up (fr_tr f8 n4 (by decide)) (by decide)⟩
  · rw [n2 40 (by decide), e8]; exact rfl
  · rw [n2 41 (by decide), e8]; exact rfl
  · rw [n2 42 (by decide), e8]; exact rfl
  · rw [n2 43 (by decide), e8]; exact rfl
  · rw [n2 44 (by decide), e8]; exact rfl
  · rw [n2 15 (by decide), e8]; exact rfl
  · rw [n2 0 (by decide), e8]; exact rfl
  · rw [n2 2 (by decide), e8]; exact rfl
  · refine Gx_tr2 (K1 := KN) ?_ n2 (by decide)
    rw [e8]
    exact Gx_up (Gx_up (Gx_up (Gx_up (Gx_up (Gx_up (Gx_up (Gx_up (Gx_up (Gx_up (Gx_up (Gx_rf _ _) (by decide)) (by decide)) (by decide)) (by decide)) (by decide)) (by decide)) (by decide)) (by decide)) (by decide)) (by decide)) (by decide)
