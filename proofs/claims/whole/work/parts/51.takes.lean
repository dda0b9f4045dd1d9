/-- the names of the lake at p -/
def NmC (M : Mm) (p : Nat) (ν : Nat → Int64) (n : Nat) : Prop := ∀ q, q < n → M.2.1 (p + 1) q = ν q
def pcl (ν : Nat → Int64) (w : Int64) (n : Nat) : Option Nat := til (fun q => decide (ν q = w)) n 0
theorem til_lt {P : Nat → Bool} : ∀ n k b, til P n k = some b → k ≤ b ∧ b < k + n
  | 0, _, _, h => by cases h
  | n + 1, k, b, h => by
    unfold til at h
    split at h
    · cases h; omega
    · have := til_lt n (k + 1) b h
      omega
theorem nm_rd {f : Nat → Int64} {ν : Nat → Int64} {n k : Nat} {t : Int32} (h : ∀ q, q < n → f q = ν q) (e : t = nI k) (hk : k < n) (h31 : k < 2 ^ 31) : f t.toNatClampNeg = ν k := by rw [e, nI_clamp h31]; exact h k hk
theorem NmC_fr {L : List Nat} {M M' : Mm} {p n : Nat} {ν : Nat → Int64} (hF : Fr L M M') (hp : ¬ (p + 1) ∈ L) (h : NmC M p ν n) : NmC M' p ν n := fun q hq => by rw [(hF _ hp).2.1]; exact h q hq
set_option maxRecDepth 20000 in
theorem w_lk_personCalled (d : Nat) (M : Mm) (p : Nat) (σ : Nat → Nat) (hL : LkC M p σ) (c9_2 : σ 2 ≤ 6) (ν : Nat → Int64) (hN : NmC M p ν (σ 2)) (w : Int64) (Q : Po) (hQ : Q (some (.int (oI (pcl ν w (σ 2))))) M) : Wn (d + 0) 168 Q (0, lv_args 0 [.ref p, .long w], [], M) := by
  refine Wn.run (tab := tb_lk_personCalled) rfl 2 (c' := (2, [(3, .int (nI 0)), (0, .ref p), (1, .long w)], [], M)) (o := []) rfl trivial ?_
  have loop : ∀ (m : Nat) (z : Nat), σ 2 - z = m → (z ≤ σ 2) → (til (fun q => decide (ν q = w)) (σ 2 - z) z = til (fun q => decide (ν q = w)) (σ 2) 0) → Wn (d + 0) 168 Q (2, [(3, .int (nI z)), (0, .ref p), (1, .long w)], [], M) := by
    intro m
    induction m using Nat.strongRecOn with
    | _ m ih =>
      intro z hm loop_0 loop_1
      refine Wn.run (tab := tb_lk_personCalled) rfl 4 (c' := (if (M.1 p 2) ≤ (nI z) then 29 else 10, [(3, .int (nI z)), (0, .ref p), (1, .long w)], [], M)) (o := [shp p = (0, 2)]) rfl hL.1 ?_
      refine Wn.br (fun h1 => ?_) (fun h1 => ?_)
      · show Wn _ 168 _ (29, [(3, .int (nI z)), (0, .ref p), (1, .long w)], [], M)
        have h1 := (n_le (hL.2.2.2.1 2 (by decide)) rfl (by omega) (by omega)).mp h1
        refine Wn.run (tab := tb_lk_personCalled) rfl 1 (c' := (30, [(3, .int (nI z)), (0, .ref p), (1, .long w)], [.int (-1 : Int32)], M)) (o := []) rfl trivial ?_
        have e9 : pcl ν w (σ 2) = none := by unfold pcl; rw [← loop_1, show σ 2 - z = 0 by omega]; rfl
        exact Wn.iret rfl (by rw [e9] at hQ; exact hQ)
      · show Wn _ 168 _ (10, [(3, .int (nI z)), (0, .ref p), (1, .long w)], [], M)
        have h1 := mt (n_le (hL.2.2.2.1 2 (by decide)) rfl (by omega) (by omega)).mpr h1
        refine Wn.run (tab := tb_lk_personCalled) rfl 7 (c' := (if ¬ (lg_cmp (M.2.1 (p + 1) ((nI z)).toNatClampNeg) w) = 0 then 23 else 21, [(3, .int (nI z)), (0, .ref p), (1, .long w)], [], M)) (o := [shp p = (0, 2), aok shp (p + 1) 3 (nI z)]) rfl ⟨hL.1, (ak2 hL.2.1 rfl (by omega))⟩ ?_
        refine Wn.br (fun h2 => ?_) (fun h2 => ?_)
        · show Wn _ 168 _ (23, [(3, .int (nI z)), (0, .ref p), (1, .long w)], [], M)
          rw [show (M.2.1 (p + 1) ((nI z)).toNatClampNeg) = (ν z) from (nm_rd hN rfl (by omega) (by omega))] at h2
          have h2 : ¬ ν z = w := fun q9 => h2 ((lg_cmp_eq _ _).mpr q9)
          refine Wn.run (tab := tb_lk_personCalled) rfl 2 (c' := (2, [(3, .int ((nI z) + (nI 1))), (0, .ref p), (1, .long w)], [], M)) (o := []) rfl trivial ?_
          rw [show ((nI z) + (nI 1)) = (nI (z + 1)) from (n_add rfl rfl)]
          exact ih _ (by omega) (z + 1) rfl (by omega) (by rw [← loop_1, show σ 2 - z = (σ 2 - (z + 1)) + 1 by omega]; show _ = (if _ then _ else _); rw [if_neg (by simpa using h2)])
        · show Wn _ 168 _ (21, [(3, .int (nI z)), (0, .ref p), (1, .long w)], [], M)
          rw [show (M.2.1 (p + 1) ((nI z)).toNatClampNeg) = (ν z) from (nm_rd hN rfl (by omega) (by omega))] at h2
          have h2 : ν z = w := (lg_cmp_eq _ _).mp (Classical.not_not.mp h2)
          refine Wn.run (tab := tb_lk_personCalled) rfl 1 (c' := (22, [(3, .int (nI z)), (0, .ref p), (1, .long w)], [.int (nI z)], M)) (o := []) rfl trivial ?_
          have e9 : pcl ν w (σ 2) = some z := by unfold pcl; rw [← loop_1, show σ 2 - z = (σ 2 - (z + 1)) + 1 by omega]; unfold til; rw [if_pos (by simpa using h2)]
          exact Wn.iret rfl (by rw [e9] at hQ; exact hQ)
  exact loop _ 0 rfl (by omega) rfl
/-- the class's reader at the token at p, no fault yet -/
def RdL (M : Mm) (T : Nat → Nat) (L mo p ta : Nat) : Prop := RdC M T L mo p ta 0 0 ∧ TB (M.1 1) T L ∧ L ≤ 940 ∧ mo ≤ 940 ∧ p ≤ L
def PLv (M0 : Mm) (T : Nat → Nat) (L mo p ta : Nat) (r : Option Value) : Po := fun r0 M' => r0 = r ∧ RdL M' T L mo p ta ∧ Fr [77] M0 M'
theorem RdL_T {M : Mm} {T : Nat → Nat} {L mo p ta : Nat} (h : RdL M T L mo p ta) : ∀ k, k < L → T k < 256 := fun k hk => (h.2.1 k hk).2
theorem c_rd_adv (d : Nat) (M : Mm) (T : Nat → Nat) (L mo p ta : Nat) (hR : RdL M T L mo p ta) (h0 : ¬ tKd T L mo p = 0) (h36 : ¬ tKd T L mo p = 36) : Wn (d + 1) 176 (PLv M T L mo (tNx T L p) (tAt T L mo p) none) (0, lv_args 0 [.ref 77], [], M) := by
  obtain ⟨⟨q1, q2, q3, q4, q5, q6, q7, q8, q9⟩, hT, hL9, hm9, hp⟩ := hR
  have hx := tNx_le hp h0 h36
  refine Wn.mono (c_rd_advance d M (M.1 77) (M.1 1) T L mo (tNx T L p) (tAt T L mo p) 0 0 rfl q1 q2 (q8 h0 h36) q3 q5 q6 rfl hT hL9 hm9 hx.1) ?_
  rintro r0 M' ⟨rfl, h1, h2⟩
  exact ⟨rfl, ⟨h1, by rw [(h2 1 (by decide)).1]; exact hT, hL9, hm9, hx.1⟩, h2⟩
theorem RdD_fr {K : List Nat} {M M' : Mm} {fk fp : Nat} (hF : Fr K M M') (hp : ¬ 77 ∈ K) (h : RdD M fk fp) : RdD M' fk fp := by
  obtain ⟨e1, e2, e3⟩ := hF 77 hp
  unfold RdD
  rw [e1, e3]
  exact h
theorem RdL_fr {K : List Nat} {M M' : Mm} {T : Nat → Nat} {L mo p ta : Nat} (hF : Fr K M M') (hp : ¬ 77 ∈ K ∧ ¬ 1 ∈ K) (h : RdL M T L mo p ta) : RdL M' T L mo p ta := by
  obtain ⟨e1, e2, e3⟩ := hF 77 hp.1
  obtain ⟨f1, f2, f3⟩ := hF 1 hp.2
  unfold RdL RdC
  rw [e1, e2, e3, f1]
  exact h
set_option maxRecDepth 20000 in
theorem c_rd_take_ok (d : Nat) (M : Mm) (T : Nat → Nat) (L mo p ta : Nat) (hR : RdL M T L mo p ta) (c : Nat) (hc : 0 < c ∧ c < 36) (hk : tKd T L mo p = c) : Wn (d + 2) 178 (PLv M T L mo (tNx T L p) (tAt T L mo p) none) (0, lv_args 0 [.ref 77, .ref (100000 + c)], [], M) := by
  have hF := fr_rf [77] M
  refine Wn.run (tab := tb_rd_take) rfl 1 (c' := (1, [(0, .ref 77), (1, .ref (100000 + c))], [.ref 77], M)) (o := []) rfl trivial ?_
  refine Wn.callV (p := 77) (n := 1) (ix := 88) (ci := (3)) (fun r0 M0 => r0 = some (.int (nI 0)) ∧ M = M0) [] [] rfl rfl rfl rfl (Nat.le_of_ble_eq_true rfl) (Nat.le_of_ble_eq_true rfl) (w_rd_failedL _ M hR.1.2.2.2.2.1 _ ⟨rfl, rfl⟩) ?_
  rintro _ _ ⟨rfl, rfl⟩
  show Wn _ 178 _ (4, [(0, .ref 77), (1, .ref (100000 + c))], [.int (nI 0)], M)
  refine Wn.run (tab := tb_rd_take) rfl 1 (c' := (if (nI 0) = 0 then 8 else 7, [(0, .ref 77), (1, .ref (100000 + c))], [], M)) (o := []) rfl trivial ?_
  rw [if_pos (show (nI 0) = 0 by decide)]
  show Wn _ 178 _ (8, [(0, .ref 77), (1, .ref (100000 + c))], [], M)
  refine Wn.run (tab := tb_rd_take) rfl 4 (c' := (if ((M.2.2 77 10) = (100000 + c)) = (false = true) then 23 else 16, [(0, .ref 77), (1, .ref (100000 + c))], [], M)) (o := [shp 77 = (0, 3), isK (M.2.2 77 10), isK (100000 + c)]) rfl ⟨rfl, (by rw [hR.1.2.2.2.2.2.2.1]; exact isK_kR _ _ _ _), ⟨by omega, by omega⟩⟩ ?_
  rw [if_neg (fun q9 => ac_f.mp q9 (by rw [hR.1.2.2.2.2.2.2.1]; exact (kR_iff (c := c) (by omega) (by omega)).mpr (by omega)))]
  show Wn _ 178 _ (16, [(0, .ref 77), (1, .ref (100000 + c))], [], M)
  refine Wn.run (tab := tb_rd_take) rfl 1 (c' := (17, [(0, .ref 77), (1, .ref (100000 + c))], [.ref 77], M)) (o := []) rfl trivial ?_
  refine Wn.callV (p := 77) (n := 1) (ix := 49) (ci := (3)) (PLv M T L mo (tNx T L p) (tAt T L mo p) none) [] [] rfl rfl rfl rfl (Nat.le_of_ble_eq_true rfl) (Nat.le_of_ble_eq_true rfl) (c_rd_adv _ M T L mo p ta hR (by omega) (by omega)) ?_
  rintro _ M1 ⟨rfl, hq2, hF3⟩
  show Wn _ 178 _ (20, [(0, .ref 77), (1, .ref (100000 + c))], [], M1)
  have hF4 := fr_tr hF hF3 (by decide)
  refine Wn.run (tab := tb_rd_take) rfl 1 (c' := (28, [(0, .ref 77), (1, .ref (100000 + c))], [], M1)) (o := []) rfl trivial ?_
  exact Wn.vret rfl ⟨rfl, hq2, hF4⟩
set_option maxRecDepth 20000 in
theorem c_rd_take_no (d : Nat) (M : Mm) (T : Nat → Nat) (L mo p ta : Nat) (hR : RdL M T L mo p ta) (c : Nat) (hc : 0 < c ∧ c < 36) (hk : ¬ tKd T L mo p = c) : Wn (d + 2) 178 (PFl M 1 (tAt T L mo p) none) (0, lv_args 0 [.ref 77, .ref (100000 + c)], [], M) := by
  have hF := fr_rf [77] M
  refine Wn.run (tab := tb_rd_take) rfl 1 (c' := (1, [(0, .ref 77), (1, .ref (100000 + c))], [.ref 77], M)) (o := []) rfl trivial ?_
  refine Wn.callV (p := 77) (n := 1) (ix := 88) (ci := (3)) (fun r0 M0 => r0 = some (.int (nI 0)) ∧ M = M0) [] [] rfl rfl rfl rfl (Nat.le_of_ble_eq_true rfl) (Nat.le_of_ble_eq_true rfl) (w_rd_failedL _ M hR.1.2.2.2.2.1 _ ⟨rfl, rfl⟩) ?_
  rintro _ _ ⟨rfl, rfl⟩
  show Wn _ 178 _ (4, [(0, .ref 77), (1, .ref (100000 + c))], [.int (nI 0)], M)
  refine Wn.run (tab := tb_rd_take) rfl 1 (c' := (if (nI 0) = 0 then 8 else 7, [(0, .ref 77), (1, .ref (100000 + c))], [], M)) (o := []) rfl trivial ?_
  rw [if_pos (show (nI 0) = 0 by decide)]
  show Wn _ 178 _ (8, [(0, .ref 77), (1, .ref (100000 + c))], [], M)
  refine Wn.run (tab := tb_rd_take) rfl 4 (c' := (if ((M.2.2 77 10) = (100000 + c)) = (false = true) then 23 else 16, [(0, .ref 77), (1, .ref (100000 + c))], [], M)) (o := [shp 77 = (0, 3), isK (M.2.2 77 10), isK (100000 + c)]) rfl ⟨rfl, (by rw [hR.1.2.2.2.2.2.2.1]; exact isK_kR _ _ _ _), ⟨by omega, by omega⟩⟩ ?_
  rw [if_pos (ac_f.mpr (by rw [hR.1.2.2.2.2.2.2.1]; exact mt (kR_iff (c := c) (by omega) (by omega)).mp (by omega)))]
  show Wn _ 178 _ (23, [(0, .ref 77), (1, .ref (100000 + c))], [], M)
  refine Wn.run (tab := tb_rd_take) rfl 2 (c' := (25, [(0, .ref 77), (1, .ref (100000 + c))], [.int (nI 1), .ref 77], M)) (o := []) rfl trivial ?_
  refine Wn.callV (p := 77) (n := 2) (ix := 92) (ci := (3)) (PFl M 1 (tAt T L mo p) none) [.int (nI 1)] [] rfl rfl rfl rfl (Nat.le_of_ble_eq_true rfl) (Nat.le_of_ble_eq_true rfl) (c_rd_fail _ M T L mo p ta hR.1 1 (by omega)) ?_
  rintro _ M1 ⟨rfl, hd2, hF3⟩
  show Wn _ 178 _ (28, [(0, .ref 77), (1, .ref (100000 + c))], [], M1)
  have hF4 := fr_tr hF hF3 (by decide)
  exact Wn.vret rfl ⟨rfl, hd2, hF4⟩
set_option maxRecDepth 20000 in
theorem c_rd_takeD (d : Nat) (M : Mm) (fk fp : Nat) (hR : RdD M fk fp) (c : Nat) : Wn (d + 1) 178 (fun r0 M9 => r0 = none ∧ M9 = M) (0, lv_args 0 [.ref 77, .ref c], [], M) := by
  refine Wn.run (tab := tb_rd_take) rfl 1 (c' := (1, [(0, .ref 77), (1, .ref c)], [.ref 77], M)) (o := []) rfl trivial ?_
  refine Wn.callV (p := 77) (n := 1) (ix := 88) (ci := (3)) (fun r0 M0 => r0 = some (.int (nI 1)) ∧ M = M0) [] [] rfl rfl rfl rfl (Nat.le_of_ble_eq_true rfl) (Nat.le_of_ble_eq_true rfl) (w_rd_failedD _ M fk hR.1 hR.2.2.1 _ ⟨rfl, rfl⟩) ?_
  rintro _ _ ⟨rfl, rfl⟩
  show Wn _ 178 _ (4, [(0, .ref 77), (1, .ref c)], [.int (nI 1)], M)
  refine Wn.run (tab := tb_rd_take) rfl 1 (c' := (if (nI 1) = 0 then 8 else 7, [(0, .ref 77), (1, .ref c)], [], M)) (o := []) rfl trivial ?_
  rw [if_neg (show ¬ ((nI 1) = 0) by decide)]
  show Wn _ 178 _ (7, [(0, .ref 77), (1, .ref c)], [], M)
  exact Wn.vret rfl ⟨rfl, rfl⟩
set_option maxRecDepth 20000 in
theorem c_rd_takeNumber_ok (d : Nat) (M : Mm) (T : Nat → Nat) (L mo p ta : Nat) (hR : RdL M T L mo p ta) (lo hi : Nat) (hlo : lo < 1000) (hhi : hi < 1000) (hk : tKd T L mo p = 2) (hv : lo ≤ tVl T L p ∧ tVl T L p ≤ hi) : Wn (d + 2) 179 (PLv M T L mo (tNx T L p) (tAt T L mo p) (some (.int (nI (tVl T L p))))) (0, lv_args 0 [.ref 77, .int (nI lo), .int (nI hi)], [], M) := by
  have hF := fr_rf [77] M
  have tv9 : tKd T L mo p = 2 → tVl T L p < 1000 := fun h => tVl_lt (RdL_T hR) h
  refine Wn.run (tab := tb_rd_takeNumber) rfl 4 (c' := (if ((M.2.2 77 10) = 100002) = (true = true) then 18 else 10, [(0, .ref 77), (1, .int (nI lo)), (2, .int (nI hi))], [], M)) (o := [shp 77 = (0, 3), isK (M.2.2 77 10), isK 100002]) rfl ⟨rfl, (by rw [hR.1.2.2.2.2.2.2.1]; exact isK_kR _ _ _ _), ⟨by decide, by decide⟩⟩ ?_
  rw [if_pos (ac_t.mpr (by rw [hR.1.2.2.2.2.2.2.1]; exact (kR_iff (c := 2) (by omega) (by omega)).mpr (by omega)))]
  show Wn _ 179 _ (18, [(0, .ref 77), (1, .int (nI lo)), (2, .int (nI hi))], [], M)
  refine Wn.run (tab := tb_rd_takeNumber) rfl 4 (c' := (if (M.1 77 6) < (nI lo) then 34 else 26, [(0, .ref 77), (1, .int (nI lo)), (2, .int (nI hi))], [], M)) (o := [shp 77 = (0, 3)]) rfl rfl ?_
  refine Wn.br (fun h1 => ?_) (fun h1 => ?_)
  · show Wn _ 179 _ (34, [(0, .ref 77), (1, .int (nI lo)), (2, .int (nI hi))], [], M)
    have h1 := (n_lt (hR.1.2.2.2.2.2.2.2.2.1 hk) rfl (by omega) (by omega)).mp h1
    refine Wn.run (tab := tb_rd_takeNumber) rfl 2 (c' := (36, [(0, .ref 77), (1, .int (nI lo)), (2, .int (nI hi))], [.int (nI 2), .ref 77], M)) (o := []) rfl trivial ?_
    refine Wn.callV (p := 77) (n := 2) (ix := 92) (ci := (3)) (PFl M 2 (tAt T L mo p) none) [.int (nI 2)] [] rfl rfl rfl rfl (Nat.le_of_ble_eq_true rfl) (Nat.le_of_ble_eq_true rfl) (c_rd_fail _ M T L mo p ta hR.1 2 (by omega)) ?_
    rintro _ M1 ⟨rfl, hd2, hF3⟩
    show Wn _ 179 _ (39, [(0, .ref 77), (1, .int (nI lo)), (2, .int (nI hi))], [], M1)
    have hF4 := fr_tr hF hF3 (by decide)
    refine Wn.run (tab := tb_rd_takeNumber) rfl 1 (c' := (40, [(0, .ref 77), (1, .int (nI lo)), (2, .int (nI hi))], [.ref 77], M1)) (o := []) rfl trivial ?_
    refine Wn.callV (p := 77) (n := 1) (ix := 88) (ci := (3)) (fun r0 M0 => r0 = some (.int (nI 1)) ∧ M1 = M0) [] [] rfl rfl rfl rfl (Nat.le_of_ble_eq_true rfl) (Nat.le_of_ble_eq_true rfl) (w_rd_failedD _ M1 2 hd2.1 hd2.2.2.1 _ ⟨rfl, rfl⟩) ?_
    rintro _ _ ⟨rfl, rfl⟩
    show Wn _ 179 _ (43, [(0, .ref 77), (1, .int (nI lo)), (2, .int (nI hi))], [.int (nI 1)], M1)
    refine Wn.run (tab := tb_rd_takeNumber) rfl 1 (c' := (if (nI 1) = 0 then 48 else 46, [(0, .ref 77), (1, .int (nI lo)), (2, .int (nI hi))], [], M1)) (o := []) rfl trivial ?_
    rw [if_neg (show ¬ ((nI 1) = 0) by decide)]
    show Wn _ 179 _ (46, [(0, .ref 77), (1, .int (nI lo)), (2, .int (nI hi))], [], M1)
    refine Wn.run (tab := tb_rd_takeNumber) rfl 1 (c' := (47, [(0, .ref 77), (1, .int (nI lo)), (2, .int (nI hi))], [.int (nI lo)], M1)) (o := []) rfl trivial ?_
    exact absurd h1 (by omega)
  · show Wn _ 179 _ (26, [(0, .ref 77), (1, .int (nI lo)), (2, .int (nI hi))], [], M)
    have h1 := mt (n_lt (hR.1.2.2.2.2.2.2.2.2.1 hk) rfl (by omega) (by omega)).mpr h1
    refine Wn.run (tab := tb_rd_takeNumber) rfl 4 (c' := (if (M.1 77 6) ≤ (nI hi) then 39 else 34, [(0, .ref 77), (1, .int (nI lo)), (2, .int (nI hi))], [], M)) (o := [shp 77 = (0, 3)]) rfl rfl ?_
    refine Wn.br (fun h2 => ?_) (fun h2 => ?_)
    · show Wn _ 179 _ (39, [(0, .ref 77), (1, .int (nI lo)), (2, .int (nI hi))], [], M)
      have h2 := (n_le (hR.1.2.2.2.2.2.2.2.2.1 hk) rfl (by omega) (by omega)).mp h2
      refine Wn.run (tab := tb_rd_takeNumber) rfl 1 (c' := (40, [(0, .ref 77), (1, .int (nI lo)), (2, .int (nI hi))], [.ref 77], M)) (o := []) rfl trivial ?_
      refine Wn.callV (p := 77) (n := 1) (ix := 88) (ci := (3)) (fun r0 M0 => r0 = some (.int (nI 0)) ∧ M = M0) [] [] rfl rfl rfl rfl (Nat.le_of_ble_eq_true rfl) (Nat.le_of_ble_eq_true rfl) (w_rd_failedL _ M hR.1.2.2.2.2.1 _ ⟨rfl, rfl⟩) ?_
      rintro _ _ ⟨rfl, rfl⟩
      show Wn _ 179 _ (43, [(0, .ref 77), (1, .int (nI lo)), (2, .int (nI hi))], [.int (nI 0)], M)
      refine Wn.run (tab := tb_rd_takeNumber) rfl 1 (c' := (if (nI 0) = 0 then 48 else 46, [(0, .ref 77), (1, .int (nI lo)), (2, .int (nI hi))], [], M)) (o := []) rfl trivial ?_
      rw [if_pos (show (nI 0) = 0 by decide)]
      show Wn _ 179 _ (48, [(0, .ref 77), (1, .int (nI lo)), (2, .int (nI hi))], [], M)
      refine Wn.run (tab := tb_rd_takeNumber) rfl 4 (c' := (54, [(3, .int (M.1 77 6)), (0, .ref 77), (1, .int (nI lo)), (2, .int (nI hi))], [.ref 77], M)) (o := [shp 77 = (0, 3)]) rfl rfl ?_
      rw [show (M.1 77 6) = (nI (tVl T L p)) from (hR.1.2.2.2.2.2.2.2.2.1 hk)]
      refine Wn.callV (p := 77) (n := 1) (ix := 49) (ci := (3)) (PLv M T L mo (tNx T L p) (tAt T L mo p) none) [] [] rfl rfl rfl rfl (Nat.le_of_ble_eq_true rfl) (Nat.le_of_ble_eq_true rfl) (c_rd_adv _ M T L mo p ta hR (by omega) (by omega)) ?_
      rintro _ M5 ⟨rfl, hq6, hF7⟩
      show Wn _ 179 _ (57, [(3, .int (nI (tVl T L p))), (0, .ref 77), (1, .int (nI lo)), (2, .int (nI hi))], [], M5)
      have hF8 := fr_tr hF hF7 (by decide)
      refine Wn.run (tab := tb_rd_takeNumber) rfl 1 (c' := (58, [(3, .int (nI (tVl T L p))), (0, .ref 77), (1, .int (nI lo)), (2, .int (nI hi))], [.int (nI (tVl T L p))], M5)) (o := []) rfl trivial ?_
      exact Wn.iret rfl ⟨rfl, hq6, hF8⟩
    · show Wn _ 179 _ (34, [(0, .ref 77), (1, .int (nI lo)), (2, .int (nI hi))], [], M)
      have h2 := mt (n_le (hR.1.2.2.2.2.2.2.2.2.1 hk) rfl (by omega) (by omega)).mpr h2
      refine Wn.run (tab := tb_rd_takeNumber) rfl 2 (c' := (36, [(0, .ref 77), (1, .int (nI lo)), (2, .int (nI hi))], [.int (nI 2), .ref 77], M)) (o := []) rfl trivial ?_
      refine Wn.callV (p := 77) (n := 2) (ix := 92) (ci := (3)) (PFl M 2 (tAt T L mo p) none) [.int (nI 2)] [] rfl rfl rfl rfl (Nat.le_of_ble_eq_true rfl) (Nat.le_of_ble_eq_true rfl) (c_rd_fail _ M T L mo p ta hR.1 2 (by omega)) ?_
      rintro _ M9 ⟨rfl, hd10, hF11⟩
      show Wn _ 179 _ (39, [(0, .ref 77), (1, .int (nI lo)), (2, .int (nI hi))], [], M9)
      have hF12 := fr_tr hF hF11 (by decide)
      refine Wn.run (tab := tb_rd_takeNumber) rfl 1 (c' := (40, [(0, .ref 77), (1, .int (nI lo)), (2, .int (nI hi))], [.ref 77], M9)) (o := []) rfl trivial ?_
      refine Wn.callV (p := 77) (n := 1) (ix := 88) (ci := (3)) (fun r0 M0 => r0 = some (.int (nI 1)) ∧ M9 = M0) [] [] rfl rfl rfl rfl (Nat.le_of_ble_eq_true rfl) (Nat.le_of_ble_eq_true rfl) (w_rd_failedD _ M9 2 hd10.1 hd10.2.2.1 _ ⟨rfl, rfl⟩) ?_
      rintro _ _ ⟨rfl, rfl⟩
      show Wn _ 179 _ (43, [(0, .ref 77), (1, .int (nI lo)), (2, .int (nI hi))], [.int (nI 1)], M9)
      refine Wn.run (tab := tb_rd_takeNumber) rfl 1 (c' := (if (nI 1) = 0 then 48 else 46, [(0, .ref 77), (1, .int (nI lo)), (2, .int (nI hi))], [], M9)) (o := []) rfl trivial ?_
      rw [if_neg (show ¬ ((nI 1) = 0) by decide)]
      show Wn _ 179 _ (46, [(0, .ref 77), (1, .int (nI lo)), (2, .int (nI hi))], [], M9)
      refine Wn.run (tab := tb_rd_takeNumber) rfl 1 (c' := (47, [(0, .ref 77), (1, .int (nI lo)), (2, .int (nI hi))], [.int (nI lo)], M9)) (o := []) rfl trivial ?_
      exact absurd h2 (by omega)
set_option maxRecDepth 20000 in
theorem c_rd_takeNumber_no1 (d : Nat) (M : Mm) (T : Nat → Nat) (L mo p ta : Nat) (hR : RdL M T L mo p ta) (lo hi : Nat) (hlo : lo < 1000) (hhi : hi < 1000) (hk : ¬ tKd T L mo p = 2) : Wn (d + 2) 179 (PFl M 1 (tAt T L mo p) (some (.int (nI lo)))) (0, lv_args 0 [.ref 77, .int (nI lo), .int (nI hi)], [], M) := by
  have hF := fr_rf [77] M
  have tv9 : tKd T L mo p = 2 → tVl T L p < 1000 := fun h => tVl_lt (RdL_T hR) h
  refine Wn.run (tab := tb_rd_takeNumber) rfl 4 (c' := (if ((M.2.2 77 10) = 100002) = (true = true) then 18 else 10, [(0, .ref 77), (1, .int (nI lo)), (2, .int (nI hi))], [], M)) (o := [shp 77 = (0, 3), isK (M.2.2 77 10), isK 100002]) rfl ⟨rfl, (by rw [hR.1.2.2.2.2.2.2.1]; exact isK_kR _ _ _ _), ⟨by decide, by decide⟩⟩ ?_
  rw [if_neg (fun q9 => absurd (ac_t.mp q9) (by rw [hR.1.2.2.2.2.2.2.1]; exact mt (kR_iff (c := 2) (by omega) (by omega)).mp (by omega)))]
  show Wn _ 179 _ (10, [(0, .ref 77), (1, .int (nI lo)), (2, .int (nI hi))], [], M)
  refine Wn.run (tab := tb_rd_takeNumber) rfl 2 (c' := (12, [(0, .ref 77), (1, .int (nI lo)), (2, .int (nI hi))], [.int (nI 1), .ref 77], M)) (o := []) rfl trivial ?_
  refine Wn.callV (p := 77) (n := 2) (ix := 92) (ci := (3)) (PFl M 1 (tAt T L mo p) none) [.int (nI 1)] [] rfl rfl rfl rfl (Nat.le_of_ble_eq_true rfl) (Nat.le_of_ble_eq_true rfl) (c_rd_fail _ M T L mo p ta hR.1 1 (by omega)) ?_
  rintro _ M1 ⟨rfl, hd2, hF3⟩
  show Wn _ 179 _ (15, [(0, .ref 77), (1, .int (nI lo)), (2, .int (nI hi))], [], M1)
  have hF4 := fr_tr hF hF3 (by decide)
  refine Wn.run (tab := tb_rd_takeNumber) rfl 2 (c' := (40, [(0, .ref 77), (1, .int (nI lo)), (2, .int (nI hi))], [.ref 77], M1)) (o := []) rfl trivial ?_
  refine Wn.callV (p := 77) (n := 1) (ix := 88) (ci := (3)) (fun r0 M0 => r0 = some (.int (nI 1)) ∧ M1 = M0) [] [] rfl rfl rfl rfl (Nat.le_of_ble_eq_true rfl) (Nat.le_of_ble_eq_true rfl) (w_rd_failedD _ M1 1 hd2.1 hd2.2.2.1 _ ⟨rfl, rfl⟩) ?_
  rintro _ _ ⟨rfl, rfl⟩
  show Wn _ 179 _ (43, [(0, .ref 77), (1, .int (nI lo)), (2, .int (nI hi))], [.int (nI 1)], M1)
  refine Wn.run (tab := tb_rd_takeNumber) rfl 1 (c' := (if (nI 1) = 0 then 48 else 46, [(0, .ref 77), (1, .int (nI lo)), (2, .int (nI hi))], [], M1)) (o := []) rfl trivial ?_
  rw [if_neg (show ¬ ((nI 1) = 0) by decide)]
  show Wn _ 179 _ (46, [(0, .ref 77), (1, .int (nI lo)), (2, .int (nI hi))], [], M1)
  refine Wn.run (tab := tb_rd_takeNumber) rfl 1 (c' := (47, [(0, .ref 77), (1, .int (nI lo)), (2, .int (nI hi))], [.int (nI lo)], M1)) (o := []) rfl trivial ?_
  exact Wn.iret rfl ⟨rfl, hd2, hF4⟩
set_option maxRecDepth 20000 in
theorem c_rd_takeNumber_no2 (d : Nat) (M : Mm) (T : Nat → Nat) (L mo p ta : Nat) (hR : RdL M T L mo p ta) (lo hi : Nat) (hlo : lo < 1000) (hhi : hi < 1000) (hk : tKd T L mo p = 2) (hv : ¬ (lo ≤ tVl T L p ∧ tVl T L p ≤ hi)) : Wn (d + 2) 179 (PFl M 2 (tAt T L mo p) (some (.int (nI lo)))) (0, lv_args 0 [.ref 77, .int (nI lo), .int (nI hi)], [], M) := by
  have hF := fr_rf [77] M
  have tv9 : tKd T L mo p = 2 → tVl T L p < 1000 := fun h => tVl_lt (RdL_T hR) h
  refine Wn.run (tab := tb_rd_takeNumber) rfl 4 (c' := (if ((M.2.2 77 10) = 100002) = (true = true) then 18 else 10, [(0, .ref 77), (1, .int (nI lo)), (2, .int (nI hi))], [], M)) (o := [shp 77 = (0, 3), isK (M.2.2 77 10), isK 100002]) rfl ⟨rfl, (by rw [hR.1.2.2.2.2.2.2.1]; exact isK_kR _ _ _ _), ⟨by decide, by decide⟩⟩ ?_
  rw [if_pos (ac_t.mpr (by rw [hR.1.2.2.2.2.2.2.1]; exact (kR_iff (c := 2) (by omega) (by omega)).mpr (by omega)))]
  show Wn _ 179 _ (18, [(0, .ref 77), (1, .int (nI lo)), (2, .int (nI hi))], [], M)
  refine Wn.run (tab := tb_rd_takeNumber) rfl 4 (c' := (if (M.1 77 6) < (nI lo) then 34 else 26, [(0, .ref 77), (1, .int (nI lo)), (2, .int (nI hi))], [], M)) (o := [shp 77 = (0, 3)]) rfl rfl ?_
  refine Wn.br (fun h1 => ?_) (fun h1 => ?_)
  · show Wn _ 179 _ (34, [(0, .ref 77), (1, .int (nI lo)), (2, .int (nI hi))], [], M)
    have h1 := (n_lt (hR.1.2.2.2.2.2.2.2.2.1 hk) rfl (by omega) (by omega)).mp h1
    refine Wn.run (tab := tb_rd_takeNumber) rfl 2 (c' := (36, [(0, .ref 77), (1, .int (nI lo)), (2, .int (nI hi))], [.int (nI 2), .ref 77], M)) (o := []) rfl trivial ?_
    refine Wn.callV (p := 77) (n := 2) (ix := 92) (ci := (3)) (PFl M 2 (tAt T L mo p) none) [.int (nI 2)] [] rfl rfl rfl rfl (Nat.le_of_ble_eq_true rfl) (Nat.le_of_ble_eq_true rfl) (c_rd_fail _ M T L mo p ta hR.1 2 (by omega)) ?_
    rintro _ M1 ⟨rfl, hd2, hF3⟩
    show Wn _ 179 _ (39, [(0, .ref 77), (1, .int (nI lo)), (2, .int (nI hi))], [], M1)
    have hF4 := fr_tr hF hF3 (by decide)
    refine Wn.run (tab := tb_rd_takeNumber) rfl 1 (c' := (40, [(0, .ref 77), (1, .int (nI lo)), (2, .int (nI hi))], [.ref 77], M1)) (o := []) rfl trivial ?_
    refine Wn.callV (p := 77) (n := 1) (ix := 88) (ci := (3)) (fun r0 M0 => r0 = some (.int (nI 1)) ∧ M1 = M0) [] [] rfl rfl rfl rfl (Nat.le_of_ble_eq_true rfl) (Nat.le_of_ble_eq_true rfl) (w_rd_failedD _ M1 2 hd2.1 hd2.2.2.1 _ ⟨rfl, rfl⟩) ?_
    rintro _ _ ⟨rfl, rfl⟩
    show Wn _ 179 _ (43, [(0, .ref 77), (1, .int (nI lo)), (2, .int (nI hi))], [.int (nI 1)], M1)
    refine Wn.run (tab := tb_rd_takeNumber) rfl 1 (c' := (if (nI 1) = 0 then 48 else 46, [(0, .ref 77), (1, .int (nI lo)), (2, .int (nI hi))], [], M1)) (o := []) rfl trivial ?_
    rw [if_neg (show ¬ ((nI 1) = 0) by decide)]
    show Wn _ 179 _ (46, [(0, .ref 77), (1, .int (nI lo)), (2, .int (nI hi))], [], M1)
    refine Wn.run (tab := tb_rd_takeNumber) rfl 1 (c' := (47, [(0, .ref 77), (1, .int (nI lo)), (2, .int (nI hi))], [.int (nI lo)], M1)) (o := []) rfl trivial ?_
    exact Wn.iret rfl ⟨rfl, hd2, hF4⟩
  · show Wn _ 179 _ (26, [(0, .ref 77), (1, .int (nI lo)), (2, .int (nI hi))], [], M)
    have h1 := mt (n_lt (hR.1.2.2.2.2.2.2.2.2.1 hk) rfl (by omega) (by omega)).mpr h1
    refine Wn.run (tab := tb_rd_takeNumber) rfl 4 (c' := (if (M.1 77 6) ≤ (nI hi) then 39 else 34, [(0, .ref 77), (1, .int (nI lo)), (2, .int (nI hi))], [], M)) (o := [shp 77 = (0, 3)]) rfl rfl ?_
    refine Wn.br (fun h2 => ?_) (fun h2 => ?_)
    · show Wn _ 179 _ (39, [(0, .ref 77), (1, .int (nI lo)), (2, .int (nI hi))], [], M)
      have h2 := (n_le (hR.1.2.2.2.2.2.2.2.2.1 hk) rfl (by omega) (by omega)).mp h2
      refine Wn.run (tab := tb_rd_takeNumber) rfl 1 (c' := (40, [(0, .ref 77), (1, .int (nI lo)), (2, .int (nI hi))], [.ref 77], M)) (o := []) rfl trivial ?_
      refine Wn.callV (p := 77) (n := 1) (ix := 88) (ci := (3)) (fun r0 M0 => r0 = some (.int (nI 0)) ∧ M = M0) [] [] rfl rfl rfl rfl (Nat.le_of_ble_eq_true rfl) (Nat.le_of_ble_eq_true rfl) (w_rd_failedL _ M hR.1.2.2.2.2.1 _ ⟨rfl, rfl⟩) ?_
      rintro _ _ ⟨rfl, rfl⟩
      show Wn _ 179 _ (43, [(0, .ref 77), (1, .int (nI lo)), (2, .int (nI hi))], [.int (nI 0)], M)
      refine Wn.run (tab := tb_rd_takeNumber) rfl 1 (c' := (if (nI 0) = 0 then 48 else 46, [(0, .ref 77), (1, .int (nI lo)), (2, .int (nI hi))], [], M)) (o := []) rfl trivial ?_
      rw [if_pos (show (nI 0) = 0 by decide)]
      show Wn _ 179 _ (48, [(0, .ref 77), (1, .int (nI lo)), (2, .int (nI hi))], [], M)
      refine Wn.run (tab := tb_rd_takeNumber) rfl 4 (c' := (54, [(3, .int (M.1 77 6)), (0, .ref 77), (1, .int (nI lo)), (2, .int (nI hi))], [.ref 77], M)) (o := [shp 77 = (0, 3)]) rfl rfl ?_
      rw [show (M.1 77 6) = (nI (tVl T L p)) from (hR.1.2.2.2.2.2.2.2.2.1 hk)]
      refine Wn.callV (p := 77) (n := 1) (ix := 49) (ci := (3)) (PLv M T L mo (tNx T L p) (tAt T L mo p) none) [] [] rfl rfl rfl rfl (Nat.le_of_ble_eq_true rfl) (Nat.le_of_ble_eq_true rfl) (c_rd_adv _ M T L mo p ta hR (by omega) (by omega)) ?_
      rintro _ M5 ⟨rfl, hq6, hF7⟩
      show Wn _ 179 _ (57, [(3, .int (nI (tVl T L p))), (0, .ref 77), (1, .int (nI lo)), (2, .int (nI hi))], [], M5)
      have hF8 := fr_tr hF hF7 (by decide)
      refine Wn.run (tab := tb_rd_takeNumber) rfl 1 (c' := (58, [(3, .int (nI (tVl T L p))), (0, .ref 77), (1, .int (nI lo)), (2, .int (nI hi))], [.int (nI (tVl T L p))], M5)) (o := []) rfl trivial ?_
      exact absurd h2 (by omega)
    · show Wn _ 179 _ (34, [(0, .ref 77), (1, .int (nI lo)), (2, .int (nI hi))], [], M)
      have h2 := mt (n_le (hR.1.2.2.2.2.2.2.2.2.1 hk) rfl (by omega) (by omega)).mpr h2
      refine Wn.run (tab := tb_rd_takeNumber) rfl 2 (c' := (36, [(0, .ref 77), (1, .int (nI lo)), (2, .int (nI hi))], [.int (nI 2), .ref 77], M)) (o := []) rfl trivial ?_
      refine Wn.callV (p := 77) (n := 2) (ix := 92) (ci := (3)) (PFl M 2 (tAt T L mo p) none) [.int (nI 2)] [] rfl rfl rfl rfl (Nat.le_of_ble_eq_true rfl) (Nat.le_of_ble_eq_true rfl) (c_rd_fail _ M T L mo p ta hR.1 2 (by omega)) ?_
      rintro _ M9 ⟨rfl, hd10, hF11⟩
      show Wn _ 179 _ (39, [(0, .ref 77), (1, .int (nI lo)), (2, .int (nI hi))], [], M9)
      have hF12 := fr_tr hF hF11 (by decide)
      refine Wn.run (tab := tb_rd_takeNumber) rfl 1 (c' := (40, [(0, .ref 77), (1, .int (nI lo)), (2, .int (nI hi))], [.ref 77], M9)) (o := []) rfl trivial ?_
      refine Wn.callV (p := 77) (n := 1) (ix := 88) (ci := (3)) (fun r0 M0 => r0 = some (.int (nI 1)) ∧ M9 = M0) [] [] rfl rfl rfl rfl (Nat.le_of_ble_eq_true rfl) (Nat.le_of_ble_eq_true rfl) (w_rd_failedD _ M9 2 hd10.1 hd10.2.2.1 _ ⟨rfl, rfl⟩) ?_
      rintro _ _ ⟨rfl, rfl⟩
      show Wn _ 179 _ (43, [(0, .ref 77), (1, .int (nI lo)), (2, .int (nI hi))], [.int (nI 1)], M9)
      refine Wn.run (tab := tb_rd_takeNumber) rfl 1 (c' := (if (nI 1) = 0 then 48 else 46, [(0, .ref 77), (1, .int (nI lo)), (2, .int (nI hi))], [], M9)) (o := []) rfl trivial ?_
      rw [if_neg (show ¬ ((nI 1) = 0) by decide)]
      show Wn _ 179 _ (46, [(0, .ref 77), (1, .int (nI lo)), (2, .int (nI hi))], [], M9)
      refine Wn.run (tab := tb_rd_takeNumber) rfl 1 (c' := (47, [(0, .ref 77), (1, .int (nI lo)), (2, .int (nI hi))], [.int (nI lo)], M9)) (o := []) rfl trivial ?_
      exact Wn.iret rfl ⟨rfl, hd10, hF12⟩
set_option maxRecDepth 20000 in
theorem c_rd_takeNumberD (d : Nat) (M : Mm) (fk fp : Nat) (hR : RdD M fk fp) (lo hi : Int32) : Wn (d + 2) 179 (fun r0 M9 => r0 = (some (.int lo)) ∧ M9 = M) (0, lv_args 0 [.ref 77, .int lo, .int hi], [], M) := by
  refine Wn.run (tab := tb_rd_takeNumber) rfl 4 (c' := (if ((M.2.2 77 10) = 100002) = (true = true) then 18 else 10, [(0, .ref 77), (1, .int lo), (2, .int hi)], [], M)) (o := [shp 77 = (0, 3), isK (M.2.2 77 10), isK 100002]) rfl ⟨rfl, (hR.2.2.2), ⟨by decide, by decide⟩⟩ ?_
  refine Wn.br (fun h1 => ?_) (fun h1 => ?_)
  · show Wn _ 179 _ (18, [(0, .ref 77), (1, .int lo), (2, .int hi)], [], M)
    refine Wn.run (tab := tb_rd_takeNumber) rfl 4 (c' := (if (M.1 77 6) < lo then 34 else 26, [(0, .ref 77), (1, .int lo), (2, .int hi)], [], M)) (o := [shp 77 = (0, 3)]) rfl rfl ?_
    refine Wn.br (fun h2 => ?_) (fun h2 => ?_)
    · show Wn _ 179 _ (34, [(0, .ref 77), (1, .int lo), (2, .int hi)], [], M)
      refine Wn.run (tab := tb_rd_takeNumber) rfl 2 (c' := (36, [(0, .ref 77), (1, .int lo), (2, .int hi)], [.int (nI 2), .ref 77], M)) (o := []) rfl trivial ?_
      refine Wn.callV (p := 77) (n := 2) (ix := 92) (ci := (3)) (fun r0 M9 => r0 = none ∧ M9 = M) [.int (nI 2)] [] rfl rfl rfl rfl (Nat.le_of_ble_eq_true rfl) (Nat.le_of_ble_eq_true rfl) (c_rd_failD _ M fk fp hR (nI 2)) ?_
      rintro _ M9 ⟨rfl, hsm⟩
      obtain rfl := hsm.symm
      show Wn _ 179 _ (39, [(0, .ref 77), (1, .int lo), (2, .int hi)], [], M)
      refine Wn.run (tab := tb_rd_takeNumber) rfl 1 (c' := (40, [(0, .ref 77), (1, .int lo), (2, .int hi)], [.ref 77], M)) (o := []) rfl trivial ?_
      refine Wn.callV (p := 77) (n := 1) (ix := 88) (ci := (3)) (fun r0 M0 => r0 = some (.int (nI 1)) ∧ M = M0) [] [] rfl rfl rfl rfl (Nat.le_of_ble_eq_true rfl) (Nat.le_of_ble_eq_true rfl) (w_rd_failedD _ M fk hR.1 hR.2.2.1 _ ⟨rfl, rfl⟩) ?_
      rintro _ _ ⟨rfl, rfl⟩
      show Wn _ 179 _ (43, [(0, .ref 77), (1, .int lo), (2, .int hi)], [.int (nI 1)], M)
      refine Wn.run (tab := tb_rd_takeNumber) rfl 1 (c' := (if (nI 1) = 0 then 48 else 46, [(0, .ref 77), (1, .int lo), (2, .int hi)], [], M)) (o := []) rfl trivial ?_
      rw [if_neg (show ¬ ((nI 1) = 0) by decide)]
      show Wn _ 179 _ (46, [(0, .ref 77), (1, .int lo), (2, .int hi)], [], M)
      refine Wn.run (tab := tb_rd_takeNumber) rfl 1 (c' := (47, [(0, .ref 77), (1, .int lo), (2, .int hi)], [.int lo], M)) (o := []) rfl trivial ?_
      exact Wn.iret rfl ⟨rfl, rfl⟩
    · show Wn _ 179 _ (26, [(0, .ref 77), (1, .int lo), (2, .int hi)], [], M)
      refine Wn.run (tab := tb_rd_takeNumber) rfl 4 (c' := (if (M.1 77 6) ≤ hi then 39 else 34, [(0, .ref 77), (1, .int lo), (2, .int hi)], [], M)) (o := [shp 77 = (0, 3)]) rfl rfl ?_
      refine Wn.br (fun h3 => ?_) (fun h3 => ?_)
      · show Wn _ 179 _ (39, [(0, .ref 77), (1, .int lo), (2, .int hi)], [], M)
        refine Wn.run (tab := tb_rd_takeNumber) rfl 1 (c' := (40, [(0, .ref 77), (1, .int lo), (2, .int hi)], [.ref 77], M)) (o := []) rfl trivial ?_
        refine Wn.callV (p := 77) (n := 1) (ix := 88) (ci := (3)) (fun r0 M0 => r0 = some (.int (nI 1)) ∧ M = M0) [] [] rfl rfl rfl rfl (Nat.le_of_ble_eq_true rfl) (Nat.le_of_ble_eq_true rfl) (w_rd_failedD _ M fk hR.1 hR.2.2.1 _ ⟨rfl, rfl⟩) ?_
        rintro _ _ ⟨rfl, rfl⟩
        show Wn _ 179 _ (43, [(0, .ref 77), (1, .int lo), (2, .int hi)], [.int (nI 1)], M)
        refine Wn.run (tab := tb_rd_takeNumber) rfl 1 (c' := (if (nI 1) = 0 then 48 else 46, [(0, .ref 77), (1, .int lo), (2, .int hi)], [], M)) (o := []) rfl trivial ?_
        rw [if_neg (show ¬ ((nI 1) = 0) by decide)]
        show Wn _ 179 _ (46, [(0, .ref 77), (1, .int lo), (2, .int hi)], [], M)
        refine Wn.run (tab := tb_rd_takeNumber) rfl 1 (c' := (47, [(0, .ref 77), (1, .int lo), (2, .int hi)], [.int lo], M)) (o := []) rfl trivial ?_
        exact Wn.iret rfl ⟨rfl, rfl⟩
      · show Wn _ 179 _ (34, [(0, .ref 77), (1, .int lo), (2, .int hi)], [], M)
        refine Wn.run (tab := tb_rd_takeNumber) rfl 2 (c' := (36, [(0, .ref 77), (1, .int lo), (2, .int hi)], [.int (nI 2), .ref 77], M)) (o := []) rfl trivial ?_
        refine Wn.callV (p := 77) (n := 2) (ix := 92) (ci := (3)) (fun r0 M9 => r0 = none ∧ M9 = M) [.int (nI 2)] [] rfl rfl rfl rfl (Nat.le_of_ble_eq_true rfl) (Nat.le_of_ble_eq_true rfl) (c_rd_failD _ M fk fp hR (nI 2)) ?_
        rintro _ M9 ⟨rfl, hsm⟩
        obtain rfl := hsm.symm
        show Wn _ 179 _ (39, [(0, .ref 77), (1, .int lo), (2, .int hi)], [], M)
        refine Wn.run (tab := tb_rd_takeNumber) rfl 1 (c' := (40, [(0, .ref 77), (1, .int lo), (2, .int hi)], [.ref 77], M)) (o := []) rfl trivial ?_
        refine Wn.callV (p := 77) (n := 1) (ix := 88) (ci := (3)) (fun r0 M0 => r0 = some (.int (nI 1)) ∧ M = M0) [] [] rfl rfl rfl rfl (Nat.le_of_ble_eq_true rfl) (Nat.le_of_ble_eq_true rfl) (w_rd_failedD _ M fk hR.1 hR.2.2.1 _ ⟨rfl, rfl⟩) ?_
        rintro _ _ ⟨rfl, rfl⟩
        show Wn _ 179 _ (43, [(0, .ref 77), (1, .int lo), (2, .int hi)], [.int (nI 1)], M)
        refine Wn.run (tab := tb_rd_takeNumber) rfl 1 (c' := (if (nI 1) = 0 then 48 else 46, [(0, .ref 77), (1, .int lo), (2, .int hi)], [], M)) (o := []) rfl trivial ?_
        rw [if_neg (show ¬ ((nI 1) = 0) by decide)]
        show Wn _ 179 _ (46, [(0, .ref 77), (1, .int lo), (2, .int hi)], [], M)
        refine Wn.run (tab := tb_rd_takeNumber) rfl 1 (c' := (47, [(0, .ref 77), (1, .int lo), (2, .int hi)], [.int lo], M)) (o := []) rfl trivial ?_
        exact Wn.iret rfl ⟨rfl, rfl⟩
  · show Wn _ 179 _ (10, [(0, .ref 77), (1, .int lo), (2, .int hi)], [], M)
    refine Wn.run (tab := tb_rd_takeNumber) rfl 2 (c' := (12, [(0, .ref 77), (1, .int lo), (2, .int hi)], [.int (nI 1), .ref 77], M)) (o := []) rfl trivial ?_
    refine Wn.callV (p := 77) (n := 2) (ix := 92) (ci := (3)) (fun r0 M9 => r0 = none ∧ M9 = M) [.int (nI 1)] [] rfl rfl rfl rfl (Nat.le_of_ble_eq_true rfl) (Nat.le_of_ble_eq_true rfl) (c_rd_failD _ M fk fp hR (nI 1)) ?_
    rintro _ M9 ⟨rfl, hsm⟩
    obtain rfl := hsm.symm
    show Wn _ 179 _ (15, [(0, .ref 77), (1, .int lo), (2, .int hi)], [], M)
    refine Wn.run (tab := tb_rd_takeNumber) rfl 2 (c' := (40, [(0, .ref 77), (1, .int lo), (2, .int hi)], [.ref 77], M)) (o := []) rfl trivial ?_
    refine Wn.callV (p := 77) (n := 1) (ix := 88) (ci := (3)) (fun r0 M0 => r0 = some (.int (nI 1)) ∧ M = M0) [] [] rfl rfl rfl rfl (Nat.le_of_ble_eq_true rfl) (Nat.le_of_ble_eq_true rfl) (w_rd_failedD _ M fk hR.1 hR.2.2.1 _ ⟨rfl, rfl⟩) ?_
    rintro _ _ ⟨rfl, rfl⟩
    show Wn _ 179 _ (43, [(0, .ref 77), (1, .int lo), (2, .int hi)], [.int (nI 1)], M)
    refine Wn.run (tab := tb_rd_takeNumber) rfl 1 (c' := (if (nI 1) = 0 then 48 else 46, [(0, .ref 77), (1, .int lo), (2, .int hi)], [], M)) (o := []) rfl trivial ?_
    rw [if_neg (show ¬ ((nI 1) = 0) by decide)]
    show Wn _ 179 _ (46, [(0, .ref 77), (1, .int lo), (2, .int hi)], [], M)
    refine Wn.run (tab := tb_rd_takeNumber) rfl 1 (c' := (47, [(0, .ref 77), (1, .int lo), (2, .int hi)], [.int lo], M)) (o := []) rfl trivial ?_
    exact Wn.iret rfl ⟨rfl, rfl⟩
set_option maxRecDepth 20000 in
theorem c_rd_takePerson_ok (d : Nat) (M : Mm) (T : Nat → Nat) (L mo p ta : Nat) (hR : RdL M T L mo p ta) (pL : Nat) (σ : Nat → Nat) (hL : LkC M pL σ) (c9_2 : σ 2 ≤ 6) (ν : Nat → Int64) (hN : NmC M pL ν (σ 2)) (hpL : ¬ pL = 77 ∧ ¬ pL + 1 = 77 ∧ ¬ pL + 2 = 77) (hk : tKd T L mo p = 3) (q : Nat) (hq : q < 6) (hcl : pcl ν (tNm T L p) (σ 2) = some q) : Wn (d + 2) 180 (PLv M T L mo (tNx T L p) (tAt T L mo p) (some (.int (nI q)))) (0, lv_args 0 [.ref 77, .ref pL], [], M) := by
  have hF := fr_rf [77] M
  refine Wn.run (tab := tb_rd_takePerson) rfl 6 (c' := (if ((M.2.2 77 10) = 100003) = (true = true) then 20 else 12, [(2, .int (-1 : Int32)), (0, .ref 77), (1, .ref pL)], [], M)) (o := [shp 77 = (0, 3), isK (M.2.2 77 10), isK 100003]) rfl ⟨rfl, (by rw [hR.1.2.2.2.2.2.2.1]; exact isK_kR _ _ _ _), ⟨by decide, by decide⟩⟩ ?_
  rw [if_pos (ac_t.mpr (by rw [hR.1.2.2.2.2.2.2.1]; exact (kR_iff (c := 3) (by omega) (by omega)).mpr (by omega)))]
  show Wn _ 180 _ (20, [(2, .int (-1 : Int32)), (0, .ref 77), (1, .ref pL)], [], M)
  refine Wn.run (tab := tb_rd_takePerson) rfl 3 (c' := (25, [(2, .int (-1 : Int32)), (0, .ref 77), (1, .ref pL)], [.long (M.2.1 77 7), .ref pL], M)) (o := [shp 77 = (0, 3)]) rfl rfl ?_
  rw [show (M.2.1 77 7) = (tNm T L p) from (hR.1.2.2.2.2.2.2.2.2.2 (by omega))]
  refine Wn.callV (p := pL) (n := 2) (ix := 96) (ci := (2)) (fun r0 M0 => r0 = some (.int (oI (pcl ν (tNm T L p) (σ 2)))) ∧ M = M0) [.long (tNm T L p)] [] rfl rfl rfl hL.1 (Nat.le_of_ble_eq_true rfl) (Nat.le_of_ble_eq_true rfl) (w_lk_personCalled _ M pL σ hL (by omega) ν hN (tNm T L p) _ ⟨rfl, rfl⟩) ?_
  rintro _ _ ⟨rfl, rfl⟩
  show Wn _ 180 _ (28, [(2, .int (-1 : Int32)), (0, .ref 77), (1, .ref pL)], [.int (oI (pcl ν (tNm T L p) (σ 2)))], M)
  rw [hcl]
  show Wn _ 180 _ (28, [(2, .int (-1 : Int32)), (0, .ref 77), (1, .ref pL)], [.int (nI q)], M)
  refine Wn.run (tab := tb_rd_takePerson) rfl 4 (c' := (if ¬ (nI q) = (-1 : Int32) then 39 else 34, [(2, .int (nI q)), (0, .ref 77), (1, .ref pL)], [], M)) (o := []) rfl trivial ?_
  rw [if_pos (nI_m1 (by omega))]
  show Wn _ 180 _ (39, [(2, .int (nI q)), (0, .ref 77), (1, .ref pL)], [], M)
  refine Wn.run (tab := tb_rd_takePerson) rfl 1 (c' := (40, [(2, .int (nI q)), (0, .ref 77), (1, .ref pL)], [.ref 77], M)) (o := []) rfl trivial ?_
  refine Wn.callV (p := 77) (n := 1) (ix := 88) (ci := (3)) (fun r0 M0 => r0 = some (.int (nI 0)) ∧ M = M0) [] [] rfl rfl rfl rfl (Nat.le_of_ble_eq_true rfl) (Nat.le_of_ble_eq_true rfl) (w_rd_failedL _ M hR.1.2.2.2.2.1 _ ⟨rfl, rfl⟩) ?_
  rintro _ _ ⟨rfl, rfl⟩
  show Wn _ 180 _ (43, [(2, .int (nI q)), (0, .ref 77), (1, .ref pL)], [.int (nI 0)], M)
  refine Wn.run (tab := tb_rd_takePerson) rfl 1 (c' := (if (nI 0) = 0 then 48 else 46, [(2, .int (nI q)), (0, .ref 77), (1, .ref pL)], [], M)) (o := []) rfl trivial ?_
  rw [if_pos (show (nI 0) = 0 by decide)]
  show Wn _ 180 _ (48, [(2, .int (nI q)), (0, .ref 77), (1, .ref pL)], [], M)
  refine Wn.run (tab := tb_rd_takePerson) rfl 1 (c' := (49, [(2, .int (nI q)), (0, .ref 77), (1, .ref pL)], [.ref 77], M)) (o := []) rfl trivial ?_
  refine Wn.callV (p := 77) (n := 1) (ix := 49) (ci := (3)) (PLv M T L mo (tNx T L p) (tAt T L mo p) none) [] [] rfl rfl rfl rfl (Nat.le_of_ble_eq_true rfl) (Nat.le_of_ble_eq_true rfl) (c_rd_adv _ M T L mo p ta hR (by omega) (by omega)) ?_
  rintro _ M1 ⟨rfl, hq2, hF3⟩
  show Wn _ 180 _ (52, [(2, .int (nI q)), (0, .ref 77), (1, .ref pL)], [], M1)
  have hF4 := fr_tr hF hF3 (by decide)
  have hl5 := LkC_fr hL (hF3 _ (by simp; omega)).1 (hF3 _ (by simp; omega)).1
  have hn6 := NmC_fr hF3 (by simp; omega) hN
  refine Wn.run (tab := tb_rd_takePerson) rfl 1 (c' := (53, [(2, .int (nI q)), (0, .ref 77), (1, .ref pL)], [.int (nI q)], M1)) (o := []) rfl trivial ?_
  exact Wn.iret rfl ⟨rfl, hq2, hF4⟩
set_option maxRecDepth 20000 in
theorem c_rd_takePerson_no1 (d : Nat) (M : Mm) (T : Nat → Nat) (L mo p ta : Nat) (hR : RdL M T L mo p ta) (pL : Nat) (σ : Nat → Nat) (hL : LkC M pL σ) (c9_2 : σ 2 ≤ 6) (ν : Nat → Int64) (hN : NmC M pL ν (σ 2)) (hpL : ¬ pL = 77 ∧ ¬ pL + 1 = 77 ∧ ¬ pL + 2 = 77) (hk : ¬ tKd T L mo p = 3) : Wn (d + 2) 180 (PFl M 1 (tAt T L mo p) (some (.int (nI 0)))) (0, lv_args 0 [.ref 77, .ref pL], [], M) := by
  have hF := fr_rf [77] M
  refine Wn.run (tab := tb_rd_takePerson) rfl 6 (c' := (if ((M.2.2 77 10) = 100003) = (true = true) then 20 else 12, [(2, .int (-1 : Int32)), (0, .ref 77), (1, .ref pL)], [], M)) (o := [shp 77 = (0, 3), isK (M.2.2 77 10), isK 100003]) rfl ⟨rfl, (by rw [hR.1.2.2.2.2.2.2.1]; exact isK_kR _ _ _ _), ⟨by decide, by decide⟩⟩ ?_
  rw [if_neg (fun q9 => absurd (ac_t.mp q9) (by rw [hR.1.2.2.2.2.2.2.1]; exact mt (kR_iff (c := 3) (by omega) (by omega)).mp (by omega)))]
  show Wn _ 180 _ (12, [(2, .int (-1 : Int32)), (0, .ref 77), (1, .ref pL)], [], M)
  refine Wn.run (tab := tb_rd_takePerson) rfl 2 (c' := (14, [(2, .int (-1 : Int32)), (0, .ref 77), (1, .ref pL)], [.int (nI 1), .ref 77], M)) (o := []) rfl trivial ?_
  refine Wn.callV (p := 77) (n := 2) (ix := 92) (ci := (3)) (PFl M 1 (tAt T L mo p) none) [.int (nI 1)] [] rfl rfl rfl rfl (Nat.le_of_ble_eq_true rfl) (Nat.le_of_ble_eq_true rfl) (c_rd_fail _ M T L mo p ta hR.1 1 (by omega)) ?_
  rintro _ M1 ⟨rfl, hd2, hF3⟩
  show Wn _ 180 _ (17, [(2, .int (-1 : Int32)), (0, .ref 77), (1, .ref pL)], [], M1)
  have hF4 := fr_tr hF hF3 (by decide)
  have hl5 := LkC_fr hL (hF3 _ (by simp; omega)).1 (hF3 _ (by simp; omega)).1
  have hn6 := NmC_fr hF3 (by simp; omega) hN
  refine Wn.run (tab := tb_rd_takePerson) rfl 4 (c' := (if ¬ (-1 : Int32) = (-1 : Int32) then 39 else 34, [(2, .int (-1 : Int32)), (0, .ref 77), (1, .ref pL)], [], M1)) (o := []) rfl trivial ?_
  rw [if_neg (show ¬ (¬ (-1 : Int32) = (-1 : Int32)) by decide)]
  show Wn _ 180 _ (34, [(2, .int (-1 : Int32)), (0, .ref 77), (1, .ref pL)], [], M1)
  refine Wn.run (tab := tb_rd_takePerson) rfl 2 (c' := (36, [(2, .int (-1 : Int32)), (0, .ref 77), (1, .ref pL)], [.int (nI 3), .ref 77], M1)) (o := []) rfl trivial ?_
  refine Wn.callV (p := 77) (n := 2) (ix := 92) (ci := (3)) (fun r0 M9 => r0 = none ∧ M9 = M1) [.int (nI 3)] [] rfl rfl rfl rfl (Nat.le_of_ble_eq_true rfl) (Nat.le_of_ble_eq_true rfl) (c_rd_failD _ M1 1 (tAt T L mo p) hd2 (nI 3)) ?_
  rintro _ M9 ⟨rfl, hsm⟩
  obtain rfl := hsm.symm
  show Wn _ 180 _ (39, [(2, .int (-1 : Int32)), (0, .ref 77), (1, .ref pL)], [], M1)
  refine Wn.run (tab := tb_rd_takePerson) rfl 1 (c' := (40, [(2, .int (-1 : Int32)), (0, .ref 77), (1, .ref pL)], [.ref 77], M1)) (o := []) rfl trivial ?_
  refine Wn.callV (p := 77) (n := 1) (ix := 88) (ci := (3)) (fun r0 M0 => r0 = some (.int (nI 1)) ∧ M1 = M0) [] [] rfl rfl rfl rfl (Nat.le_of_ble_eq_true rfl) (Nat.le_of_ble_eq_true rfl) (w_rd_failedD _ M1 1 hd2.1 hd2.2.2.1 _ ⟨rfl, rfl⟩) ?_
  rintro _ _ ⟨rfl, rfl⟩
  show Wn _ 180 _ (43, [(2, .int (-1 : Int32)), (0, .ref 77), (1, .ref pL)], [.int (nI 1)], M1)
  refine Wn.run (tab := tb_rd_takePerson) rfl 1 (c' := (if (nI 1) = 0 then 48 else 46, [(2, .int (-1 : Int32)), (0, .ref 77), (1, .ref pL)], [], M1)) (o := []) rfl trivial ?_
  rw [if_neg (show ¬ ((nI 1) = 0) by decide)]
  show Wn _ 180 _ (46, [(2, .int (-1 : Int32)), (0, .ref 77), (1, .ref pL)], [], M1)
  refine Wn.run (tab := tb_rd_takePerson) rfl 1 (c' := (47, [(2, .int (-1 : Int32)), (0, .ref 77), (1, .ref pL)], [.int (nI 0)], M1)) (o := []) rfl trivial ?_
  exact Wn.iret rfl ⟨rfl, hd2, hF4⟩
set_option maxRecDepth 20000 in
theorem c_rd_takePerson_no3 (d : Nat) (M : Mm) (T : Nat → Nat) (L mo p ta : Nat) (hR : RdL M T L mo p ta) (pL : Nat) (σ : Nat → Nat) (hL : LkC M pL σ) (c9_2 : σ 2 ≤ 6) (ν : Nat → Int64) (hN : NmC M pL ν (σ 2)) (hpL : ¬ pL = 77 ∧ ¬ pL + 1 = 77 ∧ ¬ pL + 2 = 77) (hk : tKd T L mo p = 3) (hcl : pcl ν (tNm T L p) (σ 2) = none) : Wn (d + 2) 180 (PFl M 3 (tAt T L mo p) (some (.int (nI 0)))) (0, lv_args 0 [.ref 77, .ref pL], [], M) := by
  have hF := fr_rf [77] M
  refine Wn.run (tab := tb_rd_takePerson) rfl 6 (c' := (if ((M.2.2 77 10) = 100003) = (true = true) then 20 else 12, [(2, .int (-1 : Int32)), (0, .ref 77), (1, .ref pL)], [], M)) (o := [shp 77 = (0, 3), isK (M.2.2 77 10), isK 100003]) rfl ⟨rfl, (by rw [hR.1.2.2.2.2.2.2.1]; exact isK_kR _ _ _ _), ⟨by decide, by decide⟩⟩ ?_
  rw [if_pos (ac_t.mpr (by rw [hR.1.2.2.2.2.2.2.1]; exact (kR_iff (c := 3) (by omega) (by omega)).mpr (by omega)))]
  show Wn _ 180 _ (20, [(2, .int (-1 : Int32)), (0, .ref 77), (1, .ref pL)], [], M)
  refine Wn.run (tab := tb_rd_takePerson) rfl 3 (c' := (25, [(2, .int (-1 : Int32)), (0, .ref 77), (1, .ref pL)], [.long (M.2.1 77 7), .ref pL], M)) (o := [shp 77 = (0, 3)]) rfl rfl ?_
  rw [show (M.2.1 77 7) = (tNm T L p) from (hR.1.2.2.2.2.2.2.2.2.2 (by omega))]
  refine Wn.callV (p := pL) (n := 2) (ix := 96) (ci := (2)) (fun r0 M0 => r0 = some (.int (oI (pcl ν (tNm T L p) (σ 2)))) ∧ M = M0) [.long (tNm T L p)] [] rfl rfl rfl hL.1 (Nat.le_of_ble_eq_true rfl) (Nat.le_of_ble_eq_true rfl) (w_lk_personCalled _ M pL σ hL (by omega) ν hN (tNm T L p) _ ⟨rfl, rfl⟩) ?_
  rintro _ _ ⟨rfl, rfl⟩
  show Wn _ 180 _ (28, [(2, .int (-1 : Int32)), (0, .ref 77), (1, .ref pL)], [.int (oI (pcl ν (tNm T L p) (σ 2)))], M)
  rw [hcl]
  show Wn _ 180 _ (28, [(2, .int (-1 : Int32)), (0, .ref 77), (1, .ref pL)], [.int (-1 : Int32)], M)
  refine Wn.run (tab := tb_rd_takePerson) rfl 4 (c' := (if ¬ (-1 : Int32) = (-1 : Int32) then 39 else 34, [(2, .int (-1 : Int32)), (0, .ref 77), (1, .ref pL)], [], M)) (o := []) rfl trivial ?_
  rw [if_neg (show ¬ (¬ (-1 : Int32) = (-1 : Int32)) by decide)]
  show Wn _ 180 _ (34, [(2, .int (-1 : Int32)), (0, .ref 77), (1, .ref pL)], [], M)
  refine Wn.run (tab := tb_rd_takePerson) rfl 2 (c' := (36, [(2, .int (-1 : Int32)), (0, .ref 77), (1, .ref pL)], [.int (nI 3), .ref 77], M)) (o := []) rfl trivial ?_
  refine Wn.callV (p := 77) (n := 2) (ix := 92) (ci := (3)) (PFl M 3 (tAt T L mo p) none) [.int (nI 3)] [] rfl rfl rfl rfl (Nat.le_of_ble_eq_true rfl) (Nat.le_of_ble_eq_true rfl) (c_rd_fail _ M T L mo p ta hR.1 3 (by omega)) ?_
  rintro _ M1 ⟨rfl, hd2, hF3⟩
  show Wn _ 180 _ (39, [(2, .int (-1 : Int32)), (0, .ref 77), (1, .ref pL)], [], M1)
  have hF4 := fr_tr hF hF3 (by decide)
  have hl5 := LkC_fr hL (hF3 _ (by simp; omega)).1 (hF3 _ (by simp; omega)).1
  have hn6 := NmC_fr hF3 (by simp; omega) hN
  refine Wn.run (tab := tb_rd_takePerson) rfl 1 (c' := (40, [(2, .int (-1 : Int32)), (0, .ref 77), (1, .ref pL)], [.ref 77], M1)) (o := []) rfl trivial ?_
  refine Wn.callV (p := 77) (n := 1) (ix := 88) (ci := (3)) (fun r0 M0 => r0 = some (.int (nI 1)) ∧ M1 = M0) [] [] rfl rfl rfl rfl (Nat.le_of_ble_eq_true rfl) (Nat.le_of_ble_eq_true rfl) (w_rd_failedD _ M1 3 hd2.1 hd2.2.2.1 _ ⟨rfl, rfl⟩) ?_
  rintro _ _ ⟨rfl, rfl⟩
  show Wn _ 180 _ (43, [(2, .int (-1 : Int32)), (0, .ref 77), (1, .ref pL)], [.int (nI 1)], M1)
  refine Wn.run (tab := tb_rd_takePerson) rfl 1 (c' := (if (nI 1) = 0 then 48 else 46, [(2, .int (-1 : Int32)), (0, .ref 77), (1, .ref pL)], [], M1)) (o := []) rfl trivial ?_
  rw [if_neg (show ¬ ((nI 1) = 0) by decide)]
  show Wn _ 180 _ (46, [(2, .int (-1 : Int32)), (0, .ref 77), (1, .ref pL)], [], M1)
  refine Wn.run (tab := tb_rd_takePerson) rfl 1 (c' := (47, [(2, .int (-1 : Int32)), (0, .ref 77), (1, .ref pL)], [.int (nI 0)], M1)) (o := []) rfl trivial ?_
  exact Wn.iret rfl ⟨rfl, hd2, hF4⟩
set_option maxRecDepth 20000 in
theorem c_rd_takeNewName_ok (d : Nat) (M : Mm) (T : Nat → Nat) (L mo p ta : Nat) (hR : RdL M T L mo p ta) (pL : Nat) (σ : Nat → Nat) (hL : LkC M pL σ) (c9_2 : σ 2 ≤ 6) (ν : Nat → Int64) (hN : NmC M pL ν (σ 2)) (hpL : ¬ pL = 77 ∧ ¬ pL + 1 = 77 ∧ ¬ pL + 2 = 77) (hk : tKd T L mo p = 3) (hcl : pcl ν (tNm T L p) (σ 2) = none) : Wn (d + 2) 181 (PLv M T L mo (tNx T L p) (tAt T L mo p) (some (.long (tNm T L p)))) (0, lv_args 0 [.ref 77, .ref pL], [], M) := by
  have hF := fr_rf [77] M
  refine Wn.run (tab := tb_rd_takeNewName) rfl 4 (c' := (if ((M.2.2 77 10) = 100003) = (true = true) then 18 else 10, [(0, .ref 77), (1, .ref pL)], [], M)) (o := [shp 77 = (0, 3), isK (M.2.2 77 10), isK 100003]) rfl ⟨rfl, (by rw [hR.1.2.2.2.2.2.2.1]; exact isK_kR _ _ _ _), ⟨by decide, by decide⟩⟩ ?_
  rw [if_pos (ac_t.mpr (by rw [hR.1.2.2.2.2.2.2.1]; exact (kR_iff (c := 3) (by omega) (by omega)).mpr (by omega)))]
  show Wn _ 181 _ (18, [(0, .ref 77), (1, .ref pL)], [], M)
  refine Wn.run (tab := tb_rd_takeNewName) rfl 3 (c' := (23, [(0, .ref 77), (1, .ref pL)], [.long (M.2.1 77 7), .ref pL], M)) (o := [shp 77 = (0, 3)]) rfl rfl ?_
  rw [show (M.2.1 77 7) = (tNm T L p) from (hR.1.2.2.2.2.2.2.2.2.2 (by omega))]
  refine Wn.callV (p := pL) (n := 2) (ix := 96) (ci := (2)) (fun r0 M0 => r0 = some (.int (oI (pcl ν (tNm T L p) (σ 2)))) ∧ M = M0) [.long (tNm T L p)] [] rfl rfl rfl hL.1 (Nat.le_of_ble_eq_true rfl) (Nat.le_of_ble_eq_true rfl) (w_lk_personCalled _ M pL σ hL (by omega) ν hN (tNm T L p) _ ⟨rfl, rfl⟩) ?_
  rintro _ _ ⟨rfl, rfl⟩
  show Wn _ 181 _ (26, [(0, .ref 77), (1, .ref pL)], [.int (oI (pcl ν (tNm T L p) (σ 2)))], M)
  rw [hcl]
  show Wn _ 181 _ (26, [(0, .ref 77), (1, .ref pL)], [.int (-1 : Int32)], M)
  refine Wn.run (tab := tb_rd_takeNewName) rfl 2 (c' := (if (-1 : Int32) = (-1 : Int32) then 35 else 30, [(0, .ref 77), (1, .ref pL)], [], M)) (o := []) rfl trivial ?_
  rw [if_pos (show (-1 : Int32) = (-1 : Int32) by decide)]
  show Wn _ 181 _ (35, [(0, .ref 77), (1, .ref pL)], [], M)
  refine Wn.run (tab := tb_rd_takeNewName) rfl 1 (c' := (36, [(0, .ref 77), (1, .ref pL)], [.ref 77], M)) (o := []) rfl trivial ?_
  refine Wn.callV (p := 77) (n := 1) (ix := 88) (ci := (3)) (fun r0 M0 => r0 = some (.int (nI 0)) ∧ M = M0) [] [] rfl rfl rfl rfl (Nat.le_of_ble_eq_true rfl) (Nat.le_of_ble_eq_true rfl) (w_rd_failedL _ M hR.1.2.2.2.2.1 _ ⟨rfl, rfl⟩) ?_
  rintro _ _ ⟨rfl, rfl⟩
  show Wn _ 181 _ (39, [(0, .ref 77), (1, .ref pL)], [.int (nI 0)], M)
  refine Wn.run (tab := tb_rd_takeNewName) rfl 1 (c' := (if (nI 0) = 0 then 44 else 42, [(0, .ref 77), (1, .ref pL)], [], M)) (o := []) rfl trivial ?_
  rw [if_pos (show (nI 0) = 0 by decide)]
  show Wn _ 181 _ (44, [(0, .ref 77), (1, .ref pL)], [], M)
  refine Wn.run (tab := tb_rd_takeNewName) rfl 4 (c' := (50, [(2, .long (M.2.1 77 7)), (0, .ref 77), (1, .ref pL)], [.ref 77], M)) (o := [shp 77 = (0, 3)]) rfl rfl ?_
  rw [show (M.2.1 77 7) = (tNm T L p) from (hR.1.2.2.2.2.2.2.2.2.2 (by omega))]
  refine Wn.callV (p := 77) (n := 1) (ix := 49) (ci := (3)) (PLv M T L mo (tNx T L p) (tAt T L mo p) none) [] [] rfl rfl rfl rfl (Nat.le_of_ble_eq_true rfl) (Nat.le_of_ble_eq_true rfl) (c_rd_adv _ M T L mo p ta hR (by omega) (by omega)) ?_
  rintro _ M1 ⟨rfl, hq2, hF3⟩
  show Wn _ 181 _ (53, [(2, .long (tNm T L p)), (0, .ref 77), (1, .ref pL)], [], M1)
  have hF4 := fr_tr hF hF3 (by decide)
  have hl5 := LkC_fr hL (hF3 _ (by simp; omega)).1 (hF3 _ (by simp; omega)).1
  have hn6 := NmC_fr hF3 (by simp; omega) hN
  refine Wn.run (tab := tb_rd_takeNewName) rfl 1 (c' := (54, [(2, .long (tNm T L p)), (0, .ref 77), (1, .ref pL)], [.long (tNm T L p)], M1)) (o := []) rfl trivial ?_
  exact Wn.lret rfl ⟨rfl, hq2, hF4⟩
set_option maxRecDepth 20000 in
theorem c_rd_takeNewName_no1 (d : Nat) (M : Mm) (T : Nat → Nat) (L mo p ta : Nat) (hR : RdL M T L mo p ta) (pL : Nat) (σ : Nat → Nat) (hL : LkC M pL σ) (c9_2 : σ 2 ≤ 6) (ν : Nat → Int64) (hN : NmC M pL ν (σ 2)) (hpL : ¬ pL = 77 ∧ ¬ pL + 1 = 77 ∧ ¬ pL + 2 = 77) (hk : ¬ tKd T L mo p = 3) : Wn (d + 2) 181 (PFl M 1 (tAt T L mo p) (some (.long 0))) (0, lv_args 0 [.ref 77, .ref pL], [], M) := by
  have hF := fr_rf [77] M
  refine Wn.run (tab := tb_rd_takeNewName) rfl 4 (c' := (if ((M.2.2 77 10) = 100003) = (true = true) then 18 else 10, [(0, .ref 77), (1, .ref pL)], [], M)) (o := [shp 77 = (0, 3), isK (M.2.2 77 10), isK 100003]) rfl ⟨rfl, (by rw [hR.1.2.2.2.2.2.2.1]; exact isK_kR _ _ _ _), ⟨by decide, by decide⟩⟩ ?_
  rw [if_neg (fun q9 => absurd (ac_t.mp q9) (by rw [hR.1.2.2.2.2.2.2.1]; exact mt (kR_iff (c := 3) (by omega) (by omega)).mp (by omega)))]
  show Wn _ 181 _ (10, [(0, .ref 77), (1, .ref pL)], [], M)
  refine Wn.run (tab := tb_rd_takeNewName) rfl 2 (c' := (12, [(0, .ref 77), (1, .ref pL)], [.int (nI 1), .ref 77], M)) (o := []) rfl trivial ?_
  refine Wn.callV (p := 77) (n := 2) (ix := 92) (ci := (3)) (PFl M 1 (tAt T L mo p) none) [.int (nI 1)] [] rfl rfl rfl rfl (Nat.le_of_ble_eq_true rfl) (Nat.le_of_ble_eq_true rfl) (c_rd_fail _ M T L mo p ta hR.1 1 (by omega)) ?_
  rintro _ M1 ⟨rfl, hd2, hF3⟩
  show Wn _ 181 _ (15, [(0, .ref 77), (1, .ref pL)], [], M1)
  have hF4 := fr_tr hF hF3 (by decide)
  have hl5 := LkC_fr hL (hF3 _ (by simp; omega)).1 (hF3 _ (by simp; omega)).1
  have hn6 := NmC_fr hF3 (by simp; omega) hN
  refine Wn.run (tab := tb_rd_takeNewName) rfl 2 (c' := (36, [(0, .ref 77), (1, .ref pL)], [.ref 77], M1)) (o := []) rfl trivial ?_
  refine Wn.callV (p := 77) (n := 1) (ix := 88) (ci := (3)) (fun r0 M0 => r0 = some (.int (nI 1)) ∧ M1 = M0) [] [] rfl rfl rfl rfl (Nat.le_of_ble_eq_true rfl) (Nat.le_of_ble_eq_true rfl) (w_rd_failedD _ M1 1 hd2.1 hd2.2.2.1 _ ⟨rfl, rfl⟩) ?_
  rintro _ _ ⟨rfl, rfl⟩
  show Wn _ 181 _ (39, [(0, .ref 77), (1, .ref pL)], [.int (nI 1)], M1)
  refine Wn.run (tab := tb_rd_takeNewName) rfl 1 (c' := (if (nI 1) = 0 then 44 else 42, [(0, .ref 77), (1, .ref pL)], [], M1)) (o := []) rfl trivial ?_
  rw [if_neg (show ¬ ((nI 1) = 0) by decide)]
  show Wn _ 181 _ (42, [(0, .ref 77), (1, .ref pL)], [], M1)
  refine Wn.run (tab := tb_rd_takeNewName) rfl 1 (c' := (43, [(0, .ref 77), (1, .ref pL)], [.long (0 : Int64)], M1)) (o := []) rfl trivial ?_
  exact Wn.lret rfl ⟨rfl, hd2, hF4⟩
set_option maxRecDepth 20000 in
theorem c_rd_takeNewName_no3 (d : Nat) (M : Mm) (T : Nat → Nat) (L mo p ta : Nat) (hR : RdL M T L mo p ta) (pL : Nat) (σ : Nat → Nat) (hL : LkC M pL σ) (c9_2 : σ 2 ≤ 6) (ν : Nat → Int64) (hN : NmC M pL ν (σ 2)) (hpL : ¬ pL = 77 ∧ ¬ pL + 1 = 77 ∧ ¬ pL + 2 = 77) (hk : tKd T L mo p = 3) (q : Nat) (hq : q < 6) (hcl : pcl ν (tNm T L p) (σ 2) = some q) : Wn (d + 2) 181 (PFl M 3 (tAt T L mo p) (some (.long 0))) (0, lv_args 0 [.ref 77, .ref pL], [], M) := by
  have hF := fr_rf [77] M
  refine Wn.run (tab := tb_rd_takeNewName) rfl 4 (c' := (if ((M.2.2 77 10) = 100003) = (true = true) then 18 else 10, [(0, .ref 77), (1, .ref pL)], [], M)) (o := [shp 77 = (0, 3), isK (M.2.2 77 10), isK 100003]) rfl ⟨rfl, (by rw [hR.1.2.2.2.2.2.2.1]; exact isK_kR _ _ _ _), ⟨by decide, by decide⟩⟩ ?_
  rw [if_pos (ac_t.mpr (by rw [hR.1.2.2.2.2.2.2.1]; exact (kR_iff (c := 3) (by omega) (by omega)).mpr (by omega)))]
  show Wn _ 181 _ (18, [(0, .ref 77), (1, .ref pL)], [], M)
  refine Wn.run (tab := tb_rd_takeNewName) rfl 3 (c' := (23, [(0, .ref 77), (1, .ref pL)], [.long (M.2.1 77 7), .ref pL], M)) (o := [shp 77 = (0, 3)]) rfl rfl ?_
  rw [show (M.2.1 77 7) = (tNm T L p) from (hR.1.2.2.2.2.2.2.2.2.2 (by omega))]
  refine Wn.callV (p := pL) (n := 2) (ix := 96) (ci := (2)) (fun r0 M0 => r0 = some (.int (oI (pcl ν (tNm T L p) (σ 2)))) ∧ M = M0) [.long (tNm T L p)] [] rfl rfl rfl hL.1 (Nat.le_of_ble_eq_true rfl) (Nat.le_of_ble_eq_true rfl) (w_lk_personCalled _ M pL σ hL (by omega) ν hN (tNm T L p) _ ⟨rfl, rfl⟩) ?_
  rintro _ _ ⟨rfl, rfl⟩
  show Wn _ 181 _ (26, [(0, .ref 77), (1, .ref pL)], [.int (oI (pcl ν (tNm T L p) (σ 2)))], M)
  rw [hcl]
  show Wn _ 181 _ (26, [(0, .ref 77), (1, .ref pL)], [.int (nI q)], M)
  refine Wn.run (tab := tb_rd_takeNewName) rfl 2 (c' := (if (nI q) = (-1 : Int32) then 35 else 30, [(0, .ref 77), (1, .ref pL)], [], M)) (o := []) rfl trivial ?_
  rw [if_neg (nI_m1 (by omega))]
  show Wn _ 181 _ (30, [(0, .ref 77), (1, .ref pL)], [], M)
  refine Wn.run (tab := tb_rd_takeNewName) rfl 2 (c' := (32, [(0, .ref 77), (1, .ref pL)], [.int (nI 3), .ref 77], M)) (o := []) rfl trivial ?_
  refine Wn.callV (p := 77) (n := 2) (ix := 92) (ci := (3)) (PFl M 3 (tAt T L mo p) none) [.int (nI 3)] [] rfl rfl rfl rfl (Nat.le_of_ble_eq_true rfl) (Nat.le_of_ble_eq_true rfl) (c_rd_fail _ M T L mo p ta hR.1 3 (by omega)) ?_
  rintro _ M1 ⟨rfl, hd2, hF3⟩
  show Wn _ 181 _ (35, [(0, .ref 77), (1, .ref pL)], [], M1)
  have hF4 := fr_tr hF hF3 (by decide)
  have hl5 := LkC_fr hL (hF3 _ (by simp; omega)).1 (hF3 _ (by simp; omega)).1
  have hn6 := NmC_fr hF3 (by simp; omega) hN
  refine Wn.run (tab := tb_rd_takeNewName) rfl 1 (c' := (36, [(0, .ref 77), (1, .ref pL)], [.ref 77], M1)) (o := []) rfl trivial ?_
  refine Wn.callV (p := 77) (n := 1) (ix := 88) (ci := (3)) (fun r0 M0 => r0 = some (.int (nI 1)) ∧ M1 = M0) [] [] rfl rfl rfl rfl (Nat.le_of_ble_eq_true rfl) (Nat.le_of_ble_eq_true rfl) (w_rd_failedD _ M1 3 hd2.1 hd2.2.2.1 _ ⟨rfl, rfl⟩) ?_
  rintro _ _ ⟨rfl, rfl⟩
  show Wn _ 181 _ (39, [(0, .ref 77), (1, .ref pL)], [.int (nI 1)], M1)
  refine Wn.run (tab := tb_rd_takeNewName) rfl 1 (c' := (if (nI 1) = 0 then 44 else 42, [(0, .ref 77), (1, .ref pL)], [], M1)) (o := []) rfl trivial ?_
  rw [if_neg (show ¬ ((nI 1) = 0) by decide)]
  show Wn _ 181 _ (42, [(0, .ref 77), (1, .ref pL)], [], M1)
  refine Wn.run (tab := tb_rd_takeNewName) rfl 1 (c' := (43, [(0, .ref 77), (1, .ref pL)], [.long (0 : Int64)], M1)) (o := []) rfl trivial ?_
  exact Wn.lret rfl ⟨rfl, hd2, hF4⟩
