/-- the names of the lake at p -/
def NmC (M : Mm) (p : Nat) (ν : Nat → Int64) (n : Nat) : Prop := ∀ q, q < n → M.2.1 (p + 1) q = ν q
def pcl (ν : Nat → Int64) (w : Int64) (n : Nat) : Option Nat := til (fun q => decide (ν q = w)) n 0
theorem til_lt {P : Nat → Bool} : ∀ n k b, til P n k = some b → k ≤ b ∧ b < k + n
  | 0, _, _, h => by cases h
  | n + 1, k, b, h => by
    unfold til at h
    split at h
    · cases h; omega
    · have := til_lt n (k + 1) b h
      omega
theorem nm_rd {f : Nat → Int64} {ν : Nat → Int64} {n k : Nat} {t : Int32} (h : ∀ q, q < n → f q = ν q) (e : t = nI k) (hk : k < n) (h31 : k < 2 ^ 31) : f t.toNatClampNeg = ν k := by rw [e, nI_clamp h31]; exact h k hk
theorem NmC_fr {L : List Nat} {M M' : Mm} {p n : Nat} {ν : Nat → Int64} (hF : Fr L M M') (hp : ¬ (p + 1) ∈ L) (h : NmC M p ν n) : NmC M' p ν n := fun q hq => by rw [(hF _ hp).2.1]; exact h q hq
set_option maxRecDepth 20000 in
theorem w_lk_personCalled (d : Nat) (M : Mm) (p : Nat) (σ : Nat → Nat) (hL : LkC M p σ) (c9_2 : σ 2 ≤ 6) (ν : Nat → Int64) (hN : NmC M p ν (σ 2)) (w : Int64) (Q : Po) (hQ : Q (some (.int (oI (pcl ν w (σ 2))))) M) : Wn (d + 0) 168 Q (0, lv_args 0 [.ref p, .long w], [], M) := by
  refine Wn.run (tab := tb_lk_personCalled) rfl 2 (c' := (2, [(3, .int (nI 0)), (0, .ref p), (1, .long w)], [], M)) (o := []) rfl trivial ?_
  have loop : ∀ (m : Nat) (z : Nat), σ 2 - z = m → (z ≤ σ 2) → (til (fun q => decide (ν q = w)) (σ 2 - z) z = til (fun q => decide (ν q = w)) (σ 2) 0) → Wn (d + 0) 168 Q (2, [(3, .int (nI z)), (0, .ref p), (1, .long w)], [], M) := by
    intro m
    induction m using Nat.strongRecOn with
    | _ m ih =>
      intro z hm loop_0 loop_1
      refine Wn.run (tab := tb_lk_personCalled) rfl 4 (c' := (if (M.1 p 2) ≤ (nI z) then 29 else 10, [(3, .int (nI z)), (0, .ref p), (1, .long w)], [], M)) (o := [shp p = (0, 2)]) rfl hL.1 ?_
      refine Wn.br (fun h1 => ?_) (fun h1 => ?_)
      · show Wn _ 168 _ (29, [(3, .int (nI z)), (0, .ref p), (1, .long w)], [], M)
        have h1 := (n_le (hL.2.2.2.1 2 (by decide)) rfl (by omega) (by omega)).mp h1
        refine Wn.run (tab := tb_lk_personCalled) rfl 1 (c' := (30, [(3, .int (nI z)), (0, .ref p), (1, .long w)], [.int (-1 : Int32)], M)) (o := []) rfl trivial ?_
        have e9 : pcl ν w (σ 2) = none := by unfold pcl; rw [← loop_1, show σ 2 - z = 0 by omega]; rfl
        exact Wn.iret rfl (by rw [e9] at hQ; exact hQ)
      · show Wn _ 168 _ (10, [(3, .int (nI z)), (0, .ref p), (1, .long w)], [], M)
        have h1 := mt (n_le (hL.2.2.2.1 2 (by decide)) rfl (by omega) (by omega)).mpr h1
        refine Wn.run (tab := tb_lk_personCalled) rfl 7 (c' := (if ¬ (lg_cmp (M.2.1 (p + 1) ((nI z)).toNatClampNeg) w) = 0 then 23 else 21, [(3, .int (nI z)), (0, .ref p), (1, .long w)], [], M)) (o := [shp p = (0, 2), aok shp (p + 1) 3 (nI z)]) rfl ⟨hL.1, (ak2 hL.2.1 rfl (by omega))⟩ ?_
        refine Wn.br (fun h2 => ?_) (fun h2 => ?_)
        · show Wn _ 168 _ (23, [(3, .int (nI z)), (0, .ref p), (1, .long w)], [], M)
          rw [show (M.2.1 (p + 1) ((nI z)).toNatClampNeg) = (ν z) from (nm_rd hN rfl (by omega) (by omega))] at h2
          have h2 : ¬ ν z = w := fun q9 => h2 ((lg_cmp_eq _ _).mpr q9)
          refine Wn.run (tab := tb_lk_personCalled) rfl 2 (c' := (2, [(3, .int ((nI z) + (nI 1))), (0, .ref p), (1, .long w)], [], M)) (o := []) rfl trivial ?_
          rw [show ((nI z) + (nI 1)) = (nI (z + 1)) from (n_add rfl rfl)]
          exact ih _ (by omega) (z + 1) rfl (by omega) (by rw [← loop_1, show σ 2 - z = (σ 2 - (z + 1)) + 1 by omega]; show _ = (if _ then _ else _); rw [if_neg (by simpa using h2)])
        · show Wn _ 168 _ (21, [(3, .int (nI z)), (0, .ref p), (1, .long w)], [], M)
          rw [show (M.2.1 (p + 1) ((nI z)).toNatClampNeg) = (ν z) from (nm_rd hN rfl (by omega) (by omega))] at h2
          have h2 : ν z = w := (lg_cmp_eq _ _).mp (Classical.not_not.mp h2)
          refine Wn.run (tab := tb_lk_personCalled) rfl 1 (c' := (22, [(3, .int (nI z)), (0, .ref p), (1, .long w)], [.int (nI z)], M)) (o := []) rfl trivial ?_
          have e9 : pcl ν w (σ 2) = some z := by unfold pcl; rw [← loop_1, show σ 2 - z = (σ 2 - (z + 1)) + 1 by omega]; unfold til; rw [if_pos (by simpa using h2)]
          exact Wn.iret rfl (by rw [e9] at hQ; exact hQ)
  exact loop _ 0 rfl (by omega) rfl
/-- the class's reader at the token at p, no fault yet -/
def RdL (M : Mm) (T : Nat → Nat) (L mo p ta : Nat) : Prop := RdC M T L mo p ta 0 0 ∧ TB (M.1 1) T L ∧ L ≤ 940 ∧ mo ≤ 940 ∧ p ≤ L
def PLv (M0 : Mm) (T : Nat → Nat) (L mo p ta : Nat) (r : Option Value) : Po := fun r0 M' => r0 = r ∧ RdL M' T L mo p ta ∧ Fr [77] M0 M'
theorem RdL_T {M : Mm} {T : Nat → Nat} {L mo p ta : Nat} (h : RdL M T L mo p ta) : ∀ k, k < L → T k < 256 := fun k hk => (h.2.1 k hk).2
theorem c_rd_adv (d : Nat) (M : Mm) (T : Nat → Nat) (L mo p ta : Nat) (hR : RdL M T L mo p ta) (h0 : ¬ tKd T L mo p = 0) (h36 : ¬ tKd T L mo p = 36) : Wn (d + 1) 176 (PLv M T L mo (tNx T L p) (tAt T L mo p) none) (0, lv_args 0 [.ref 77], [], M) := by
  obtain ⟨⟨q1, q2, q3, q4, q5, q6, q7, q8, q9⟩, hT, hL9, hm9, hp⟩ := hR
  have hx := tNx_le hp h0 h36
  refine Wn.mono (c_rd_advance d M (M.1 77) (M.1 1) T L mo (tNx T L p) (tAt T L mo p) 0 0 rfl q1 q2 (q8 h0 h36) q3 q5 q6 rfl hT hL9 hm9 hx.1) ?_
  rintro r0 M' ⟨rfl, h1, h2⟩
  exact ⟨rfl, ⟨h1, by rw [(h2 1 (by decide)).1]; exact hT, hL9, hm9, hx.1⟩, h2⟩
theorem RdD_fr {K : List Nat} {M M' : Mm} {fk fp : Nat} (hF : Fr K M M') (hp : ¬ 77 ∈ K) (h : RdD M fk fp) : RdD M' fk fp := by
  obtain ⟨e1, e2, e3⟩ := hF 77 hp
  unfold RdD
  rw [e1, e3]
  exact h
theorem RdL_fr {K : List Nat} {M M' : Mm} {T : Nat → Nat} {L mo p ta : Nat} (hF : Fr K M M') (hp : ¬ 77 ∈ K ∧ ¬ 1 ∈ K) (h : RdL M T L mo p ta) : RdL M' T L mo p ta := by
  obtain ⟨e1, e2, e3⟩ := hF 77 hp.1
  obtain ⟨f1, f2, f3⟩ := hF 1 hp.2
  unfold RdL RdC
  rw [e1, e2, e3, f1]
  exact h
set_option maxRecDepth 20000 in
theorem c_rd_take_ok (d : Nat) (M : Mm) (T : Nat → Nat) (L mo p ta : Nat) (hR : RdL M T L mo p ta) (c : Nat) (hc : 0 < c ∧ c < 36) (hk : tKd T L mo p = c) : Wn (d + 2) 178 (PLv M T L mo (tNx T L p) (tAt T L mo p) none) (0, lv_args 0 [.ref 77, .ref (100000 + c)], [], M) := by
  have hF := fr_rf [77] M
  refine Wn.run (tab := tb_rd_take) rfl 1 (c' := (1, [(0, .ref 77), (1, .ref (100000 + c))], [.ref 77], M)) (o := []) rfl trivial ?_
  refine Wn.callV (p := 77) (n := 1) (ix := 88) (ci := (3)) (fun r0 M0 => r0 = some (.int (nI 0)) ∧ M = M0) [] [] rfl rfl rfl rfl (Nat.le_of_ble_eq_true rfl) (Nat.le_of_ble_eq_true rfl) (w_rd_failedL _ M hR.1.2.2.2.2.1 _ ⟨rfl, rfl⟩) ?_
  rintro _ _ ⟨rfl, rfl⟩
  show Wn _ 178 _ (4, [(0, .ref 77), (1, .ref (100000 + c))], [.int (nI 0)], M)
  refine Wn.run (tab := tb_rd_take) rfl 1 (c' := (if (nI 0) = 0 then 8 else 7, [(0, .ref 77), (1, .ref (100000 + c))], [], M)) (o := []) rfl trivial ?_
  rw [if_pos (show (nI 0) = 0 by decide)]
  show Wn _ 178 _ (8, [(0, .ref 77), (1, .ref (100000 + c))], [], M)
  refine Wn.run (tab := tb_rd_take) rfl 4 (c' := (if ((M.2.2 77 10) = (100000 + c)) = (false = true) then 23 else 16, [(0, .ref 77), (1, .ref (100000 + c))], [], M)) (o := [shp 77 = (0, 3), isK (M.2.2 77 10), isK (100000 + c)]) rfl ⟨rfl, (by rw [hR.1.2.2.2.2.2.2.1]; exact isK_kR _ _ _ _), ⟨by omega, by omega⟩⟩ ?_
  rw [if_neg (fun q9 => ac_f.mp q9 (by rw [hR.1.2.2.2.2.2.2.1]; exact (kR_iff (c := c) (by omega) (by omega)).mpr (by omega)))]
  show Wn _ 178 _ (16, [(0, .ref 77), (1, .ref (100000 + c))], [], M)
  refine Wn.run (tab := tb_rd_take) rfl 1 (c' := (17, [(0, .ref 77), (1, .ref (100000 + c))], [.ref 77], M)) (o := []) rfl trivial ?_
  refine Wn.callV (p := 77) (n := 1) (ix := 49) (ci := (3)) (PLv M T L mo (tNx T L p) (tAt T L mo p) none) [] [] rfl rfl rfl rfl (Nat.le_of_ble_eq_true rfl) (Nat.le_of_ble_eq_true rfl) (c_rd_adv _ M T L mo p ta hR (by omega) (by omega)) ?_
  rintro _ M1 ⟨rfl, hq2, hF3⟩
  show Wn _ 178 _ (20, [(0, .ref 77), (1, .ref (100000 + c))], [], M1)
  have hF4 := fr_tr hF hF3 (by decide)
  refine Wn.run (tab := tb_rd_take) rfl 1 (c' := (28, [(0, .ref 77), (1, .ref (100000 + c))], [], M1)) (o := []) rfl trivial ?_
  exact Wn.vret rfl ⟨rfl, hq2, hF4⟩
set_option maxRecDepth 20000 in
theorem c_rd_take_no (d : Nat) (M : Mm) (T : Nat → Nat) (L mo p ta : Nat) (hR : RdL M T L mo p ta) (c : Nat) (hc : 0 < c ∧ c < 36) (hk : ¬ tKd T L mo p = c) : Wn (d + 2) 178 (PFl M 1 (tAt T L mo p) none) (0, lv_args 0 [.ref 77, .ref (100000 + c)], [], M) := by
  have hF := fr_rf [77] M
  refine Wn.run (tab := tb_rd_take) rfl 1 (c' := (1, [(0, .ref 77), (1, .ref (100000 + c))], [.ref 77], M)) (o := []) rfl trivial ?_
  refine Wn.callV (p := 77) (n := 1) (ix := 88) (ci := (3)) (fun r0 M0 => r0 = some (.int (nI 0)) ∧ M = M0) [] [] rfl rfl rfl rfl (Nat.le_of_ble_eq_true rfl) (Nat.le_of_ble_eq_true rfl) (w_rd_failedL _ M hR.1.2.2.2.2.1 _ ⟨rfl, rfl⟩) ?_
  rintro _ _ ⟨rfl, rfl⟩
  show Wn _ 178 _ (4, [(0, .ref 77), (1, .ref (100000 + c))], [.int (nI 0)], M)
  refine Wn.run (tab := tb_rd_take) rfl 1 (c' := (if (nI 0) = 0 then 8 else 7, [(0, .ref 77), (1, .ref (100000 + c))], [], M)) (o := []) rfl trivial ?_
  rw [if_pos (show (nI 0) = 0 by decide)]
  show Wn _ 178 _ (8, [(0, .ref 77), (1, .ref (100000 + c))], [], M)
  refine Wn.run (tab := tb_rd_take) rfl 4 (c' := (if ((M.2.2 77 10) = (100000 + c)) = (false = true) then 23 else 16, [(0, .ref 77), (1, .ref (100000 + c))], [], M)) (o := [shp 77 = (0, 3), isK (M.2.2 77 10), isK (100000 + c)]) rfl ⟨rfl, (by rw [hR.1.2.2.2.2.2.2.1]; exact isK_kR _ _ _ _), ⟨by omega, by omega⟩⟩ ?_
  rw [if_pos (ac_f.mpr (by rw [hR.1.2.2.2.2.2.2.1]; exact mt (kR_iff (c := c) (by omega) (by omega)).mp (by omega)))]
  show Wn _ 178 _ (23, [(0, .ref 77), (1, .ref (100000 + c))], [], M)
  refine Wn.run (tab := tb_rd_take) rfl 2 (c' := (25, [(0, .ref 77), (1, .ref (100000 + c))], [.int (nI 1), .ref 77], M)) (o := []) rfl trivial ?_
  refine Wn.callV (p := 77) (n := 2) (ix := 92) (ci := (3)) (PFl M 1 (tAt T L mo p) none) [.int (nI 1)] [] rfl rfl rfl rfl (Nat.le_of_ble_eq_true rfl) (Nat.le_of_ble_eq_true rfl) (c_rd_fail _ M T L mo p ta hR.1 1 (by omega)) ?_
  rintro _ M1 ⟨rfl, hd2, hF3⟩
  show Wn _ 178 _ (28, [(0, .ref 77), (1, .ref (100000 + c))], [], M1)
  have hF4 := fr_tr hF hF3 (by decide)
  exact Wn.vret rfl ⟨rfl, hd2, hF4⟩
set_option maxRecDepth 20000 in
theorem c_rd_takeD (d : Nat) (M : Mm) (fk fp : Nat) (hR : RdD M fk fp) (c : Nat) : Wn (d + 1) 178 (fun r0 M9 => r0 = none ∧ M9 = M) (0, lv_args 0 [.ref 77, .ref c], [], M) := by
  refine Wn.run (tab := tb_rd_take) rfl 1 (c' := (1, [(0, .ref 77), (1, .ref c)], [.ref 77], M)) (o := []) rfl trivial ?_
  refine Wn.callV (p := 77) (n := 1) (ix := 88) (ci := (3)) (fun r0 M0 => r0 = some (.int (nI 1)) ∧ M = M0) [] [] rfl rfl rfl rfl (Nat.le_of_ble_eq_true rfl) (Nat.le_of_ble_eq_true rfl) (w_rd_failedD _ M fk hR.1 hR.2.2.1 _ ⟨rfl, rfl⟩) ?_
  rintro _ _ ⟨rfl, rfl⟩
  show Wn _ 178 _ (4, [(0, .ref 77), (1, .ref c)], [.int (nI 1)], M)
  refine Wn.run (tab := tb_rd_take) rfl 1 (c' := (if (nI 1) = 0 then 8 else 7, [(0, .ref 77), (1, .ref c)], [], M)) (o := []) rfl trivial ?_
  rw [if_neg (show ¬ ((nI 1) = 0) by decide)]
  show Wn _ 178 _ (7, [(0, .ref 77), (1, .ref c)], [], M)
  exact Wn.vret rfl ⟨rfl, rfl⟩
