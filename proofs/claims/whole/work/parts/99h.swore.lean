/-! Who swore. -/
def trO (σ T : Nat → Nat) (L : Nat) : Prop := ∀ i, 3 * i < L → T (3 * i) < σ 0 ∧ T (3 * i + 1) < σ 1
def tri (σ T : Nat → Nat) (L : Nat) : Prop := (3 ≤ L ∧ L ≤ 18 ∧ L % 3 = 0) ∧ trO σ T L
def exO (σ T : Nat → Nat) (L q : Nat) : Prop := ∀ i, 3 * i < L → ifs σ q (8 * T (3 * i + 1) + T (3 * i)) = T (3 * i + 2)
/-- q may have sworn -/
def swQ (σ T : Nat → Nat) (L q : Nat) : Bool := !fal σ q && (List.range (L / 3)).all (fun i => decide (ifs σ q (8 * T (3 * i + 1) + T (3 * i)) = T (3 * i + 2)))
theorem swQ_iff {σ T : Nat → Nat} {L q : Nat} (h3 : L % 3 = 0) : swQ σ T L q = true ↔ (¬ fal σ q = true ∧ exO σ T L q) := by
  unfold swQ exO
  rw [Bool.and_eq_true, List.all_eq_true]
  constructor
  · rintro ⟨h1, h2⟩
    refine ⟨by cases h : fal σ q <;> simp_all, fun i hi => of_decide_eq_true (h2 i (List.mem_range.mpr (by omega)))⟩
  · rintro ⟨h1, h2⟩
    refine ⟨by cases h : fal σ q <;> simp_all, fun i hi => decide_eq_true (h2 i (by have := List.mem_range.mp hi; omega))⟩
/-- those who may have sworn, of the first n -/
def ssN (σ T : Nat → Nat) (L : Nat) : Nat → Nat
  | 0 => 0
  | n + 1 => ssN σ T L n + (if swQ σ T L n = true then 2 ^ n else 0)
theorem ssN_lt (σ T : Nat → Nat) (L : Nat) : ∀ n, ssN σ T L n < 2 ^ n
  | 0 => by show 0 < 2 ^ 0; decide
  | n + 1 => by
    have h := ssN_lt σ T L n
    unfold ssN
    rw [Nat.pow_succ]
    split <;> omega
/-- how many of the set would leave v on c -/
def cnA (σ : Nat → Nat) (st c v : Nat) : Nat → Nat
  | 0 => 0
  | n + 1 => cnA σ st c v n + (if st.testBit n = true ∧ ifs σ n c = v then 1 else 0)
theorem cnA_le (σ : Nat → Nat) (st c v : Nat) : ∀ n, cnA σ st c v n ≤ n
  | 0 => Nat.le_refl _
  | n + 1 => by have := cnA_le σ st c v n; unfold cnA; split <;> omega
theorem cnA_pos {σ : Nat → Nat} {st c v : Nat} : ∀ {n : Nat}, 0 < cnA σ st c v n → ∃ q, q < n ∧ st.testBit q = true ∧ ifs σ q c = v
  | 0, h => absurd h (Nat.lt_irrefl 0)
  | n + 1, h => by
    unfold cnA at h
    by_cases k : st.testBit n = true ∧ ifs σ n c = v
    · exact ⟨n, by omega, k⟩
    · rw [if_neg k] at h
      obtain ⟨q, h1, h2⟩ := cnA_pos (n := n) h
      exact ⟨q, by omega, h2⟩
def alA (σ : Nat → Nat) (st c p n : Nat) : Nat := if st.testBit p = true then cnA σ st c (ifs σ p c) n else 0
def mxA (σ : Nat → Nat) (st c m : Nat) : Nat → Nat
  | 0 => 0
  | p + 1 => if mxA σ st c m p < alA σ st c p m then alA σ st c p m else mxA σ st c m p
def mxV (σ : Nat → Nat) (st c m : Nat) : Nat → Nat
  | 0 => 0
  | v + 1 => if mxV σ st c m v < cnA σ st c v m then cnA σ st c v m else mxV σ st c m v
theorem mxA_ge {σ : Nat → Nat} {st c m : Nat} : ∀ {n p : Nat}, p < n → alA σ st c p m ≤ mxA σ st c m n
  | 0, p, h => absurd h (Nat.not_lt_zero _)
  | n + 1, p, h => by
    unfold mxA
    by_cases e : p = n
    · subst e; split <;> omega
    · have ih := mxA_ge (σ := σ) (st := st) (c := c) (m := m) (n := n) (p := p) (by omega)
      split <;> omega
theorem mxA_le {σ : Nat → Nat} {st c m X : Nat} : ∀ {n : Nat}, (∀ p, p < n → alA σ st c p m ≤ X) → mxA σ st c m n ≤ X
  | 0, _ => Nat.zero_le _
  | n + 1, h => by
    unfold mxA
    have ih := mxA_le (σ := σ) (st := st) (c := c) (m := m) (X := X) (n := n) (fun p hp => h p (by omega))
    have h1 := h n (by omega)
    split <;> omega
theorem mxV_ge {σ : Nat → Nat} {st c m : Nat} : ∀ {n v : Nat}, v < n → cnA σ st c v m ≤ mxV σ st c m n
  | 0, v, h => absurd h (Nat.not_lt_zero _)
  | n + 1, v, h => by
    unfold mxV
    by_cases e : v = n
    · subst e; split <;> omega
    · have ih := mxV_ge (σ := σ) (st := st) (c := c) (m := m) (n := n) (v := v) (by omega)
      split <;> omega
theorem mxV_le {σ : Nat → Nat} {st c m X : Nat} : ∀ {n : Nat}, (∀ v, v < n → cnA σ st c v m ≤ X) → mxV σ st c m n ≤ X
  | 0, _ => Nat.zero_le _
  | n + 1, h => by
    unfold mxV
    have ih := mxV_le (σ := σ) (st := st) (c := c) (m := m) (X := X) (n := n) (fun p hp => h p (by omega))
    have h1 := h n (by omega)
    split <;> omega
theorem ifs_9 {σ : Nat → Nat} (hB : Bd σ) (q : Nat) {c : Nat} (hc : c < 64) : ifs σ q c ≤ 9 := by
  have := Bd_c hB c hc
  unfold ifs
  split <;> omega
/-- both count alike -/
theorem mx_eq {σ : Nat → Nat} (hB : Bd σ) {st c m : Nat} (hc : c < 64) : mxA σ st c m m = mxV σ st c m 10 := by
  apply Nat.le_antisymm
  · refine mxA_le (fun p hp => ?_)
    unfold alA
    split
    · exact mxV_ge (by have := ifs_9 hB p hc; omega)
    · exact Nat.zero_le _
  · refine mxV_le (fun v hv => ?_)
    by_cases h : 0 < cnA σ st c v m
    · obtain ⟨q, h1, h2, h3⟩ := cnA_pos h
      have g := mxA_ge (σ := σ) (st := st) (c := c) (m := m) (n := m) h1
      unfold alA at g
      rw [if_pos h2, h3] at g
      exact g
    · omega
/-- the cell to ask for: the first with the least -/
def bqN (σ : Nat → Nat) (st m : Nat) : Nat → Option (Nat × Nat)
  | 0 => none
  | c + 1 => if inL σ c then (match bqN σ st m c with
      | none => some (c, mxA σ st c m m)
      | some (b, l) => if mxA σ st c m m < l then some (c, mxA σ st c m m) else some (b, l)) else bqN σ st m c
theorem alA_le (σ : Nat → Nat) (st c p m : Nat) : alA σ st c p m ≤ m := by unfold alA; split; exact cnA_le _ _ _ _ _; exact Nat.zero_le _
theorem mxA_m (σ : Nat → Nat) (st c m : Nat) : mxA σ st c m m ≤ m := mxA_le (fun p _ => alA_le σ st c p m)
theorem bqN_lt {σ : Nat → Nat} {st m : Nat} : ∀ {n b l : Nat}, bqN σ st m n = some (b, l) → b < n ∧ l ≤ m
  | 0, b, l, h => by cases h
  | n + 1, b, l, h => by
    have mm := mxA_m σ st n m
    unfold bqN at h
    by_cases c : inL σ n
    · rw [if_pos c] at h
      cases hq : bqN σ st m n with
      | none => rw [hq] at h; cases h; exact ⟨by omega, mm⟩
      | some v =>
        obtain ⟨b2, l2⟩ := v
        rw [hq] at h; dsimp only at h
        have ih := bqN_lt hq
        by_cases c2 : mxA σ st n m m < l2
        · rw [if_pos c2] at h; cases h; exact ⟨by omega, mm⟩
        · rw [if_neg c2] at h; cases h; exact ⟨by omega, ih.2⟩
    · rw [if_neg c] at h
      have ih := bqN_lt h
      exact ⟨by omega, ih.2⟩
theorem bqN_some {σ : Nat → Nat} {st m : Nat} (hB : Bd σ) : ∀ n, 0 < n → ∃ b l, bqN σ st m n = some (b, l)
  | 0, h => absurd h (Nat.lt_irrefl 0)
  | n + 1, _ => by
    unfold bqN
    by_cases c : inL σ n
    · rw [if_pos c]
      cases hq : bqN σ st m n with
      | none => exact ⟨_, _, rfl⟩
      | some v => obtain ⟨b2, l2⟩ := v; dsimp only; split; exact ⟨_, _, rfl⟩; exact ⟨_, _, rfl⟩
    · rw [if_neg c]
      by_cases h0 : n = 0
      · exfalso; subst h0; exact c ⟨by have := hB.1; omega, by have := hB.2.2.1; omega⟩
      · exact bqN_some hB n (by omega)
theorem n_mod3 (a : Nat) (h : a < 2 ^ 31) : (nI a) - (nI a) / (nI 3) * (nI 3) = nI (a % 3) := by
  rw [n_div (a := a) (b := 3) rfl rfl h (by decide) (by decide), pk_mul, n_sub rfl rfl (show a / 3 * 3 ≤ a by omega)]
  congr 1
  omega
set_option maxRecDepth 20000 in
theorem w_i_areTriples (d : Nat) (M : Mm) (σ : Nat → Nat) (hS : StC M 6 σ) (hB : Bd σ) (T : Nat → Nat) (L : Nat) (hT : TB (M.1 1) T L) (hL : L ≤ 940) (Q : Po) (hy : tri σ T L → Q (some (.int (nI 1))) M) (hn : ¬ tri σ T L → Q (some (.int (nI 0))) M) : Wn (d + 1) 28 Q (0, lv_args 0 [.ref 0, .int (nI L)], [], M) := by
  have w8 := hB.1
  have w9 := hB.2.1
  have h8 := hB.2.2.1
  have h9 := hB.2.2.2.1
  have z17 : ¬ (3 ≤ L ∧ L ≤ 18 ∧ L % 3 = 0) → Wn (d + 1) 28 Q (17, [(0, .ref 0), (1, .int (nI L))], [], M) := by
    intro c
    refine Wn.run (tab := tb_i_areTriples) rfl 1 (c' := (18, [(0, .ref 0), (1, .int (nI L))], [.int (nI 0)], M)) (o := []) rfl trivial ?_
    exact Wn.zret rfl (Or.inl rfl) (hn (fun q => c q.1))
  refine Wn.run (tab := tb_i_areTriples) rfl 3 (c' := (if (nI L) < (nI 3) then 17 else 5, [(0, .ref 0), (1, .int (nI L))], [], M)) (o := []) rfl trivial ?_
  by_cases c1 : L < 3
  · rw [if_pos ((n_lt rfl rfl (by omega) (by omega)).mpr c1)]; exact z17 (by omega)
  rw [if_neg (mt (n_lt rfl rfl (by omega) (by omega)).mp c1)]
  refine Wn.run (tab := tb_i_areTriples) rfl 3 (c' := (if (nI 18) < (nI L) then 17 else 11, [(0, .ref 0), (1, .int (nI L))], [], M)) (o := []) rfl trivial ?_
  by_cases c2 : 18 < L
  · rw [if_pos ((n_lt rfl rfl (by omega) (by omega)).mpr c2)]; exact z17 (by omega)
  rw [if_neg (mt (n_lt rfl rfl (by omega) (by omega)).mp c2)]
  refine Wn.run (tab := tb_i_areTriples) rfl 4 (c' := (if ((nI L) - (nI L) / (nI 3) * (nI 3)) = 0 then 19 else 17, [(0, .ref 0), (1, .int (nI L))], [], M)) (o := [¬ (nI 3) = 0]) rfl (show ¬ (nI 3) = 0 by decide) ?_
  rw [show ((nI L) - (nI L) / (nI 3) * (nI 3)) = nI (L % 3) from n_mod3 L (by omega)]
  by_cases c3 : L % 3 = 0
  · rw [if_pos ((n_eq rfl nI_0.symm (by omega) (by omega)).mpr c3)]
    refine Wn.run (tab := tb_i_areTriples) rfl 2 (c' := (21, [(2, .int (nI 0)), (0, .ref 0), (1, .int (nI L))], [], M)) (o := []) rfl trivial ?_
    have loop : ∀ (m z : Nat), L - z = m → z ≤ L → z % 3 = 0 → (∀ i, 3 * i < z → T (3 * i) < σ 0 ∧ T (3 * i + 1) < σ 1) → Wn (d + 1) 28 Q (21, [(2, .int (nI z)), (0, .ref 0), (1, .int (nI L))], [], M) := by
      intro m
      induction m using Nat.strongRecOn with
      | _ m ih =>
        intro z hm hz z3 hall
        refine Wn.run (tab := tb_i_areTriples) rfl 5 (c' := (if (nI L) ≤ ((nI z) + (nI 2)) then 63 else 28, [(2, .int (nI z)), (0, .ref 0), (1, .int (nI L))], [], M)) (o := []) rfl trivial ?_
        rw [nI_add]
        by_cases ce : L ≤ z
        · rw [if_pos ((n_le rfl rfl (by omega) (by omega)).mpr (by omega))]
          refine Wn.run (tab := tb_i_areTriples) rfl 1 (c' := (64, [(2, .int (nI z)), (0, .ref 0), (1, .int (nI L))], [.int (nI 1)], M)) (o := []) rfl trivial ?_
          exact Wn.zret rfl (Or.inr rfl) (hy ⟨by omega, fun i hi => hall i (by omega)⟩)
        · rw [if_neg (mt (n_le rfl rfl (by omega) (by omega)).mp (show ¬ L ≤ z + 2 by omega))]
          have t0 := hT z (by omega)
          have t1 := hT (z + 1) (by omega)
          refine Wn.run (tab := tb_i_areTriples) rfl 13 (c' := (49, [(2, .int (nI z)), (0, .ref 0), (1, .int (nI L))], [.int (M.1 1 (((nI z) + (nI 1))).toNatClampNeg), .int (M.1 1 ((nI z)).toNatClampNeg), .ref 3], M)) (o := [shp 0 = (0, 9), shp 2 = (0, 8), shp 0 = (0, 9), aok shp 1 0 (nI z), shp 0 = (0, 9), aok shp 1 0 ((nI z) + (nI 1))]) rfl ⟨rfl, rfl, rfl, (ak1 (n := 940) rfl rfl rfl (by omega)), rfl, (ak1 (n := 940) rfl rfl (nI_add _ _) (by omega))⟩ ?_
          rw [show M.1 1 ((nI z)).toNatClampNeg = nI (T z) from by rw [nI_clamp (by omega)]; exact t0.1, show M.1 1 (((nI z) + (nI 1))).toNatClampNeg = nI (T (z + 1)) from by rw [nI_add, nI_clamp (by omega)]; exact t1.1]
          refine Wn.callV (p := 3) (n := 3) (ix := 173) (ci := (2)) (fun r0 M0 => r0 = some (.int (b2 (0 ≤ (nI (T z)).toInt ∧ (nI (T z)).toInt < (σ 0 : Int) ∧ 0 ≤ (nI (T (z + 1))).toInt ∧ (nI (T (z + 1))).toInt < (σ 1 : Int)))) ∧ M = M0) [.int (nI (T z)), .int (nI (T (z + 1)))] [] rfl rfl rfl rfl (Nat.le_of_ble_eq_true rfl) (Nat.le_of_ble_eq_true rfl) (w_lk_isCell _ M 3 σ hS.2.1 hB _ _ _ ⟨rfl, rfl⟩) ?_
          rintro _ _ ⟨rfl, rfl⟩
          show Wn _ 28 _ (52, [(2, .int (nI z)), (0, .ref 0), (1, .int (nI L))], [.int (b2 (0 ≤ (nI (T z)).toInt ∧ (nI (T z)).toInt < (σ 0 : Int) ∧ 0 ≤ (nI (T (z + 1))).toInt ∧ (nI (T (z + 1))).toInt < (σ 1 : Int)))], M)
          refine Wn.run (tab := tb_i_areTriples) rfl 1 (c' := (if ¬ (b2 (0 ≤ (nI (T z)).toInt ∧ (nI (T z)).toInt < (σ 0 : Int) ∧ 0 ≤ (nI (T (z + 1))).toInt ∧ (nI (T (z + 1))).toInt < (σ 1 : Int))) = 0 then 57 else 55, [(2, .int (nI z)), (0, .ref 0), (1, .int (nI L))], [], M)) (o := []) rfl trivial ?_
          have i0 : (nI (T z)).toInt = (T z : Int) := nI_toInt (by omega)
          have i1 : (nI (T (z + 1))).toInt = (T (z + 1) : Int) := nI_toInt (by omega)
          by_cases cc : T z < σ 0 ∧ T (z + 1) < σ 1
          · rw [if_pos (b2_n0.mpr (by rw [i0, i1]; omega))]
            refine Wn.run (tab := tb_i_areTriples) rfl 2 (c' := (21, [(2, .int ((nI z) + (nI 3))), (0, .ref 0), (1, .int (nI L))], [], M)) (o := []) rfl trivial ?_
            rw [nI_add]
            refine ih (L - (z + 3)) (by omega) (z + 3) rfl (by omega) (by omega) (fun i hi => ?_)
            by_cases ei : 3 * i < z
            · exact hall i ei
            · have : 3 * i = z := by omega
              rw [this]; exact cc
          · rw [if_neg (fun q => q (b2_e0.mpr (by rw [i0, i1]; omega)))]
            refine Wn.run (tab := tb_i_areTriples) rfl 1 (c' := (56, [(2, .int (nI z)), (0, .ref 0), (1, .int (nI L))], [.int (nI 0)], M)) (o := []) rfl trivial ?_
            refine Wn.zret rfl (Or.inl rfl) (hn (fun q => cc ?_))
            have := q.2 (z / 3) (by omega)
            rw [show 3 * (z / 3) = z by omega] at this
            exact this
    exact loop L 0 rfl (by omega) rfl (fun i hi => absurd hi (by omega))
  · rw [if_neg (mt (n_eq rfl nI_0.symm (by omega) (by omega)).mp c3)]
    exact z17 (by omega)
set_option maxRecDepth 20000 in
theorem w_i_explains (d : Nat) (M : Mm) (σ : Nat → Nat) (hS : StC M 6 σ) (hB : Bd σ) (T : Nat → Nat) (L : Nat) (hT : TB (M.1 1) T L) (hL : L ≤ 940) (h3 : L % 3 = 0) (ht : trO σ T L) (q : Nat) (hq : q < σ 2) (Q : Po) (hy : exO σ T L q → Q (some (.int (nI 1))) M) (hn : ¬ exO σ T L q → Q (some (.int (nI 0))) M) : Wn (d + 2) 29 Q (0, lv_args 0 [.ref 0, .int (nI q), .int (nI L)], [], M) := by
  have w9 := hB.2.1
  have h9 := hB.2.2.2.1
  refine Wn.run (tab := tb_i_explains) rfl 2 (c' := (2, [(3, .int (nI 0)), (0, .ref 0), (1, .int (nI q)), (2, .int (nI L))], [], M)) (o := []) rfl trivial ?_
  have loop : ∀ (m z : Nat) (w4 : Lv), (w4 = [] ∨ ∃ v, w4 = [(4, .int v)]) → L - z = m → z ≤ L → z % 3 = 0 → (∀ i, 3 * i < z → ifs σ q (8 * T (3 * i + 1) + T (3 * i)) = T (3 * i + 2)) → Wn (d + 2) 29 Q (2, [(3, .int (nI z)), (0, .ref 0), (1, .int (nI q)), (2, .int (nI L))], [], M) := by
    intro m
    induction m using Nat.strongRecOn with
    | _ m ih =>
      intro z w4 hw4 hm hz z3 hall
      refine Wn.run (tab := tb_i_explains) rfl 5 (c' := (if (nI L) ≤ ((nI z) + (nI 2)) then 61 else 9, [(3, .int (nI z)), (0, .ref 0), (1, .int (nI q)), (2, .int (nI L))], [], M)) (o := []) rfl trivial ?_
      rw [nI_add]
      by_cases ce : L ≤ z
      · rw [if_pos ((n_le rfl rfl (by omega) (by omega)).mpr (by omega))]
        refine Wn.run (tab := tb_i_explains) rfl 1 (c' := (62, [(3, .int (nI z)), (0, .ref 0), (1, .int (nI q)), (2, .int (nI L))], [.int (nI 1)], M)) (o := []) rfl trivial ?_
        exact Wn.zret rfl (Or.inr rfl) (hy (fun i hi => hall i (by omega)))
      · rw [if_neg (mt (n_le rfl rfl (by omega) (by omega)).mp (show ¬ L ≤ z + 2 by omega))]
        have t0 := hT z (by omega)
        have t1 := hT (z + 1) (by omega)
        have t2 := hT (z + 2) (by omega)
        have tc := ht (z / 3) (by omega)
        rw [show 3 * (z / 3) = z by omega] at tc
        refine Wn.run (tab := tb_i_explains) rfl 14 (c' := (29, [(4, .int (((nI 8) * (M.1 1 (((nI z) + (nI 1))).toNatClampNeg)) + (M.1 1 ((nI z)).toNatClampNeg))), (3, .int (nI z)), (0, .ref 0), (1, .int (nI q)), (2, .int (nI L))], [], M)) (o := [shp 0 = (0, 9), aok shp 1 0 ((nI z) + (nI 1)), shp 0 = (0, 9), aok shp 1 0 (nI z)]) rfl ⟨rfl, (ak1 (n := 940) rfl rfl (nI_add _ _) (by omega)), rfl, (ak1 (n := 940) rfl rfl rfl (by omega))⟩ ?_
        rw [show M.1 1 ((nI z)).toNatClampNeg = nI (T z) from by rw [nI_clamp (by omega)]; exact t0.1, show M.1 1 (((nI z) + (nI 1))).toNatClampNeg = nI (T (z + 1)) from by rw [nI_add, nI_clamp (by omega)]; exact t1.1, show ((nI 8) * (nI (T (z + 1)))) + (nI (T z)) = nI (8 * T (z + 1) + T z) from by rw [pk_mul, nI_add]]
        refine Wn.run (tab := tb_i_explains) rfl 5 (c' := (39, [(4, .int (nI (8 * T (z + 1) + T z))), (3, .int (nI z)), (0, .ref 0), (1, .int (nI q)), (2, .int (nI L))], [.int (nI (8 * T (z + 1) + T z)), .int (nI q), .ref 6], M)) (o := [shp 0 = (0, 9), shp 2 = (0, 8)]) rfl ⟨rfl, rfl⟩ ?_
        refine Wn.callV (p := 6) (n := 3) (ix := 333) (ci := (5)) (fun r0 M0 => r0 = some (.int (nI (ifs σ q (8 * T (z + 1) + T z)))) ∧ M = M0) [.int (nI q), .int (nI (8 * T (z + 1) + T z))] [] rfl rfl rfl rfl (Nat.le_of_ble_eq_true rfl) (Nat.le_of_ble_eq_true rfl) (w_st_iceIfSworn d M 6 σ hS hB q (8 * T (z + 1) + T z) hq (by omega) ⟨by omega, by omega⟩ _ ⟨rfl, rfl⟩) ?_
        rintro _ _ ⟨rfl, rfl⟩
        show Wn _ 29 _ (42, [(4, .int (nI (8 * T (z + 1) + T z))), (3, .int (nI z)), (0, .ref 0), (1, .int (nI q)), (2, .int (nI L))], [.int (nI (ifs σ q (8 * T (z + 1) + T z)))], M)
        refine Wn.run (tab := tb_i_explains) rfl 7 (c' := (if (nI (ifs σ q (8 * T (z + 1) + T z))) = (M.1 1 (((nI z) + (nI 2))).toNatClampNeg) then 55 else 53, [(4, .int (nI (8 * T (z + 1) + T z))), (3, .int (nI z)), (0, .ref 0), (1, .int (nI q)), (2, .int (nI L))], [], M)) (o := [shp 0 = (0, 9), aok shp 1 0 ((nI z) + (nI 2))]) rfl ⟨rfl, (ak1 (n := 940) rfl rfl (nI_add _ _) (by omega))⟩ ?_
        have i9 := ifs_9 hB q (c := 8 * T (z + 1) + T z) (by omega)
        rw [show M.1 1 (((nI z) + (nI 2))).toNatClampNeg = nI (T (z + 2)) from by rw [nI_add, nI_clamp (by omega)]; exact t2.1]
        by_cases cc : ifs σ q (8 * T (z + 1) + T z) = T (z + 2)
        · rw [if_pos ((n_eq rfl rfl (by omega) (by omega)).mpr cc)]
          refine Wn.run (tab := tb_i_explains) rfl 2 (c' := (2, [(3, .int ((nI z) + (nI 3))), (4, .int (nI (8 * T (z + 1) + T z))), (0, .ref 0), (1, .int (nI q)), (2, .int (nI L))], [], M)) (o := []) rfl trivial ?_
          rw [nI_add]
          refine Wn.lvp [0, 2, 3, 4] (lv' := [(3, .int (nI (z + 3))), (0, .ref 0), (1, .int (nI q)), (2, .int (nI L))]) rfl ?_
          refine ih (L - (z + 3)) (by omega) (z + 3) [] (Or.inl rfl) rfl (by omega) (by omega) (fun i hi => ?_)
          by_cases ei : 3 * i < z
          · exact hall i ei
          · have : 3 * i = z := by omega
            rw [this]; exact cc
        · rw [if_neg (mt (n_eq rfl rfl (by omega) (by omega)).mp cc)]
          refine Wn.run (tab := tb_i_explains) rfl 1 (c' := (54, [(4, .int (nI (8 * T (z + 1) + T z))), (3, .int (nI z)), (0, .ref 0), (1, .int (nI q)), (2, .int (nI L))], [.int (nI 0)], M)) (o := []) rfl trivial ?_
          refine Wn.zret rfl (Or.inl rfl) (hn (fun q9 => cc ?_))
          have := q9 (z / 3) (by omega)
          rw [show 3 * (z / 3) = z by omega] at this
          exact this
  exact loop L 0 [] (Or.inl rfl) rfl (by omega) rfl (fun i hi => absurd hi (by omega))
