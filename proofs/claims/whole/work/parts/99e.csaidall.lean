/-! Said, by the class. -/
theorem wv_not {b : Bool} {r : List Bool} : nI (wvS (b :: r)) ^^^ nI 1 = nI (wvS ((!b) :: r)) := by
  rw [nI_xorN]
  show nI (2 * wvS r + bnB b ^^^ 1) = nI (2 * wvS r + bnB (!b))
  rw [xor1 (bnB_lt b)]
  cases b <;> rfl
theorem wv_last {b : Bool} {r : List Bool} : nI (wvS (b :: r)) &&& nI 1 = nI (bnB b) := by
  rw [nI_andN]
  show nI ((2 * wvS r + bnB b) &&& 1) = _
  rw [and1 (bnB_lt b)]
theorem wv_half {b : Bool} {r : List Bool} (h : wvS (b :: r) < 2 ^ 31) : ((nI (wvS (b :: r))).toUInt32 >>> ((nI 1).toUInt32 &&& Int32.toUInt32 31)).toInt32 = nI (wvS r) := by
  rw [shr1 h]
  have hb := bnB_lt b
  show nI ((2 * wvS r + bnB b) / 2) = _
  rw [show (2 * wvS r + bnB b) / 2 = wvS r by omega]
theorem wv_and {b c : Bool} {r : List Bool} : nI (wvS (c :: r)) &&& ((-2 : Int32) ||| nI (bnB b)) = nI (wvS ((c && b) :: r)) := by
  cases b with
  | false =>
    rw [show bnB false = 0 from rfl, or_m2.1, Bool.and_false]
    exact and_m2 (bnB_lt c)
  | true =>
    rw [show bnB true = 1 from rfl, or_m2.2, and_m1, Bool.and_true]
theorem wv_or {b c : Bool} {r : List Bool} : nI (wvS (c :: r)) ||| nI (bnB b) = nI (wvS ((c || b) :: r)) := by
  rw [nI_orN]
  show nI (2 * wvS r + bnB c ||| bnB b) = nI (2 * wvS r + bnB (c || b))
  rw [or1 (bnB_lt c) (bnB_lt b)]
  cases b <;> cases c <;> rfl
theorem wv_leaf {t : Bool} {l : List Bool} : (nI (wvS l) <<< (nI 1 &&& 31)) ||| nI (bnB t) = nI (wvS (t :: l)) := by
  rw [shl1, nI_orN, or2 (bnB_lt t)]
  rfl
theorem wv_20 {l : List Bool} (h : l.length ≤ 20) : wvS l < 2 ^ 31 := by
  have h1 := wvS_lt l
  have h2 := Nat.pow_le_pow_right (show 0 < 2 by decide) h
  omega
theorem ho_sw : ∀ c, c < 36 → lsw 98 [16, 68, 26, 75, 27, 88] (Int32.ofInt (([0, 0, 0, 0, 0, 0, 0, 0, 17, 0, 5, 6, 7, 8, 9, 10, 11, 1, 2, 3, 4, 13, 14, 15, 12, 27, 26, 16, 18, 19, 20, 21, 22, 23, 24, 25] : List Int).getD ((nI c)).toNatClampNeg 0)) = if c = 27 then 68 else if c = 26 then 75 else if c = 25 then 88 else 98 := by decide +kernel
set_option maxRecDepth 20000 in
theorem w_sn_holdsOf (d : Nat) (M : Mm) (σ : Nat → Nat) (hS : StC M 6 σ) (hB : Bd σ) (hI : Inl σ) (n : Nat) (A S U : Nat → Nat) (hP : SnC M 11 n A S U) (hV : SenV (σ 2) n A S U) (hn0 : 0 < n) (q : Nat) (hq : q < σ 2) (Q : Po) (hQ : Q (some (.int (nI (bnB (sdB σ n A S U q))))) M) : Wn (d + 4) 194 Q (0, lv_args 0 [.ref 11, .int (nI q), .ref 6], [], M) := by
  have n9 := hV.1
  have b6 := Bd_2 hB
  have ln : ∀ i, i ≤ n → (evS σ q A S U i).length = hgS A i := fun i hi => evS_len i (fun k hk => (hV.2.1 k (by omega)).1)
  have l20 : ∀ i, i ≤ n → (evS σ q A S U i).length ≤ 20 := fun i hi => by rw [ln i hi]; exact SenV_h hV hi hn0
  refine Wn.run (tab := tb_sn_holdsOf) rfl 4 (c' := (5, [(4, .int (nI 0)), (3, .int (nI 0)), (0, .ref 11), (1, .int (nI q)), (2, .ref 6)], [], M)) (o := []) rfl trivial ?_
  have loop : ∀ (m i : Nat), n - i = m → i ≤ n → Wn (d + 4) 194 Q (5, [(4, .int (nI i)), (3, .int (nI (wvS (evS σ q A S U i)))), (0, .ref 11), (1, .int (nI q)), (2, .ref 6)], [], M) := by
    intro m
    induction m using Nat.strongRecOn with
    | _ m ih =>
      intro i hm hi
      refine Wn.run (tab := tb_sn_holdsOf) rfl 4 (c' := (if (M.1 11 3) ≤ (nI i) then 125 else 14, [(4, .int (nI i)), (3, .int (nI (wvS (evS σ q A S U i)))), (0, .ref 11), (1, .int (nI q)), (2, .ref 6)], [], M)) (o := [shp 11 = (0, 4)]) rfl rfl ?_
      rw [hP.1]
      by_cases hin : n ≤ i
      · rw [if_pos ((n_le rfl rfl (by omega) (by omega)).mpr hin)]
        have ei : i = n := by omega
        subst ei
        have le := ln i (Nat.le_refl _)
        rw [hV.2.2 hn0] at le
        refine Wn.run (tab := tb_sn_holdsOf) rfl 4 (c' := (if ((nI (wvS (evS σ q A S U i))) &&& (nI 1)) = 0 then 135 else 131, [(4, .int (nI i)), (3, .int (nI (wvS (evS σ q A S U i)))), (0, .ref 11), (1, .int (nI q)), (2, .ref 6)], [], M)) (o := []) rfl trivial ?_
        unfold sdB at hQ
        generalize evS σ q A S U i = l at *
        match l, le with
        | [b], _ =>
          rw [wv_last]
          cases b with
          | true =>
            rw [if_neg (show ¬ nI (bnB true) = 0 by decide)]
            refine Wn.run (tab := tb_sn_holdsOf) rfl 2 (c' := (136, [(4, .int (nI i)), (3, .int (nI (wvS [true]))), (0, .ref 11), (1, .int (nI q)), (2, .ref 6)], [.int (nI 1)], M)) (o := []) rfl trivial ?_
            exact Wn.zret rfl (Or.inr rfl) hQ
          | false =>
            rw [if_pos (show nI (bnB false) = 0 by decide)]
            refine Wn.run (tab := tb_sn_holdsOf) rfl 1 (c' := (136, [(4, .int (nI i)), (3, .int (nI (wvS [false]))), (0, .ref 11), (1, .int (nI q)), (2, .ref 6)], [.int (nI 0)], M)) (o := []) rfl trivial ?_
            exact Wn.zret rfl (Or.inl rfl) hQ
      · rw [if_neg (mt (n_le rfl rfl (by omega) (by omega)).mp hin)]
        have hi9 : i < n := by omega
        obtain ⟨p1, p2, p3, p4, p5⟩ := hP.2.2 i hi9
        have wf := (hV.2.1 i hi9).1
        unfold wfS at wf
        have rA : M.2.2 12 ((nI i)).toNatClampNeg = 100000 + A i := by rw [nI_clamp (by omega)]; exact p1
        have kA : isK (M.2.2 12 ((nI i)).toNatClampNeg) := by rw [rA]; exact ⟨by omega, by omega⟩
        have e1 : evS σ q A S U (i + 1) = stE (A i) (lfB σ q (A i) (S i) (U i)) (evS σ q A S U i) := rfl
        have nx : ∀ w5 : Int32, Wn (d + 4) 194 Q (119, [(3, .int (nI (wvS (evS σ q A S U (i + 1))))), (5, .int w5), (4, .int (nI i)), (0, .ref 11), (1, .int (nI q)), (2, .ref 6)], [], M) := by
          intro w5
          refine Wn.run (tab := tb_sn_holdsOf) rfl 2 (c' := (5, [(4, .int ((nI i) + (nI 1))), (3, .int (nI (wvS (evS σ q A S U (i + 1))))), (5, .int w5), (0, .ref 11), (1, .int (nI q)), (2, .ref 6)], [], M)) (o := []) rfl trivial ?_
          rw [nI_add]
          refine Wn.lvp [0, 1, 3, 4, 5] (lv' := [(4, .int (nI (i + 1))), (3, .int (nI (wvS (evS σ q A S U (i + 1))))), (0, .ref 11), (1, .int (nI q)), (2, .ref 6)]) rfl ?_
          exact ih (n - (i + 1)) (by omega) (i + 1) rfl (by omega)
        rw [e1] at nx
        have le := ln i (by omega)
        have l2 := l20 i (by omega)
        refine Wn.run (tab := tb_sn_holdsOf) rfl 4 (c' := (19, [(5, .int ((nI (wvS (evS σ q A S U i))) &&& (nI 1))), (4, .int (nI i)), (3, .int (nI (wvS (evS σ q A S U i)))), (0, .ref 11), (1, .int (nI q)), (2, .ref 6)], [], M)) (o := []) rfl trivial ?_
        refine Wn.run (tab := tb_sn_holdsOf) rfl 8 (c' := (lsw 98 [16, 68, 26, 75, 27, 88] (Int32.ofInt (([0, 0, 0, 0, 0, 0, 0, 0, 17, 0, 5, 6, 7, 8, 9, 10, 11, 1, 2, 3, 4, 13, 14, 15, 12, 27, 26, 16, 18, 19, 20, 21, 22, 23, 24, 25] : List Int).getD ((nI ((M.2.2 12 ((nI i)).toNatClampNeg) - 100000))).toNatClampNeg 0)), [(5, .int ((nI (wvS (evS σ q A S U i))) &&& (nI 1))), (4, .int (nI i)), (3, .int (nI (wvS (evS σ q A S U i)))), (0, .ref 11), (1, .int (nI q)), (2, .ref 6)], [], M)) (o := [shp 11 = (0, 4), aok shp 12 4 (nI i), isK (M.2.2 12 ((nI i)).toNatClampNeg), ct [.ref 200003] ≤ 8, 200003 = 200003, vp_in (nI ((M.2.2 12 ((nI i)).toNatClampNeg) - 100000)) 36]) rfl ⟨rfl, (ak1 (n := 40) rfl rfl rfl (by omega)), kA, (Nat.le_of_ble_eq_true rfl), rfl, (vp_in_nI (by rw [rA]; omega) (by decide))⟩ ?_
        rw [rA, show 100000 + A i - 100000 = A i by omega, ho_sw (A i) p4]
        have ph : ¬ A i = 25 → ¬ A i = 26 → ¬ A i = 27 → ∀ (Q2 : Po), Q2 (some (.int (nI (bnB (lfB σ q (A i) (S i) (U i)))))) M → Wn (d + 3) 195 Q2 (0, lv_args 0 [.ref 11, .int (nI i), .int (nI q), .ref 6], [], M) := fun h5 h6 h7 Q2 hQ2 => w_sn_partHolds d M σ hS hB hI n A S U hP hV i q hi9 hq h5 h6 h7 Q2 hQ2
        generalize lfB σ q (A i) (S i) (U i) = tt at *
        generalize evS σ q A S U i = l at *
        unfold stE at nx
        by_cases c7 : A i = 27
        · rw [if_pos c7]
          rw [if_pos c7] at nx
          have := wf.1 c7
          match l, le, nx, l2 with
          | [], le, _, _ => simp at le; omega
          | b :: r, _, nx, _ =>
            refine Wn.run (tab := tb_sn_holdsOf) rfl 5 (c' := (119, [(3, .int ((nI (wvS (b :: r))) ^^^ (nI 1))), (5, .int ((nI (wvS (b :: r))) &&& (nI 1))), (4, .int (nI i)), (0, .ref 11), (1, .int (nI q)), (2, .ref 6)], [], M)) (o := []) rfl trivial ?_
            rw [wv_not]
            exact nx _
        rw [if_neg c7] at nx ⊢
        by_cases c6 : A i = 26
        · rw [if_pos c6]
          rw [if_pos c6] at nx
          have := wf.2 (Or.inr c6)
          match l, le, nx, l2 with
          | [], le, _, _ => simp at le; omega
          | [_], le, _, _ => simp at le; omega
          | b :: c :: r, _, nx, l2 =>
            refine Wn.run (tab := tb_sn_holdsOf) rfl 9 (c' := (119, [(3, .int ((((nI (wvS (b :: c :: r)))).toUInt32 >>> (((nI 1)).toUInt32 &&& Int32.toUInt32 31)).toInt32 &&& ((-2 : Int32) ||| ((nI (wvS (b :: c :: r))) &&& (nI 1))))), (5, .int ((nI (wvS (b :: c :: r))) &&& (nI 1))), (4, .int (nI i)), (0, .ref 11), (1, .int (nI q)), (2, .ref 6)], [], M)) (o := []) rfl trivial ?_
            rw [wv_last] at *
            rw [wv_half (wv_20 l2), wv_and]
            exact nx _
        rw [if_neg c6] at nx ⊢
        by_cases c5 : A i = 25
        · rw [if_pos c5]
          rw [if_pos c5] at nx
          have := wf.2 (Or.inl c5)
          match l, le, nx, l2 with
          | [], le, _, _ => simp at le; omega
          | [_], le, _, _ => simp at le; omega
          | b :: c :: r, _, nx, l2 =>
            refine Wn.run (tab := tb_sn_holdsOf) rfl 7 (c' := (119, [(3, .int ((((nI (wvS (b :: c :: r)))).toUInt32 >>> (((nI 1)).toUInt32 &&& Int32.toUInt32 31)).toInt32 ||| ((nI (wvS (b :: c :: r))) &&& (nI 1)))), (5, .int ((nI (wvS (b :: c :: r))) &&& (nI 1))), (4, .int (nI i)), (0, .ref 11), (1, .int (nI q)), (2, .ref 6)], [], M)) (o := []) rfl trivial ?_
            rw [wv_last]
            rw [wv_half (wv_20 l2), wv_or]
            exact nx _
        rw [if_neg c5] at nx ⊢
        refine Wn.run (tab := tb_sn_holdsOf) rfl 7 (c' := (106, [(5, .int ((nI (wvS l)) &&& (nI 1))), (4, .int (nI i)), (3, .int (nI (wvS l))), (0, .ref 11), (1, .int (nI q)), (2, .ref 6)], [.ref 6, .int (nI q), .int (nI i), .ref 11, .int ((nI (wvS l)) <<< ((nI 1) &&& 31))], M)) (o := []) rfl trivial ?_
        refine Wn.callV (p := 11) (n := 4) (ix := 118) (ci := (4)) (fun r0 M0 => r0 = some (.int (nI (bnB tt))) ∧ M = M0) [.int (nI i), .int (nI q), .ref 6] [.int ((nI (wvS l)) <<< ((nI 1) &&& 31))] rfl rfl rfl rfl (Nat.le_of_ble_eq_true rfl) (Nat.le_of_ble_eq_true rfl) (ph c5 c6 c7 _ ⟨rfl, rfl⟩) ?_
        rintro _ _ ⟨rfl, rfl⟩
        show Wn _ 194 _ (109, [(5, .int ((nI (wvS l)) &&& (nI 1))), (4, .int (nI i)), (3, .int (nI (wvS l))), (0, .ref 11), (1, .int (nI q)), (2, .ref 6)], [.int (nI (bnB tt)), .int ((nI (wvS l)) <<< ((nI 1) &&& 31))], M)
        refine Wn.run (tab := tb_sn_holdsOf) rfl 1 (c' := (if (nI (bnB tt)) = 0 then 116 else 112, [(5, .int ((nI (wvS l)) &&& (nI 1))), (4, .int (nI i)), (3, .int (nI (wvS l))), (0, .ref 11), (1, .int (nI q)), (2, .ref 6)], [.int ((nI (wvS l)) <<< ((nI 1) &&& 31))], M)) (o := []) rfl trivial ?_
        have wl := wv_leaf (t := tt) (l := l)
        cases tt with
        | true =>
          rw [if_neg (show ¬ nI (bnB true) = 0 by decide)]
          refine Wn.run (tab := tb_sn_holdsOf) rfl 4 (c' := (119, [(3, .int (((nI (wvS l)) <<< ((nI 1) &&& 31)) ||| (nI 1))), (5, .int ((nI (wvS l)) &&& (nI 1))), (4, .int (nI i)), (0, .ref 11), (1, .int (nI q)), (2, .ref 6)], [], M)) (o := []) rfl trivial ?_
          rw [show ((nI (wvS l)) <<< ((nI 1) &&& 31)) ||| (nI 1) = nI (wvS (true :: l)) from wl]
          exact nx _
        | false =>
          rw [if_pos (show nI (bnB false) = 0 by decide)]
          refine Wn.run (tab := tb_sn_holdsOf) rfl 3 (c' := (119, [(3, .int (((nI (wvS l)) <<< ((nI 1) &&& 31)) ||| (nI 0))), (5, .int ((nI (wvS l)) &&& (nI 1))), (4, .int (nI i)), (0, .ref 11), (1, .int (nI q)), (2, .ref 6)], [], M)) (o := []) rfl trivial ?_
          rw [show ((nI (wvS l)) <<< ((nI 1) &&& 31)) ||| (nI 0) = nI (wvS (false :: l)) from wl]
          exact nx _
  exact loop n 0 rfl (by omega)
theorem w_sn_isThere (d : Nat) (M : Mm) (n : Nat) (hn : M.1 11 3 = nI n) (h40 : n ≤ 40) (Q : Po) (hQ : Q (some (.int (nI (if 0 < n then 1 else 0)))) M) : Wn (d + 0) 184 Q (0, lv_args 0 [.ref 11], [], M) := by
  refine Wn.run (tab := tb_sn_isThere) rfl 3 (c' := (if (M.1 11 3) ≤ 0 then 11 else 7, [(0, .ref 11)], [], M)) (o := [shp 11 = (0, 4)]) rfl rfl ?_
  rw [hn]
  by_cases c : 0 < n
  · rw [if_neg (mt (n_le rfl nI_0.symm (by omega) (by omega)).mp (by omega))]
    rw [if_pos c] at hQ
    refine Wn.run (tab := tb_sn_isThere) rfl 2 (c' := (12, [(0, .ref 11)], [.int (nI 1)], M)) (o := []) rfl trivial ?_
    exact Wn.zret rfl (Or.inr rfl) hQ
  · rw [if_pos ((n_le rfl nI_0.symm (by omega) (by omega)).mpr (by omega))]
    rw [if_neg c] at hQ
    refine Wn.run (tab := tb_sn_isThere) rfl 1 (c' := (12, [(0, .ref 11)], [.int (nI 0)], M)) (o := []) rfl trivial ?_
    exact Wn.zret rfl (Or.inl rfl) hQ
/-- the answer of said -/
def saidR (σ : Nat → Nat) (n : Nat) (A S U : Nat → Nat) (k : Int32) : Int32 := if n = 0 then -1 else sdR σ n A S U k (σ 2) 0 0
set_option maxRecDepth 20000 in
theorem c_i_said (d : Nat) (M : Mm) (σ : Nat → Nat) (hS : StC M 6 σ) (hB : Bd σ) (hI : Inl σ) (n : Nat) (A S U : Nat → Nat) (hP : SnC M 11 n A S U) (hV : SenV (σ 2) n A S U) (k : Int32) (Q : Po) (hQ : Q (some (.int (saidR σ n A S U k))) M) : Wn (d + 5) 37 Q (0, lv_args 0 [.ref 0, .int k], [], M) := by
  have b6 := Bd_2 hB
  unfold saidR at hQ
  refine Wn.run (tab := tb_i_said) rfl 3 (c' := (7, [(0, .ref 0), (1, .int k)], [.ref 11], M)) (o := [shp 0 = (0, 9), shp 2 = (0, 8)]) rfl ⟨rfl, rfl⟩ ?_
  refine Wn.callV (p := 11) (n := 1) (ix := 407) (ci := (4)) (fun r0 M0 => r0 = some (.int (nI (if 0 < n then 1 else 0))) ∧ M = M0) [] [] rfl rfl rfl rfl (Nat.le_of_ble_eq_true rfl) (Nat.le_of_ble_eq_true rfl) (w_sn_isThere _ M n hP.1 hP.2.1 _ ⟨rfl, rfl⟩) ?_
  rintro _ _ ⟨rfl, rfl⟩
  show Wn _ 37 _ (10, [(0, .ref 0), (1, .int k)], [.int (nI (if 0 < n then 1 else 0))], M)
  refine Wn.run (tab := tb_i_said) rfl 1 (c' := (if ¬ (nI (if 0 < n then 1 else 0)) = 0 then 15 else 13, [(0, .ref 0), (1, .int k)], [], M)) (o := []) rfl trivial ?_
  by_cases c : n = 0
  · rw [if_neg (show ¬ 0 < n by omega), if_neg (show ¬ ¬ nI 0 = 0 by decide)]
    rw [if_pos c] at hQ
    refine Wn.run (tab := tb_i_said) rfl 1 (c' := (14, [(0, .ref 0), (1, .int k)], [.int (-1 : Int32)], M)) (o := []) rfl trivial ?_
    exact Wn.iret rfl hQ
  rw [if_pos (show 0 < n by omega), if_pos (show ¬ nI 1 = 0 by decide)]
  rw [if_neg c] at hQ
  refine Wn.run (tab := tb_i_said) rfl 4 (c' := (19, [(3, .int (nI 0)), (2, .int (nI 0)), (0, .ref 0), (1, .int k)], [], M)) (o := []) rfl trivial ?_
  have loop : ∀ (m i f : Nat), i + m = σ 2 → f ≤ i → Q (some (.int (sdR σ n A S U k m i f))) M → Wn (d + 5) 37 Q (19, [(3, .int (nI i)), (2, .int (nI f)), (0, .ref 0), (1, .int k)], [], M) := by
    intro m
    induction m with
    | zero =>
      intro i f him hf hq9
      unfold sdR at hq9
      refine Wn.run (tab := tb_i_said) rfl 6 (c' := (if (M.1 3 2) ≤ (nI i) then 70 else 33, [(3, .int (nI i)), (2, .int (nI f)), (0, .ref 0), (1, .int k)], [], M)) (o := [shp 0 = (0, 9), shp 2 = (0, 8), shp 3 = (0, 2)]) rfl ⟨rfl, rfl, rfl⟩ ?_
      rw [show M.1 3 2 = nI (σ 2) from hS.2.1.2.2.2.1 2 (by decide), if_pos ((n_le rfl rfl (by omega) (by omega)).mpr (show σ 2 ≤ i by omega))]
      refine Wn.run (tab := tb_i_said) rfl 3 (c' := (if ¬ k = (-1 : Int32) then 79 else 75, [(3, .int (nI i)), (2, .int (nI f)), (0, .ref 0), (1, .int k)], [], M)) (o := []) rfl trivial ?_
      by_cases ck : k = -1
      · rw [if_neg (fun q => q ck)]
        rw [if_pos ck] at hq9
        refine Wn.run (tab := tb_i_said) rfl 2 (c' := (80, [(3, .int (nI i)), (2, .int (nI f)), (0, .ref 0), (1, .int k)], [.int (nI f)], M)) (o := []) rfl trivial ?_
        exact Wn.iret rfl hq9
      · rw [if_pos ck]
        rw [if_neg ck] at hq9
        refine Wn.run (tab := tb_i_said) rfl 1 (c' := (80, [(3, .int (nI i)), (2, .int (nI f)), (0, .ref 0), (1, .int k)], [.int (-1 : Int32)], M)) (o := []) rfl trivial ?_
        exact Wn.iret rfl hq9
    | succ m ih =>
      intro i f him hf hq9
      unfold sdR at hq9
      refine Wn.run (tab := tb_i_said) rfl 6 (c' := (if (M.1 3 2) ≤ (nI i) then 70 else 33, [(3, .int (nI i)), (2, .int (nI f)), (0, .ref 0), (1, .int k)], [], M)) (o := [shp 0 = (0, 9), shp 2 = (0, 8), shp 3 = (0, 2)]) rfl ⟨rfl, rfl, rfl⟩ ?_
      rw [show M.1 3 2 = nI (σ 2) from hS.2.1.2.2.2.1 2 (by decide), if_neg (mt (n_le rfl rfl (by omega) (by omega)).mp (show ¬ σ 2 ≤ i by omega))]
      refine Wn.run (tab := tb_i_said) rfl 7 (c' := (48, [(3, .int (nI i)), (2, .int (nI f)), (0, .ref 0), (1, .int k)], [.ref 6, .int (nI i), .ref 11], M)) (o := [shp 0 = (0, 9), shp 2 = (0, 8), shp 0 = (0, 9), shp 2 = (0, 8)]) rfl ⟨rfl, rfl, rfl, rfl⟩ ?_
      refine Wn.callV (p := 11) (n := 3) (ix := 410) (ci := (4)) (fun r0 M0 => r0 = some (.int (nI (bnB (sdB σ n A S U i)))) ∧ M = M0) [.int (nI i), .ref 6] [] rfl rfl rfl rfl (Nat.le_of_ble_eq_true rfl) (Nat.le_of_ble_eq_true rfl) (w_sn_holdsOf d M σ hS hB hI n A S U hP hV (by omega) i (by omega) _ ⟨rfl, rfl⟩) ?_
      rintro _ _ ⟨rfl, rfl⟩
      show Wn _ 37 _ (51, [(3, .int (nI i)), (2, .int (nI f)), (0, .ref 0), (1, .int k)], [.int (nI (bnB (sdB σ n A S U i)))], M)
      refine Wn.run (tab := tb_i_said) rfl 1 (c' := (if (nI (bnB (sdB σ n A S U i))) = 0 then 64 else 54, [(3, .int (nI i)), (2, .int (nI f)), (0, .ref 0), (1, .int k)], [], M)) (o := []) rfl trivial ?_
      by_cases cs : sdB σ n A S U i = true
      · rw [if_neg (show ¬ nI (bnB (sdB σ n A S U i)) = 0 by rw [cs]; decide)]
        rw [if_pos cs] at hq9
        refine Wn.run (tab := tb_i_said) rfl 3 (c' := (if ¬ (nI f) = k then 61 else 59, [(3, .int (nI i)), (2, .int (nI f)), (0, .ref 0), (1, .int k)], [], M)) (o := []) rfl trivial ?_
        by_cases cf : nI f = k
        · rw [if_neg (fun q => q cf)]
          rw [if_pos cf] at hq9
          refine Wn.run (tab := tb_i_said) rfl 1 (c' := (60, [(3, .int (nI i)), (2, .int (nI f)), (0, .ref 0), (1, .int k)], [.int (nI i)], M)) (o := []) rfl trivial ?_
          exact Wn.iret rfl hq9
        · rw [if_pos cf]
          rw [if_neg cf] at hq9
          refine Wn.run (tab := tb_i_said) rfl 3 (c' := (19, [(3, .int ((nI i) + (nI 1))), (2, .int ((nI f) + (nI 1))), (0, .ref 0), (1, .int k)], [], M)) (o := []) rfl trivial ?_
          rw [nI_add, nI_add]
          exact ih (i + 1) (f + 1) (by omega) (by omega) hq9
      · rw [if_pos (show nI (bnB (sdB σ n A S U i)) = 0 by rw [Bool.not_eq_true _ |>.mp cs]; decide)]
        rw [if_neg cs] at hq9
        refine Wn.run (tab := tb_i_said) rfl 2 (c' := (19, [(3, .int ((nI i) + (nI 1))), (2, .int (nI f)), (0, .ref 0), (1, .int k)], [], M)) (o := []) rfl trivial ?_
        rw [nI_add]
        exact ih (i + 1) f (by omega) (by omega) hq9
  exact loop (σ 2) 0 0 (by omega) (Nat.le_refl _) hQ
