/-! Fair; the mean. -/
/-- the best cell of the first n for a fair -/
def frN (σ : Nat → Nat) (L : Nat) : Nat → Option Nat
  | 0 => none
  | c + 1 => if inL σ c ∧ L ≤ σ (96 + c) then (match frN σ L c with | none => some c | some b => if ffN σ c (σ 2) < ffN σ b (σ 2) then some c else some b) else frN σ L c
def frL (σ : Nat → Nat) : Option Nat → Nat → Nat
  | none, x => x
  | some b, _ => ffN σ b (σ 2)
def faiA (σ : Nat → Nat) : Option Nat := frN σ (alN σ (σ 2)) 64
theorem frN_lt (σ : Nat → Nat) (L : Nat) : ∀ n b, frN σ L n = some b → b < n
  | 0, b, h => by cases h
  | n + 1, b, h => by
    unfold frN at h
    split at h
    · split at h
      · cases h; omega
      · rename_i b9 hb9
        have := frN_lt σ L n b9 hb9
        split at h <;> (cases h; omega)
    · have := frN_lt σ L n b h
      omega
theorem frN_no {σ : Nat → Nat} {L c : Nat} (h : ¬ (inL σ c ∧ L ≤ σ (96 + c))) : frN σ L (c + 1) = frN σ L c := by show (if _ then _ else _) = _; rw [if_neg h]
theorem frN_first {σ : Nat → Nat} {L c : Nat} (h : inL σ c ∧ L ≤ σ (96 + c)) (hb : frN σ L c = none) : frN σ L (c + 1) = some c := by show (if _ then _ else _) = _; rw [if_pos h, hb]
theorem frN_yes {σ : Nat → Nat} {L c b : Nat} (h : inL σ c ∧ L ≤ σ (96 + c)) (hb : frN σ L c = some b) (hl : ffN σ c (σ 2) < ffN σ b (σ 2)) : frN σ L (c + 1) = some c := by show (if _ then _ else _) = _; rw [if_pos h, hb]; exact if_pos hl
theorem frN_keep {σ : Nat → Nat} {L c b : Nat} (hb : frN σ L c = some b) (hl : ¬ ffN σ c (σ 2) < ffN σ b (σ 2)) : frN σ L (c + 1) = some b := by
  by_cases h : inL σ c ∧ L ≤ σ (96 + c)
  · show (if _ then _ else _) = _; rw [if_pos h, hb]; exact if_neg hl
  · rw [frN_no h, hb]
theorem ffN_lt {σ : Nat → Nat} (hB : Bd σ) {c : Nat} (hc : c < 64) : ∀ n, n ≤ 6 → ffN σ c n ≤ 16 * n
  | 0, _ => Nat.le_refl 0
  | n + 1, hn => by
    have ih := ffN_lt hB hc n (by omega)
    have f9 := far_lt (σ (160 + n)) c (Bd_q hB n (by omega)).1 hc
    unfold ffN
    split <;> omega
theorem alN_le {σ : Nat → Nat} (hB : Bd σ) : ∀ n, n ≤ 6 → alN σ n ≤ 5 * n
  | 0, _ => Nat.le_refl 0
  | n + 1, hn => by
    have ih := alN_le hB n (by omega)
    have f9 := Bd_q hB n (by omega)
    unfold alN
    split <;> omega
theorem alN_0 {σ : Nat → Nat} (h1 : ∀ q, q < σ 2 → 1 ≤ σ (78 + q)) (c : Nat) : ∀ n, n ≤ σ 2 → alN σ n = 0 → ffN σ c n = 0
  | 0, _, _ => rfl
  | n + 1, hn, h => by
    unfold alN at h
    unfold ffN
    have := h1 n (by omega)
    by_cases hf : fal σ n = true
    · rw [if_pos hf] at h ⊢
      rw [alN_0 h1 c n (by omega) (by omega)]
    · rw [if_neg hf] at h
      omega
theorem frN_0 {σ : Nat → Nat} (hB : Bd σ) (h1 : ∀ q, q < σ 2 → 1 ≤ σ (78 + q)) (h : alN σ (σ 2) = 0) : ∀ n, frN σ 0 (n + 1) = some 0
  | 0 => frN_first ⟨by have := Bd_0 hB; have := Bd_1 hB; unfold inL; omega, Nat.zero_le _⟩ rfl
  | n + 1 => frN_keep (frN_0 hB h1 h n) (by have q1 := alN_0 h1 0 _ (Nat.le_refl _) h; have q2 := alN_0 h1 (n + 1) _ (Nat.le_refl _) h; omega)
set_option maxRecDepth 20000 in
theorem c_i_fair (d : Nat) (M : Mm) (σ : Nat → Nat) (hS : StC M 6 σ) (hV : Inv σ) : Wn (d + 2) 26 (PN M (some (.int (oI (faiA σ))))) (0, lv_args 0 [.ref 0], [], M) := by
  have hB := hV.1
  have hI := hV.2.1
  have c9_2 := Bd_2 hB
  have k90 := Bd_90 hB
  have l6 : lkp 6 = 3 := rfl
  have al9 := alN_le hB (σ 2) c9_2
  refine Wn.run (tab := tb_i_fair) rfl 5 (c' := (9, [(1, .ref 6), (0, .ref 0)], [.ref 6], M)) (o := [shp 0 = (0, 9), shp 2 = (0, 8)]) rfl ⟨rfl, rfl⟩ ?_
  refine Wn.callV (p := 6) (n := 1) (ix := 315) (ci := (5)) (fun r0 M0 => r0 = some (.int (nI (alN σ (σ 2)))) ∧ M = M0) [] [] rfl rfl rfl rfl (Nat.le_of_ble_eq_true rfl) (Nat.le_of_ble_eq_true rfl) (w_st_allLoads _ M 6 σ hS hB  _ ⟨rfl, rfl⟩) ?_
  rintro _ _ ⟨rfl, rfl⟩
  show Wn _ 26 _ (12, [(1, .ref 6), (0, .ref 0)], [.int (nI (alN σ (σ 2)))], M)
  refine Wn.run (tab := tb_i_fair) rfl 7 (c' := (21, [(5, .int (nI 0)), (4, .int (nI 0)), (3, .int (-1 : Int32)), (2, .int (nI (alN σ (σ 2)))), (1, .ref 6), (0, .ref 0)], [], M)) (o := []) rfl trivial ?_
  have loop : ∀ (m c : Nat) (N : Mm), 64 - c = m → c ≤ 64 → (StC N 6 σ) → (N = M) → Wn (d + 2) 26 (PN M (some (.int (oI (faiA σ))))) (21, [(5, .int (nI c)), (4, .int (nI (frL σ (frN σ (alN σ (σ 2)) c) 0))), (3, .int (oI (frN σ (alN σ (σ 2)) c))), (2, .int (nI (alN σ (σ 2)))), (1, .ref 6), (0, .ref 0)], [], N) := by
    intro m
    induction m using Nat.strongRecOn with
    | _ m ih =>
      intro c N hm hc loop_0 loop_1
      have fl9 : c < 64 → ffN σ c (σ 2) ≤ 16 * σ 2 := fun h => ffN_lt hB h (σ 2) c9_2
      subst loop_1
      cases hb9 : frN σ (alN σ (σ 2)) c with
      | none =>
        show Wn _ 26 _ (21, [(5, .int (nI c)), (4, .int (nI 0)), (3, .int (-1 : Int32)), (2, .int (nI (alN σ (σ 2)))), (1, .ref 6), (0, .ref 0)], [], N)
        refine Wn.run (tab := tb_i_fair) rfl 3 (c' := (if (nI 64) ≤ (nI c) then 87 else 28, [(5, .int (nI c)), (4, .int (nI 0)), (3, .int (-1 : Int32)), (2, .int (nI (alN σ (σ 2)))), (1, .ref 6), (0, .ref 0)], [], N)) (o := []) rfl trivial ?_
        refine Wn.br (fun h1 => ?_) (fun h1 => ?_)
        · show Wn _ 26 _ (87, [(5, .int (nI c)), (4, .int (nI 0)), (3, .int (-1 : Int32)), (2, .int (nI (alN σ (σ 2)))), (1, .ref 6), (0, .ref 0)], [], N)
          have h1 := (n_le rfl rfl (by omega) (by omega)).mp h1
          refine Wn.run (tab := tb_i_fair) rfl 1 (c' := (88, [(5, .int (nI c)), (4, .int (nI 0)), (3, .int (-1 : Int32)), (2, .int (nI (alN σ (σ 2)))), (1, .ref 6), (0, .ref 0)], [.int (-1 : Int32)], N)) (o := []) rfl trivial ?_
          have e9 : c = 64 := by omega
          rw [e9] at hb9
          exact Wn.iret rfl ⟨by show _ = some (Value.int (oI (frN σ (alN σ (σ 2)) 64))); rw [hb9]; rfl, rfl⟩
        · show Wn _ 26 _ (28, [(5, .int (nI c)), (4, .int (nI 0)), (3, .int (-1 : Int32)), (2, .int (nI (alN σ (σ 2)))), (1, .ref 6), (0, .ref 0)], [], N)
          have h1 := mt (n_le rfl rfl (by omega) (by omega)).mpr h1
          refine Wn.run (tab := tb_i_fair) rfl 4 (c' := (37, [(5, .int (nI c)), (4, .int (nI 0)), (3, .int (-1 : Int32)), (2, .int (nI (alN σ (σ 2)))), (1, .ref 6), (0, .ref 0)], [.int (nI c), .ref 3], N)) (o := [shp 0 = (0, 9), shp 2 = (0, 8)]) rfl ⟨rfl, rfl⟩ ?_
          refine Wn.callV (p := 3) (n := 2) (ix := 318) (ci := (2)) (fun r0 M0 => r0 = some (.int (b2 (inL σ c))) ∧ N = M0) [.int (nI c)] [] rfl rfl rfl rfl (Nat.le_of_ble_eq_true rfl) (Nat.le_of_ble_eq_true rfl) (w_lk_hasCell _ N 3 σ loop_0.2.1 hB c (by omega) _ ⟨rfl, rfl⟩) ?_
          rintro _ _ ⟨rfl, rfl⟩
          show Wn _ 26 _ (40, [(5, .int (nI c)), (4, .int (nI 0)), (3, .int (-1 : Int32)), (2, .int (nI (alN σ (σ 2)))), (1, .ref 6), (0, .ref 0)], [.int (b2 (inL σ c))], N)
          refine Wn.run (tab := tb_i_fair) rfl 1 (c' := (if (b2 (inL σ c)) = 0 then 81 else 43, [(5, .int (nI c)), (4, .int (nI 0)), (3, .int (-1 : Int32)), (2, .int (nI (alN σ (σ 2)))), (1, .ref 6), (0, .ref 0)], [], N)) (o := []) rfl trivial ?_
          refine Wn.br (fun h2 => ?_) (fun h2 => ?_)
          · show Wn _ 26 _ (81, [(5, .int (nI c)), (4, .int (nI 0)), (3, .int (-1 : Int32)), (2, .int (nI (alN σ (σ 2)))), (1, .ref 6), (0, .ref 0)], [], N)
            have h2 := b2_neg h2
            refine Wn.run (tab := tb_i_fair) rfl 2 (c' := (21, [(5, .int ((nI c) + (nI 1))), (4, .int (nI 0)), (3, .int (-1 : Int32)), (2, .int (nI (alN σ (σ 2)))), (1, .ref 6), (0, .ref 0)], [], N)) (o := []) rfl trivial ?_
            rw [show ((nI c) + (nI 1)) = (nI (c + 1)) from (n_add rfl rfl)]
            have e9 := (frN_no (L := (alN σ (σ 2))) (σ := σ) (c := c) (by intro q9; exact h2 q9.1)).trans hb9
            rw [show (-1 : Int32) = (oI (frN σ (alN σ (σ 2)) (c + 1))) from by rw [e9]; rfl, show (nI 0) = (nI (frL σ (frN σ (alN σ (σ 2)) (c + 1)) 0)) from by rw [e9]; rfl]
            exact ih (64 - (c + 1)) (by omega) (c + 1) N rfl (by omega) loop_0 rfl
          · show Wn _ 26 _ (43, [(5, .int (nI c)), (4, .int (nI 0)), (3, .int (-1 : Int32)), (2, .int (nI (alN σ (σ 2)))), (1, .ref 6), (0, .ref 0)], [], N)
            have h2 := b2_pos h2
            refine Wn.run (tab := tb_i_fair) rfl 6 (c' := (if (N.1 7 ((nI c)).toNatClampNeg) < (nI (alN σ (σ 2))) then 81 else 54, [(5, .int (nI c)), (4, .int (nI 0)), (3, .int (-1 : Int32)), (2, .int (nI (alN σ (σ 2)))), (1, .ref 6), (0, .ref 0)], [], N)) (o := [shp 6 = (0, 5), aok shp 7 0 (nI c)]) rfl ⟨rfl, (ak1 (n := 64) rfl rfl rfl (by omega))⟩ ?_
            refine Wn.br (fun h3 => ?_) (fun h3 => ?_)
            · show Wn _ 26 _ (81, [(5, .int (nI c)), (4, .int (nI 0)), (3, .int (-1 : Int32)), (2, .int (nI (alN σ (σ 2)))), (1, .ref 6), (0, .ref 0)], [], N)
              have c9_2 := Bd_2 hB
              have g9 := Bd_c hB c (by omega)
              have h3 := (n_lt (rdc loop_0.2.2.2.1 rfl (by omega) h2) rfl (by omega) (by omega)).mp h3
              refine Wn.run (tab := tb_i_fair) rfl 2 (c' := (21, [(5, .int ((nI c) + (nI 1))), (4, .int (nI 0)), (3, .int (-1 : Int32)), (2, .int (nI (alN σ (σ 2)))), (1, .ref 6), (0, .ref 0)], [], N)) (o := []) rfl trivial ?_
              rw [show ((nI c) + (nI 1)) = (nI (c + 1)) from (n_add rfl rfl)]
              have e9 := (frN_no (L := (alN σ (σ 2))) (σ := σ) (c := c) (by intro q9; have := q9.2; omega)).trans hb9
              rw [show (-1 : Int32) = (oI (frN σ (alN σ (σ 2)) (c + 1))) from by rw [e9]; rfl, show (nI 0) = (nI (frL σ (frN σ (alN σ (σ 2)) (c + 1)) 0)) from by rw [e9]; rfl]
              exact ih (64 - (c + 1)) (by omega) (c + 1) N rfl (by omega) loop_0 rfl
            · show Wn _ 26 _ (54, [(5, .int (nI c)), (4, .int (nI 0)), (3, .int (-1 : Int32)), (2, .int (nI (alN σ (σ 2)))), (1, .ref 6), (0, .ref 0)], [], N)
              have c9_2 := Bd_2 hB
              have g9 := Bd_c hB c (by omega)
              have h3 := mt (n_lt (rdc loop_0.2.2.2.1 rfl (by omega) h2) rfl (by omega) (by omega)).mpr h3
              refine Wn.run (tab := tb_i_fair) rfl 2 (c' := (57, [(5, .int (nI c)), (4, .int (nI 0)), (3, .int (-1 : Int32)), (2, .int (nI (alN σ (σ 2)))), (1, .ref 6), (0, .ref 0)], [.int (nI c), .ref 6], N)) (o := []) rfl trivial ?_
              refine Wn.callV (p := 6) (n := 2) (ix := 321) (ci := (5)) (fun r0 M0 => r0 = some (.int (nI (ffN σ c (σ 2)))) ∧ N = M0) [.int (nI c)] [] rfl rfl rfl rfl (Nat.le_of_ble_eq_true rfl) (Nat.le_of_ble_eq_true rfl) (w_st_farFromAll _ N 6 σ loop_0 hB c (by omega) _ ⟨rfl, rfl⟩) ?_
              rintro _ _ ⟨rfl, rfl⟩
              show Wn _ 26 _ (60, [(5, .int (nI c)), (4, .int (nI 0)), (3, .int (-1 : Int32)), (2, .int (nI (alN σ (σ 2)))), (1, .ref 6), (0, .ref 0)], [.int (nI (ffN σ c (σ 2)))], N)
              refine Wn.run (tab := tb_i_fair) rfl 4 (c' := (if (-1 : Int32) = (-1 : Int32) then 74 else 67, [(6, .int (nI (ffN σ c (σ 2)))), (5, .int (nI c)), (4, .int (nI 0)), (3, .int (-1 : Int32)), (2, .int (nI (alN σ (σ 2)))), (1, .ref 6), (0, .ref 0)], [], N)) (o := []) rfl trivial ?_
              rw [if_pos (show (-1 : Int32) = (-1 : Int32) by decide)]
              show Wn _ 26 _ (74, [(6, .int (nI (ffN σ c (σ 2)))), (5, .int (nI c)), (4, .int (nI 0)), (3, .int (-1 : Int32)), (2, .int (nI (alN σ (σ 2)))), (1, .ref 6), (0, .ref 0)], [], N)
              refine Wn.run (tab := tb_i_fair) rfl 6 (c' := (21, [(5, .int ((nI c) + (nI 1))), (4, .int (nI (ffN σ c (σ 2)))), (3, .int (nI c)), (6, .int (nI (ffN σ c (σ 2)))), (2, .int (nI (alN σ (σ 2)))), (1, .ref 6), (0, .ref 0)], [], N)) (o := []) rfl trivial ?_
              rw [show ((nI c) + (nI 1)) = (nI (c + 1)) from (n_add rfl rfl)]
              have e9 := frN_first ⟨h2, by omega⟩ hb9
              rw [show (nI c) = (oI (frN σ (alN σ (σ 2)) (c + 1))) from by rw [e9]; rfl, show (nI (ffN σ c (σ 2))) = (nI (frL σ (frN σ (alN σ (σ 2)) (c + 1)) 0)) from by rw [e9]; rfl]
              refine Wn.lvp [0, 1, 2, 4, 5, 6] (lv' := [(5, .int (nI (c + 1))), (4, .int (nI (frL σ (frN σ (alN σ (σ 2)) (c + 1)) 0))), (3, .int (oI (frN σ (alN σ (σ 2)) (c + 1)))), (2, .int (nI (alN σ (σ 2)))), (1, .ref 6), (0, .ref 0)]) rfl ?_
              exact ih (64 - (c + 1)) (by omega) (c + 1) N rfl (by omega) loop_0 rfl
      | some b =>
        have hb8 := frN_lt σ _ _ _ hb9
        have fl8 := ffN_lt hB (c := b) (by omega) (σ 2) c9_2
        show Wn _ 26 _ (21, [(5, .int (nI c)), (4, .int (nI (ffN σ b (σ 2)))), (3, .int (nI b)), (2, .int (nI (alN σ (σ 2)))), (1, .ref 6), (0, .ref 0)], [], N)
        refine Wn.run (tab := tb_i_fair) rfl 3 (c' := (if (nI 64) ≤ (nI c) then 87 else 28, [(5, .int (nI c)), (4, .int (nI (ffN σ b (σ 2)))), (3, .int (nI b)), (2, .int (nI (alN σ (σ 2)))), (1, .ref 6), (0, .ref 0)], [], N)) (o := []) rfl trivial ?_
        refine Wn.br (fun h4 => ?_) (fun h4 => ?_)
        · show Wn _ 26 _ (87, [(5, .int (nI c)), (4, .int (nI (ffN σ b (σ 2)))), (3, .int (nI b)), (2, .int (nI (alN σ (σ 2)))), (1, .ref 6), (0, .ref 0)], [], N)
          have h4 := (n_le rfl rfl (by omega) (by omega)).mp h4
          refine Wn.run (tab := tb_i_fair) rfl 1 (c' := (88, [(5, .int (nI c)), (4, .int (nI (ffN σ b (σ 2)))), (3, .int (nI b)), (2, .int (nI (alN σ (σ 2)))), (1, .ref 6), (0, .ref 0)], [.int (nI b)], N)) (o := []) rfl trivial ?_
          have e9 : c = 64 := by omega
          rw [e9] at hb9
          exact Wn.iret rfl ⟨by show _ = some (Value.int (oI (frN σ (alN σ (σ 2)) 64))); rw [hb9]; rfl, rfl⟩
        · show Wn _ 26 _ (28, [(5, .int (nI c)), (4, .int (nI (ffN σ b (σ 2)))), (3, .int (nI b)), (2, .int (nI (alN σ (σ 2)))), (1, .ref 6), (0, .ref 0)], [], N)
          have h4 := mt (n_le rfl rfl (by omega) (by omega)).mpr h4
          refine Wn.run (tab := tb_i_fair) rfl 4 (c' := (37, [(5, .int (nI c)), (4, .int (nI (ffN σ b (σ 2)))), (3, .int (nI b)), (2, .int (nI (alN σ (σ 2)))), (1, .ref 6), (0, .ref 0)], [.int (nI c), .ref 3], N)) (o := [shp 0 = (0, 9), shp 2 = (0, 8)]) rfl ⟨rfl, rfl⟩ ?_
          refine Wn.callV (p := 3) (n := 2) (ix := 318) (ci := (2)) (fun r0 M0 => r0 = some (.int (b2 (inL σ c))) ∧ N = M0) [.int (nI c)] [] rfl rfl rfl rfl (Nat.le_of_ble_eq_true rfl) (Nat.le_of_ble_eq_true rfl) (w_lk_hasCell _ N 3 σ loop_0.2.1 hB c (by omega) _ ⟨rfl, rfl⟩) ?_
          rintro _ _ ⟨rfl, rfl⟩
          show Wn _ 26 _ (40, [(5, .int (nI c)), (4, .int (nI (ffN σ b (σ 2)))), (3, .int (nI b)), (2, .int (nI (alN σ (σ 2)))), (1, .ref 6), (0, .ref 0)], [.int (b2 (inL σ c))], N)
          refine Wn.run (tab := tb_i_fair) rfl 1 (c' := (if (b2 (inL σ c)) = 0 then 81 else 43, [(5, .int (nI c)), (4, .int (nI (ffN σ b (σ 2)))), (3, .int (nI b)), (2, .int (nI (alN σ (σ 2)))), (1, .ref 6), (0, .ref 0)], [], N)) (o := []) rfl trivial ?_
          refine Wn.br (fun h5 => ?_) (fun h5 => ?_)
          · show Wn _ 26 _ (81, [(5, .int (nI c)), (4, .int (nI (ffN σ b (σ 2)))), (3, .int (nI b)), (2, .int (nI (alN σ (σ 2)))), (1, .ref 6), (0, .ref 0)], [], N)
            have h5 := b2_neg h5
            refine Wn.run (tab := tb_i_fair) rfl 2 (c' := (21, [(5, .int ((nI c) + (nI 1))), (4, .int (nI (ffN σ b (σ 2)))), (3, .int (nI b)), (2, .int (nI (alN σ (σ 2)))), (1, .ref 6), (0, .ref 0)], [], N)) (o := []) rfl trivial ?_
            rw [show ((nI c) + (nI 1)) = (nI (c + 1)) from (n_add rfl rfl)]
            have e9 := (frN_no (L := (alN σ (σ 2))) (σ := σ) (c := c) (by intro q9; exact h5 q9.1)).trans hb9
            rw [show (nI b) = (oI (frN σ (alN σ (σ 2)) (c + 1))) from by rw [e9]; rfl, show (nI (ffN σ b (σ 2))) = (nI (frL σ (frN σ (alN σ (σ 2)) (c + 1)) 0)) from by rw [e9]; rfl]
            exact ih (64 - (c + 1)) (by omega) (c + 1) N rfl (by omega) loop_0 rfl
          · show Wn _ 26 _ (43, [(5, .int (nI c)), (4, .int (nI (ffN σ b (σ 2)))), (3, .int (nI b)), (2, .int (nI (alN σ (σ 2)))), (1, .ref 6), (0, .ref 0)], [], N)
            have h5 := b2_pos h5
            refine Wn.run (tab := tb_i_fair) rfl 6 (c' := (if (N.1 7 ((nI c)).toNatClampNeg) < (nI (alN σ (σ 2))) then 81 else 54, [(5, .int (nI c)), (4, .int (nI (ffN σ b (σ 2)))), (3, .int (nI b)), (2, .int (nI (alN σ (σ 2)))), (1, .ref 6), (0, .ref 0)], [], N)) (o := [shp 6 = (0, 5), aok shp 7 0 (nI c)]) rfl ⟨rfl, (ak1 (n := 64) rfl rfl rfl (by omega))⟩ ?_
            refine Wn.br (fun h6 => ?_) (fun h6 => ?_)
            · show Wn _ 26 _ (81, [(5, .int (nI c)), (4, .int (nI (ffN σ b (σ 2)))), (3, .int (nI b)), (2, .int (nI (alN σ (σ 2)))), (1, .ref 6), (0, .ref 0)], [], N)
              have c9_2 := Bd_2 hB
              have g9 := Bd_c hB c (by omega)
              have h6 := (n_lt (rdc loop_0.2.2.2.1 rfl (by omega) h5) rfl (by omega) (by omega)).mp h6
              refine Wn.run (tab := tb_i_fair) rfl 2 (c' := (21, [(5, .int ((nI c) + (nI 1))), (4, .int (nI (ffN σ b (σ 2)))), (3, .int (nI b)), (2, .int (nI (alN σ (σ 2)))), (1, .ref 6), (0, .ref 0)], [], N)) (o := []) rfl trivial ?_
              rw [show ((nI c) + (nI 1)) = (nI (c + 1)) from (n_add rfl rfl)]
              have e9 := (frN_no (L := (alN σ (σ 2))) (σ := σ) (c := c) (by intro q9; have := q9.2; omega)).trans hb9
              rw [show (nI b) = (oI (frN σ (alN σ (σ 2)) (c + 1))) from by rw [e9]; rfl, show (nI (ffN σ b (σ 2))) = (nI (frL σ (frN σ (alN σ (σ 2)) (c + 1)) 0)) from by rw [e9]; rfl]
              exact ih (64 - (c + 1)) (by omega) (c + 1) N rfl (by omega) loop_0 rfl
            · show Wn _ 26 _ (54, [(5, .int (nI c)), (4, .int (nI (ffN σ b (σ 2)))), (3, .int (nI b)), (2, .int (nI (alN σ (σ 2)))), (1, .ref 6), (0, .ref 0)], [], N)
              have c9_2 := Bd_2 hB
              have g9 := Bd_c hB c (by omega)
              have h6 := mt (n_lt (rdc loop_0.2.2.2.1 rfl (by omega) h5) rfl (by omega) (by omega)).mpr h6
              refine Wn.run (tab := tb_i_fair) rfl 2 (c' := (57, [(5, .int (nI c)), (4, .int (nI (ffN σ b (σ 2)))), (3, .int (nI b)), (2, .int (nI (alN σ (σ 2)))), (1, .ref 6), (0, .ref 0)], [.int (nI c), .ref 6], N)) (o := []) rfl trivial ?_
              refine Wn.callV (p := 6) (n := 2) (ix := 321) (ci := (5)) (fun r0 M0 => r0 = some (.int (nI (ffN σ c (σ 2)))) ∧ N = M0) [.int (nI c)] [] rfl rfl rfl rfl (Nat.le_of_ble_eq_true rfl) (Nat.le_of_ble_eq_true rfl) (w_st_farFromAll _ N 6 σ loop_0 hB c (by omega) _ ⟨rfl, rfl⟩) ?_
              rintro _ _ ⟨rfl, rfl⟩
              show Wn _ 26 _ (60, [(5, .int (nI c)), (4, .int (nI (ffN σ b (σ 2)))), (3, .int (nI b)), (2, .int (nI (alN σ (σ 2)))), (1, .ref 6), (0, .ref 0)], [.int (nI (ffN σ c (σ 2)))], N)
              refine Wn.run (tab := tb_i_fair) rfl 4 (c' := (if (nI b) = (-1 : Int32) then 74 else 67, [(6, .int (nI (ffN σ c (σ 2)))), (5, .int (nI c)), (4, .int (nI (ffN σ b (σ 2)))), (3, .int (nI b)), (2, .int (nI (alN σ (σ 2)))), (1, .ref 6), (0, .ref 0)], [], N)) (o := []) rfl trivial ?_
              rw [if_neg (nI_m1 (by omega))]
              show Wn _ 26 _ (67, [(6, .int (nI (ffN σ c (σ 2)))), (5, .int (nI c)), (4, .int (nI (ffN σ b (σ 2)))), (3, .int (nI b)), (2, .int (nI (alN σ (σ 2)))), (1, .ref 6), (0, .ref 0)], [], N)
              refine Wn.run (tab := tb_i_fair) rfl 3 (c' := (if (nI (ffN σ b (σ 2))) ≤ (nI (ffN σ c (σ 2))) then 81 else 74, [(6, .int (nI (ffN σ c (σ 2)))), (5, .int (nI c)), (4, .int (nI (ffN σ b (σ 2)))), (3, .int (nI b)), (2, .int (nI (alN σ (σ 2)))), (1, .ref 6), (0, .ref 0)], [], N)) (o := []) rfl trivial ?_
              refine Wn.br (fun h7 => ?_) (fun h7 => ?_)
              · show Wn _ 26 _ (81, [(6, .int (nI (ffN σ c (σ 2)))), (5, .int (nI c)), (4, .int (nI (ffN σ b (σ 2)))), (3, .int (nI b)), (2, .int (nI (alN σ (σ 2)))), (1, .ref 6), (0, .ref 0)], [], N)
                have c9_2 := Bd_2 hB
                have h7 := (n_le rfl rfl (by omega) (by omega)).mp h7
                refine Wn.run (tab := tb_i_fair) rfl 2 (c' := (21, [(5, .int ((nI c) + (nI 1))), (6, .int (nI (ffN σ c (σ 2)))), (4, .int (nI (ffN σ b (σ 2)))), (3, .int (nI b)), (2, .int (nI (alN σ (σ 2)))), (1, .ref 6), (0, .ref 0)], [], N)) (o := []) rfl trivial ?_
                rw [show ((nI c) + (nI 1)) = (nI (c + 1)) from (n_add rfl rfl)]
                have e9 := frN_keep hb9 (by omega)
                rw [show (nI b) = (oI (frN σ (alN σ (σ 2)) (c + 1))) from by rw [e9]; rfl, show (nI (ffN σ b (σ 2))) = (nI (frL σ (frN σ (alN σ (σ 2)) (c + 1)) 0)) from by rw [e9]; rfl]
                refine Wn.lvp [0, 2, 3, 4, 5, 6] (lv' := [(5, .int (nI (c + 1))), (4, .int (nI (frL σ (frN σ (alN σ (σ 2)) (c + 1)) 0))), (3, .int (oI (frN σ (alN σ (σ 2)) (c + 1)))), (2, .int (nI (alN σ (σ 2)))), (1, .ref 6), (0, .ref 0)]) rfl ?_
                exact ih (64 - (c + 1)) (by omega) (c + 1) N rfl (by omega) loop_0 rfl
              · show Wn _ 26 _ (74, [(6, .int (nI (ffN σ c (σ 2)))), (5, .int (nI c)), (4, .int (nI (ffN σ b (σ 2)))), (3, .int (nI b)), (2, .int (nI (alN σ (σ 2)))), (1, .ref 6), (0, .ref 0)], [], N)
                have c9_2 := Bd_2 hB
                have h7 := mt (n_le rfl rfl (by omega) (by omega)).mpr h7
                refine Wn.run (tab := tb_i_fair) rfl 6 (c' := (21, [(5, .int ((nI c) + (nI 1))), (4, .int (nI (ffN σ c (σ 2)))), (3, .int (nI c)), (6, .int (nI (ffN σ c (σ 2)))), (2, .int (nI (alN σ (σ 2)))), (1, .ref 6), (0, .ref 0)], [], N)) (o := []) rfl trivial ?_
                rw [show ((nI c) + (nI 1)) = (nI (c + 1)) from (n_add rfl rfl)]
                have e9 := frN_yes (L := (alN σ (σ 2))) ⟨h5, by omega⟩ hb9 (by omega)
                rw [show (nI c) = (oI (frN σ (alN σ (σ 2)) (c + 1))) from by rw [e9]; rfl, show (nI (ffN σ c (σ 2))) = (nI (frL σ (frN σ (alN σ (σ 2)) (c + 1)) 0)) from by rw [e9]; rfl]
                refine Wn.lvp [0, 1, 2, 4, 5, 6] (lv' := [(5, .int (nI (c + 1))), (4, .int (nI (frL σ (frN σ (alN σ (σ 2)) (c + 1)) 0))), (3, .int (oI (frN σ (alN σ (σ 2)) (c + 1)))), (2, .int (nI (alN σ (σ 2)))), (1, .ref 6), (0, .ref 0)]) rfl ?_
                exact ih (64 - (c + 1)) (by omega) (c + 1) N rfl (by omega) loop_0 rfl
  exact loop (64 - 0) 0 M rfl (by omega) hS rfl
set_option maxRecDepth 20000 in
theorem c_m_fair (d : Nat) (M : Mm) (f0 g : Nat → Int32) (σ : Nat → Nat) (hR : Rs f0 (M.1 116) σ) (hV : Inv σ) (hg : M.1 114 = g) (h1L : ∀ q, q < σ 2 → 1 ≤ σ (78 + q)) : Wn (d + 2) 116 (PO M g (nI 0) (some (.int (oI (faiA σ))))) (0, lv_args 0 [.ref 114], [], M) := by
  have hF := fr_rf [114] M
  have hB := hV.1
  have c9_2 := Bd_2 hB
  have k90 := Bd_90 hB
  have k0 := Bd_0 hB
  have k1 := Bd_1 hB
  have al9 := alN_le hB (σ 2) c9_2
  refine Wn.run (tab := tb_m_fair) rfl 3 (c' := (5, [(0, .ref 114)], [], (mI M 114 (upd (M.1 114) 0 (nI 0))))) (o := [shp 114 = (0, 10)]) rfl rfl ?_
  generalize hM2 : (mI M 114 (upd (M.1 114) 0 (nI 0))) = M1
  have hk3 := rs_ne hM2 (by decide) hR
  have hk4 := fI_up hM2 hg
  have hF5 := fr_sI hF hM2 (by decide)
  show Wn _ 116 _ (5, [(0, .ref 114)], [], M1)
  refine Wn.run (tab := tb_m_fair) rfl 4 (c' := (9, [(2, .int (nI 0)), (1, .int (nI 0)), (0, .ref 114)], [], M1)) (o := []) rfl trivial ?_
  have fst : ∀ (m q : Nat), σ 2 - q = m → q ≤ σ 2 → Wn (d + 2) 116 (PO M g (nI 0) (some (.int (oI (faiA σ))))) (9, [(2, .int (nI q)), (1, .int (nI (alN σ q))), (0, .ref 114)], [], M1) := by
    intro m
    induction m using Nat.strongRecOn with
    | _ m_fst ih_fst =>
      intro q hm8 hq8
      refine Wn.run (tab := tb_m_fair) rfl 6 (c' := (if (M1.1 116 2) ≤ (nI q) then 49 else 19, [(2, .int (nI q)), (1, .int (nI (alN σ q))), (0, .ref 114)], [], M1)) (o := [shp 114 = (0, 10), aok shp 116 0 (nI 2)]) rfl ⟨rfl, ⟨rfl, vp_in_nI (by decide) (by decide)⟩⟩ ?_
      refine Wn.br (fun h1 => ?_) (fun h1 => ?_)
      · show Wn _ 116 _ (49, [(2, .int (nI q)), (1, .int (nI (alN σ q))), (0, .ref 114)], [], M1)
        have c9_2 := Bd_2 hB
        have h1 := (n_le (rd0 hk3.1 (by omega)) rfl (by omega) (by omega)).mp h1
        have e8 : q = σ 2 := by omega
        rw [e8]
        refine Wn.run (tab := tb_m_fair) rfl 6 (c' := (58, [(4, .int (nI 0)), (3, .int (nI 1000000)), (2, .int (-1 : Int32)), (1, .int (nI (alN σ (σ 2)))), (0, .ref 114)], [], M1)) (o := []) rfl trivial ?_
        have loop : ∀ (m c : Nat) (N : Mm), 64 - c = m → c ≤ 64 → (Rs f0 (N.1 116) σ) → (N.1 114 = (upd g 0 (nI 0))) → (Fr [114] M N) → Wn (d + 2) 116 (PO M g (nI 0) (some (.int (oI (faiA σ))))) (58, [(4, .int (nI c)), (3, .int (nI (frL σ (frN σ (alN σ (σ 2)) c) 1000000))), (2, .int (oI (frN σ (alN σ (σ 2)) c))), (1, .int (nI (alN σ (σ 2)))), (0, .ref 114)], [], N) := by
          intro m
          induction m using Nat.strongRecOn with
          | _ m ih =>
            intro c N hm hc loop_0 loop_1 loop_2
            cases hb9 : frN σ (alN σ (σ 2)) c with
            | none =>
              show Wn _ 116 _ (58, [(4, .int (nI c)), (3, .int (nI 1000000)), (2, .int (-1 : Int32)), (1, .int (nI (alN σ (σ 2)))), (0, .ref 114)], [], N)
              refine Wn.run (tab := tb_m_fair) rfl 3 (c' := (if (nI 64) ≤ (nI c) then 177 else 65, [(4, .int (nI c)), (3, .int (nI 1000000)), (2, .int (-1 : Int32)), (1, .int (nI (alN σ (σ 2)))), (0, .ref 114)], [], N)) (o := []) rfl trivial ?_
              refine Wn.br (fun h2 => ?_) (fun h2 => ?_)
              · show Wn _ 116 _ (177, [(4, .int (nI c)), (3, .int (nI 1000000)), (2, .int (-1 : Int32)), (1, .int (nI (alN σ (σ 2)))), (0, .ref 114)], [], N)
                have h2 := (n_le rfl rfl (by omega) (by omega)).mp h2
                refine Wn.run (tab := tb_m_fair) rfl 2 (c' := (if ¬ (nI (alN σ (σ 2))) = 0 then 185 else 181, [(4, .int (nI c)), (3, .int (nI 1000000)), (2, .int (-1 : Int32)), (1, .int (nI (alN σ (σ 2)))), (0, .ref 114)], [], N)) (o := []) rfl trivial ?_
                refine Wn.br (fun h3 => ?_) (fun h3 => ?_)
                · show Wn _ 116 _ (185, [(4, .int (nI c)), (3, .int (nI 1000000)), (2, .int (-1 : Int32)), (1, .int (nI (alN σ (σ 2)))), (0, .ref 114)], [], N)
                  have c9_2 := Bd_2 hB
                  have h3 := mt (n_eq rfl nI_0.symm (by omega) (by omega)).mpr h3
                  refine Wn.run (tab := tb_m_fair) rfl 1 (c' := (186, [(4, .int (nI c)), (3, .int (nI 1000000)), (2, .int (-1 : Int32)), (1, .int (nI (alN σ (σ 2)))), (0, .ref 114)], [.int (-1 : Int32)], N)) (o := []) rfl trivial ?_
                  have e9 : c = 64 := by omega
                  rw [e9] at hb9
                  exact Wn.iret rfl ⟨by show _ = some (Value.int (oI (frN σ (alN σ (σ 2)) 64))); rw [hb9]; rfl, by rw [loop_1]; exact pk_us, by rw [loop_1]; exact (Gx_up (Gx_rf _ _) (by decide)), loop_2⟩
                · show Wn _ 116 _ (181, [(4, .int (nI c)), (3, .int (nI 1000000)), (2, .int (-1 : Int32)), (1, .int (nI (alN σ (σ 2)))), (0, .ref 114)], [], N)
                  have c9_2 := Bd_2 hB
                  have h3 := (n_eq rfl nI_0.symm (by omega) (by omega)).mp (Classical.not_not.mp h3)
                  refine Wn.run (tab := tb_m_fair) rfl 2 (c' := (186, [(4, .int (nI c)), (3, .int (nI 1000000)), (2, .int (-1 : Int32)), (1, .int (nI (alN σ (σ 2)))), (0, .ref 114)], [.int (nI 0)], N)) (o := []) rfl trivial ?_
                  have e9 : c = 64 := by omega
                  rw [e9] at hb9
                  exact Wn.iret rfl ⟨by show _ = some (Value.int (oI (frN σ (alN σ (σ 2)) 64))); rw [show (alN σ (σ 2)) = 0 by omega, frN_0 hB h1L (by omega) 63]; rfl, by rw [loop_1]; exact pk_us, by rw [loop_1]; exact (Gx_up (Gx_rf _ _) (by decide)), loop_2⟩
              · show Wn _ 116 _ (65, [(4, .int (nI c)), (3, .int (nI 1000000)), (2, .int (-1 : Int32)), (1, .int (nI (alN σ (σ 2)))), (0, .ref 114)], [], N)
                have h2 := mt (n_le rfl rfl (by omega) (by omega)).mpr h2
                refine Wn.run (tab := tb_m_fair) rfl 7 (c' := (76, [(4, .int (nI c)), (3, .int (nI 1000000)), (2, .int (-1 : Int32)), (1, .int (nI (alN σ (σ 2)))), (0, .ref 114)], [.int ((nI c) / (nI 8)), .int ((nI c) - (nI c) / (nI 8) * (nI 8)), .ref 114], N)) (o := [¬ (nI 8) = 0, ¬ (nI 8) = 0]) rfl ⟨(show ¬ (nI 8) = 0 by decide), (show ¬ (nI 8) = 0 by decide)⟩ ?_
                rw [show ((nI c) - (nI c) / (nI 8) * (nI 8)) = (nI (c % 8)) from (n_rem rfl rfl (by omega) (by omega) (by omega))]
                rw [show ((nI c) / (nI 8)) = (nI (c / 8)) from (n_div rfl rfl (by omega) (by omega) (by omega))]
                refine Wn.callV (p := 114) (n := 3) (ix := 266) (ci := (10)) (fun r0 M0 => r0 = some (.int (b2 ((c % 8) < σ 0 ∧ (c / 8) < σ 1))) ∧ N = M0) [.int (nI (c % 8)), .int (nI (c / 8))] [] rfl rfl rfl rfl (Nat.le_of_ble_eq_true rfl) (Nat.le_of_ble_eq_true rfl) (w_m_isCellN _ (c % 8) (c / 8) (by omega) (by omega) N σ ⟨loop_0.1, hB⟩ _ ⟨rfl, rfl⟩) ?_
                rintro _ _ ⟨rfl, rfl⟩
                show Wn _ 116 _ (79, [(4, .int (nI c)), (3, .int (nI 1000000)), (2, .int (-1 : Int32)), (1, .int (nI (alN σ (σ 2)))), (0, .ref 114)], [.int (b2 ((c % 8) < σ 0 ∧ (c / 8) < σ 1))], N)
                refine Wn.run (tab := tb_m_fair) rfl 1 (c' := (if (b2 ((c % 8) < σ 0 ∧ (c / 8) < σ 1)) = 0 then 171 else 82, [(4, .int (nI c)), (3, .int (nI 1000000)), (2, .int (-1 : Int32)), (1, .int (nI (alN σ (σ 2)))), (0, .ref 114)], [], N)) (o := []) rfl trivial ?_
                refine Wn.br (fun h4 => ?_) (fun h4 => ?_)
                · show Wn _ 116 _ (171, [(4, .int (nI c)), (3, .int (nI 1000000)), (2, .int (-1 : Int32)), (1, .int (nI (alN σ (σ 2)))), (0, .ref 114)], [], N)
                  have h4 := b2_neg h4
                  refine Wn.run (tab := tb_m_fair) rfl 2 (c' := (58, [(4, .int ((nI c) + (nI 1))), (3, .int (nI 1000000)), (2, .int (-1 : Int32)), (1, .int (nI (alN σ (σ 2)))), (0, .ref 114)], [], N)) (o := []) rfl trivial ?_
                  rw [show ((nI c) + (nI 1)) = (nI (c + 1)) from (n_add rfl rfl)]
                  have e9 := (frN_no (L := (alN σ (σ 2))) (σ := σ) (c := c) (by unfold inL; omega)).trans hb9
                  rw [show (-1 : Int32) = (oI (frN σ (alN σ (σ 2)) (c + 1))) from by rw [e9]; rfl, show (nI 1000000) = (nI (frL σ (frN σ (alN σ (σ 2)) (c + 1)) 1000000)) from by rw [e9]; rfl]
                  exact ih (64 - (c + 1)) (by omega) (c + 1) N rfl (by omega) loop_0 loop_1 loop_2
                · show Wn _ 116 _ (82, [(4, .int (nI c)), (3, .int (nI 1000000)), (2, .int (-1 : Int32)), (1, .int (nI (alN σ (σ 2)))), (0, .ref 114)], [], N)
                  have h4 := b2_pos h4
                  refine Wn.run (tab := tb_m_fair) rfl 8 (c' := (if (nI (alN σ (σ 2))) ≤ (N.1 116 (((nI 96) + (nI c))).toNatClampNeg) then 99 else 96, [(4, .int (nI c)), (3, .int (nI 1000000)), (2, .int (-1 : Int32)), (1, .int (nI (alN σ (σ 2)))), (0, .ref 114)], [], N)) (o := [shp 114 = (0, 10), aok shp 116 0 ((nI 96) + (nI c))]) rfl ⟨rfl, (ak1 (n := 359) rfl rfl (n_add rfl rfl) (by omega))⟩ ?_
                  refine Wn.br (fun h5 => ?_) (fun h5 => ?_)
                  · show Wn _ 116 _ (99, [(4, .int (nI c)), (3, .int (nI 1000000)), (2, .int (-1 : Int32)), (1, .int (nI (alN σ (σ 2)))), (0, .ref 114)], [], N)
                    have c9_2 := Bd_2 hB
                    have g9 := Bd_c hB c (by omega)
                    have h5 := (n_le rfl (rd1 loop_0.1 (n_add rfl rfl) (by omega) (by omega)) (by omega) (by omega)).mp h5
                    refine Wn.run (tab := tb_m_fair) rfl 4 (c' := (105, [(6, .int (nI 0)), (5, .int (nI 0)), (4, .int (nI c)), (3, .int (nI 1000000)), (2, .int (-1 : Int32)), (1, .int (nI (alN σ (σ 2)))), (0, .ref 114)], [], N)) (o := []) rfl trivial ?_
                    have inn : ∀ (m q : Nat), σ 2 - q = m → q ≤ σ 2 → Wn (d + 2) 116 (PO M g (nI 0) (some (.int (oI (faiA σ))))) (105, [(6, .int (nI q)), (5, .int (nI (ffN σ c q))), (4, .int (nI c)), (3, .int (nI 1000000)), (2, .int (-1 : Int32)), (1, .int (nI (alN σ (σ 2)))), (0, .ref 114)], [], N) := by
                      intro m
                      induction m using Nat.strongRecOn with
                      | _ m_inn ih_inn =>
                        intro q hm9 hq9
                        have fl6 : q ≤ 6 := by omega
                        have fl5 := ffN_lt hB (c := c) (by omega) q fl6
                        refine Wn.run (tab := tb_m_fair) rfl 6 (c' := (if (N.1 116 2) ≤ (nI q) then 156 else 116, [(6, .int (nI q)), (5, .int (nI (ffN σ c q))), (4, .int (nI c)), (3, .int (nI 1000000)), (2, .int (-1 : Int32)), (1, .int (nI (alN σ (σ 2)))), (0, .ref 114)], [], N)) (o := [shp 114 = (0, 10), aok shp 116 0 (nI 2)]) rfl ⟨rfl, ⟨rfl, vp_in_nI (by decide) (by decide)⟩⟩ ?_
                        refine Wn.br (fun h6 => ?_) (fun h6 => ?_)
                        · show Wn _ 116 _ (156, [(6, .int (nI q)), (5, .int (nI (ffN σ c q))), (4, .int (nI c)), (3, .int (nI 1000000)), (2, .int (-1 : Int32)), (1, .int (nI (alN σ (σ 2)))), (0, .ref 114)], [], N)
                          have c9_2 := Bd_2 hB
                          have h6 := (n_le (rd0 loop_0.1 (by omega)) rfl (by omega) (by omega)).mp h6
                          have e8 : q = σ 2 := by omega
                          rw [e8]
                          have fl7 := ffN_lt hB (c := c) (by omega) (σ 2) c9_2
                          refine Wn.run (tab := tb_m_fair) rfl 3 (c' := (if (nI (ffN σ c (σ 2))) < (nI 1000000) then 165 else 162, [(6, .int (nI (σ 2))), (5, .int (nI (ffN σ c (σ 2)))), (4, .int (nI c)), (3, .int (nI 1000000)), (2, .int (-1 : Int32)), (1, .int (nI (alN σ (σ 2)))), (0, .ref 114)], [], N)) (o := []) rfl trivial ?_
                          refine Wn.br (fun h7 => ?_) (fun h7 => ?_)
                          · show Wn _ 116 _ (165, [(6, .int (nI (σ 2))), (5, .int (nI (ffN σ c (σ 2)))), (4, .int (nI c)), (3, .int (nI 1000000)), (2, .int (-1 : Int32)), (1, .int (nI (alN σ (σ 2)))), (0, .ref 114)], [], N)
                            have c9_2 := Bd_2 hB
                            have h7 := (n_lt rfl rfl (by omega) (by omega)).mp h7
                            refine Wn.run (tab := tb_m_fair) rfl 6 (c' := (58, [(4, .int ((nI c) + (nI 1))), (2, .int (nI c)), (3, .int (nI (ffN σ c (σ 2)))), (6, .int (nI (σ 2))), (5, .int (nI (ffN σ c (σ 2)))), (1, .int (nI (alN σ (σ 2)))), (0, .ref 114)], [], N)) (o := []) rfl trivial ?_
                            rw [show ((nI c) + (nI 1)) = (nI (c + 1)) from (n_add rfl rfl)]
                            have e9 := frN_first (L := (alN σ (σ 2))) ⟨by unfold inL; omega, by omega⟩ hb9
                            rw [show (nI c) = (oI (frN σ (alN σ (σ 2)) (c + 1))) from by rw [e9]; rfl, show (nI (ffN σ c (σ 2))) = (nI (frL σ (frN σ (alN σ (σ 2)) (c + 1)) 1000000)) from by rw [e9]; rfl]
                            refine Wn.lvp [0, 2, 1, 5, 6] (lv' := [(4, .int (nI (c + 1))), (3, .int (nI (frL σ (frN σ (alN σ (σ 2)) (c + 1)) 1000000))), (2, .int (oI (frN σ (alN σ (σ 2)) (c + 1)))), (1, .int (nI (alN σ (σ 2)))), (0, .ref 114)]) rfl ?_
                            exact ih (64 - (c + 1)) (by omega) (c + 1) N rfl (by omega) loop_0 loop_1 loop_2
                          · show Wn _ 116 _ (162, [(6, .int (nI (σ 2))), (5, .int (nI (ffN σ c (σ 2)))), (4, .int (nI c)), (3, .int (nI 1000000)), (2, .int (-1 : Int32)), (1, .int (nI (alN σ (σ 2)))), (0, .ref 114)], [], N)
                            have c9_2 := Bd_2 hB
                            have h7 := mt (n_lt rfl rfl (by omega) (by omega)).mpr h7
                            refine Wn.run (tab := tb_m_fair) rfl 3 (c' := (58, [(4, .int ((nI c) + (nI 1))), (6, .int (nI (σ 2))), (5, .int (nI (ffN σ c (σ 2)))), (3, .int (nI 1000000)), (2, .int (-1 : Int32)), (1, .int (nI (alN σ (σ 2)))), (0, .ref 114)], [], N)) (o := []) rfl trivial ?_
                            rw [show ((nI c) + (nI 1)) = (nI (c + 1)) from (n_add rfl rfl)]
                            exact absurd h7 (by omega)
                        · show Wn _ 116 _ (116, [(6, .int (nI q)), (5, .int (nI (ffN σ c q))), (4, .int (nI c)), (3, .int (nI 1000000)), (2, .int (-1 : Int32)), (1, .int (nI (alN σ (σ 2)))), (0, .ref 114)], [], N)
                          have c9_2 := Bd_2 hB
                          have h6 := mt (n_le (rd0 loop_0.1 (by omega)) rfl (by omega) (by omega)).mpr h6
                          refine Wn.run (tab := tb_m_fair) rfl 3 (c' := (121, [(6, .int (nI q)), (5, .int (nI (ffN σ c q))), (4, .int (nI c)), (3, .int (nI 1000000)), (2, .int (-1 : Int32)), (1, .int (nI (alN σ (σ 2)))), (0, .ref 114)], [.int (nI q), .ref 114, .int (nI (ffN σ c q))], N)) (o := []) rfl trivial ?_
                          refine Wn.callV (p := 114) (n := 2) (ix := 260) (ci := (10)) (fun r0 M0 => r0 = some (.int (b2 (fal σ q = true))) ∧ N = M0) [.int (nI q)] [.int (nI (ffN σ c q))] rfl rfl rfl rfl (Nat.le_of_ble_eq_true rfl) (Nat.le_of_ble_eq_true rfl) (w_m_hasFallen _ q (by omega) N σ ⟨loop_0.1, hB⟩ _ ⟨rfl, rfl⟩) ?_
                          rintro _ _ ⟨rfl, rfl⟩
                          show Wn _ 116 _ (124, [(6, .int (nI q)), (5, .int (nI (ffN σ c q))), (4, .int (nI c)), (3, .int (nI 1000000)), (2, .int (-1 : Int32)), (1, .int (nI (alN σ (σ 2)))), (0, .ref 114)], [.int (b2 (fal σ q = true)), .int (nI (ffN σ c q))], N)
                          refine Wn.run (tab := tb_m_fair) rfl 1 (c' := (if (b2 (fal σ q = true)) = 0 then 131 else 127, [(6, .int (nI q)), (5, .int (nI (ffN σ c q))), (4, .int (nI c)), (3, .int (nI 1000000)), (2, .int (-1 : Int32)), (1, .int (nI (alN σ (σ 2)))), (0, .ref 114)], [.int (nI (ffN σ c q))], N)) (o := []) rfl trivial ?_
                          refine Wn.br (fun h8 => ?_) (fun h8 => ?_)
                          · show Wn _ 116 _ (131, [(6, .int (nI q)), (5, .int (nI (ffN σ c q))), (4, .int (nI c)), (3, .int (nI 1000000)), (2, .int (-1 : Int32)), (1, .int (nI (alN σ (σ 2)))), (0, .ref 114)], [.int (nI (ffN σ c q))], N)
                            have h8 := b2_neg h8
                            refine Wn.run (tab := tb_m_fair) rfl 7 (c' := (144, [(6, .int (nI q)), (5, .int (nI (ffN σ c q))), (4, .int (nI c)), (3, .int (nI 1000000)), (2, .int (-1 : Int32)), (1, .int (nI (alN σ (σ 2)))), (0, .ref 114)], [.int (nI c), .int (N.1 116 (((nI 160) + (nI q))).toNatClampNeg), .int (nI (ffN σ c q))], N)) (o := [shp 114 = (0, 10), aok shp 116 0 ((nI 160) + (nI q))]) rfl ⟨rfl, (ak1 (n := 359) rfl rfl (n_add rfl rfl) (by omega))⟩ ?_
                            have f9 := Bd_q hB q (by omega)
                            rw [show (N.1 116 (((nI 160) + (nI q))).toNatClampNeg) = (nI (σ (160 + q))) from (rd1 loop_0.1 (n_add rfl rfl) (by omega) (by omega))]
                            refine Wn.callS (n := 2) (ix := 275) (fun r0 M0 => r0 = some (.int (nI (far (σ (160 + q)) c))) ∧ N = M0) [.int (nI (σ (160 + q))), .int (nI c)] [.int (nI (ffN σ c q))] rfl rfl rfl (Nat.le_of_ble_eq_true rfl) (Nat.le_of_ble_eq_true rfl) (w_m_apart _ (σ (160 + q)) c (by omega) (by omega) N _ ⟨rfl, rfl⟩) ?_
                            rintro _ _ ⟨rfl, rfl⟩
                            show Wn _ 116 _ (147, [(6, .int (nI q)), (5, .int (nI (ffN σ c q))), (4, .int (nI c)), (3, .int (nI 1000000)), (2, .int (-1 : Int32)), (1, .int (nI (alN σ (σ 2)))), (0, .ref 114)], [.int (nI (far (σ (160 + q)) c)), .int (nI (ffN σ c q))], N)
                            have fr9 := far_lt (σ (160 + q)) c (by omega) (by omega)
                            refine Wn.run (tab := tb_m_fair) rfl 4 (c' := (105, [(6, .int ((nI q) + (nI 1))), (5, .int ((nI (ffN σ c q)) + (nI (far (σ (160 + q)) c)))), (4, .int (nI c)), (3, .int (nI 1000000)), (2, .int (-1 : Int32)), (1, .int (nI (alN σ (σ 2)))), (0, .ref 114)], [], N)) (o := []) rfl trivial ?_
                            have f9 := Bd_q hB q (by omega)
                            have r9 := far_lt (σ (160 + q)) c (by omega) (by omega)
                            rw [show ((nI (ffN σ c q)) + (nI (far (σ (160 + q)) c))) = (nI ((ffN σ c q) + (far (σ (160 + q)) c))) from (n_add rfl rfl)]
                            rw [show ((nI q) + (nI 1)) = (nI (q + 1)) from (n_add rfl rfl)]
                            rw [show (nI ((ffN σ c q) + (far (σ (160 + q)) c))) = (nI (ffN σ c (q + 1))) from (by show _ = nI (ffN σ c q + (if fal σ q = true then 0 else far (σ (160 + q)) c)); rw [if_neg h8])]
                            exact ih_inn (σ 2 - (q + 1)) (by omega) (q + 1) rfl (by omega)
                          · show Wn _ 116 _ (127, [(6, .int (nI q)), (5, .int (nI (ffN σ c q))), (4, .int (nI c)), (3, .int (nI 1000000)), (2, .int (-1 : Int32)), (1, .int (nI (alN σ (σ 2)))), (0, .ref 114)], [.int (nI (ffN σ c q))], N)
                            have h8 := b2_pos h8
                            refine Wn.run (tab := tb_m_fair) rfl 6 (c' := (105, [(6, .int ((nI q) + (nI 1))), (5, .int ((nI (ffN σ c q)) + (nI 0))), (4, .int (nI c)), (3, .int (nI 1000000)), (2, .int (-1 : Int32)), (1, .int (nI (alN σ (σ 2)))), (0, .ref 114)], [], N)) (o := []) rfl trivial ?_
                            rw [show ((nI (ffN σ c q)) + (nI 0)) = (nI ((ffN σ c q) + 0)) from (n_add rfl rfl)]
                            rw [show ((nI q) + (nI 1)) = (nI (q + 1)) from (n_add rfl rfl)]
                            rw [show (nI ((ffN σ c q) + 0)) = (nI (ffN σ c (q + 1))) from (by show _ = nI (ffN σ c q + (if fal σ q = true then 0 else far (σ (160 + q)) c)); rw [if_pos h8])]
                            exact ih_inn (σ 2 - (q + 1)) (by omega) (q + 1) rfl (by omega)
                    exact inn (σ 2 - 0) 0 rfl (by omega)
                  · show Wn _ 116 _ (96, [(4, .int (nI c)), (3, .int (nI 1000000)), (2, .int (-1 : Int32)), (1, .int (nI (alN σ (σ 2)))), (0, .ref 114)], [], N)
                    have c9_2 := Bd_2 hB
                    have g9 := Bd_c hB c (by omega)
                    have h5 := mt (n_le rfl (rd1 loop_0.1 (n_add rfl rfl) (by omega) (by omega)) (by omega) (by omega)).mpr h5
                    refine Wn.run (tab := tb_m_fair) rfl 3 (c' := (58, [(4, .int ((nI c) + (nI 1))), (3, .int (nI 1000000)), (2, .int (-1 : Int32)), (1, .int (nI (alN σ (σ 2)))), (0, .ref 114)], [], N)) (o := []) rfl trivial ?_
                    rw [show ((nI c) + (nI 1)) = (nI (c + 1)) from (n_add rfl rfl)]
                    have e9 := (frN_no (L := (alN σ (σ 2))) (σ := σ) (c := c) (by unfold inL; omega)).trans hb9
                    rw [show (-1 : Int32) = (oI (frN σ (alN σ (σ 2)) (c + 1))) from by rw [e9]; rfl, show (nI 1000000) = (nI (frL σ (frN σ (alN σ (σ 2)) (c + 1)) 1000000)) from by rw [e9]; rfl]
                    exact ih (64 - (c + 1)) (by omega) (c + 1) N rfl (by omega) loop_0 loop_1 loop_2
            | some b =>
              have hb8 := frN_lt σ _ _ _ hb9
              have fl8 := ffN_lt hB (c := b) (by omega) (σ 2) c9_2
              show Wn _ 116 _ (58, [(4, .int (nI c)), (3, .int (nI (ffN σ b (σ 2)))), (2, .int (nI b)), (1, .int (nI (alN σ (σ 2)))), (0, .ref 114)], [], N)
              refine Wn.run (tab := tb_m_fair) rfl 3 (c' := (if (nI 64) ≤ (nI c) then 177 else 65, [(4, .int (nI c)), (3, .int (nI (ffN σ b (σ 2)))), (2, .int (nI b)), (1, .int (nI (alN σ (σ 2)))), (0, .ref 114)], [], N)) (o := []) rfl trivial ?_
              refine Wn.br (fun h9 => ?_) (fun h9 => ?_)
              · show Wn _ 116 _ (177, [(4, .int (nI c)), (3, .int (nI (ffN σ b (σ 2)))), (2, .int (nI b)), (1, .int (nI (alN σ (σ 2)))), (0, .ref 114)], [], N)
                have h9 := (n_le rfl rfl (by omega) (by omega)).mp h9
                refine Wn.run (tab := tb_m_fair) rfl 2 (c' := (if ¬ (nI (alN σ (σ 2))) = 0 then 185 else 181, [(4, .int (nI c)), (3, .int (nI (ffN σ b (σ 2)))), (2, .int (nI b)), (1, .int (nI (alN σ (σ 2)))), (0, .ref 114)], [], N)) (o := []) rfl trivial ?_
                refine Wn.br (fun h10 => ?_) (fun h10 => ?_)
                · show Wn _ 116 _ (185, [(4, .int (nI c)), (3, .int (nI (ffN σ b (σ 2)))), (2, .int (nI b)), (1, .int (nI (alN σ (σ 2)))), (0, .ref 114)], [], N)
                  have c9_2 := Bd_2 hB
                  have h10 := mt (n_eq rfl nI_0.symm (by omega) (by omega)).mpr h10
                  refine Wn.run (tab := tb_m_fair) rfl 1 (c' := (186, [(4, .int (nI c)), (3, .int (nI (ffN σ b (σ 2)))), (2, .int (nI b)), (1, .int (nI (alN σ (σ 2)))), (0, .ref 114)], [.int (nI b)], N)) (o := []) rfl trivial ?_
                  have e9 : c = 64 := by omega
                  rw [e9] at hb9
                  exact Wn.iret rfl ⟨by show _ = some (Value.int (oI (frN σ (alN σ (σ 2)) 64))); rw [hb9]; rfl, by rw [loop_1]; exact pk_us, by rw [loop_1]; exact (Gx_up (Gx_rf _ _) (by decide)), loop_2⟩
                · show Wn _ 116 _ (181, [(4, .int (nI c)), (3, .int (nI (ffN σ b (σ 2)))), (2, .int (nI b)), (1, .int (nI (alN σ (σ 2)))), (0, .ref 114)], [], N)
                  have c9_2 := Bd_2 hB
                  have h10 := (n_eq rfl nI_0.symm (by omega) (by omega)).mp (Classical.not_not.mp h10)
                  refine Wn.run (tab := tb_m_fair) rfl 2 (c' := (186, [(4, .int (nI c)), (3, .int (nI (ffN σ b (σ 2)))), (2, .int (nI b)), (1, .int (nI (alN σ (σ 2)))), (0, .ref 114)], [.int (nI 0)], N)) (o := []) rfl trivial ?_
                  have e9 : c = 64 := by omega
                  rw [e9] at hb9
                  exact Wn.iret rfl ⟨by show _ = some (Value.int (oI (frN σ (alN σ (σ 2)) 64))); rw [show (alN σ (σ 2)) = 0 by omega, frN_0 hB h1L (by omega) 63]; rfl, by rw [loop_1]; exact pk_us, by rw [loop_1]; exact (Gx_up (Gx_rf _ _) (by decide)), loop_2⟩
              · show Wn _ 116 _ (65, [(4, .int (nI c)), (3, .int (nI (ffN σ b (σ 2)))), (2, .int (nI b)), (1, .int (nI (alN σ (σ 2)))), (0, .ref 114)], [], N)
                have h9 := mt (n_le rfl rfl (by omega) (by omega)).mpr h9
                refine Wn.run (tab := tb_m_fair) rfl 7 (c' := (76, [(4, .int (nI c)), (3, .int (nI (ffN σ b (σ 2)))), (2, .int (nI b)), (1, .int (nI (alN σ (σ 2)))), (0, .ref 114)], [.int ((nI c) / (nI 8)), .int ((nI c) - (nI c) / (nI 8) * (nI 8)), .ref 114], N)) (o := [¬ (nI 8) = 0, ¬ (nI 8) = 0]) rfl ⟨(show ¬ (nI 8) = 0 by decide), (show ¬ (nI 8) = 0 by decide)⟩ ?_
                rw [show ((nI c) - (nI c) / (nI 8) * (nI 8)) = (nI (c % 8)) from (n_rem rfl rfl (by omega) (by omega) (by omega))]
                rw [show ((nI c) / (nI 8)) = (nI (c / 8)) from (n_div rfl rfl (by omega) (by omega) (by omega))]
                refine Wn.callV (p := 114) (n := 3) (ix := 266) (ci := (10)) (fun r0 M0 => r0 = some (.int (b2 ((c % 8) < σ 0 ∧ (c / 8) < σ 1))) ∧ N = M0) [.int (nI (c % 8)), .int (nI (c / 8))] [] rfl rfl rfl rfl (Nat.le_of_ble_eq_true rfl) (Nat.le_of_ble_eq_true rfl) (w_m_isCellN _ (c % 8) (c / 8) (by omega) (by omega) N σ ⟨loop_0.1, hB⟩ _ ⟨rfl, rfl⟩) ?_
                rintro _ _ ⟨rfl, rfl⟩
                show Wn _ 116 _ (79, [(4, .int (nI c)), (3, .int (nI (ffN σ b (σ 2)))), (2, .int (nI b)), (1, .int (nI (alN σ (σ 2)))), (0, .ref 114)], [.int (b2 ((c % 8) < σ 0 ∧ (c / 8) < σ 1))], N)
                refine Wn.run (tab := tb_m_fair) rfl 1 (c' := (if (b2 ((c % 8) < σ 0 ∧ (c / 8) < σ 1)) = 0 then 171 else 82, [(4, .int (nI c)), (3, .int (nI (ffN σ b (σ 2)))), (2, .int (nI b)), (1, .int (nI (alN σ (σ 2)))), (0, .ref 114)], [], N)) (o := []) rfl trivial ?_
                refine Wn.br (fun h11 => ?_) (fun h11 => ?_)
                · show Wn _ 116 _ (171, [(4, .int (nI c)), (3, .int (nI (ffN σ b (σ 2)))), (2, .int (nI b)), (1, .int (nI (alN σ (σ 2)))), (0, .ref 114)], [], N)
                  have h11 := b2_neg h11
                  refine Wn.run (tab := tb_m_fair) rfl 2 (c' := (58, [(4, .int ((nI c) + (nI 1))), (3, .int (nI (ffN σ b (σ 2)))), (2, .int (nI b)), (1, .int (nI (alN σ (σ 2)))), (0, .ref 114)], [], N)) (o := []) rfl trivial ?_
                  rw [show ((nI c) + (nI 1)) = (nI (c + 1)) from (n_add rfl rfl)]
                  have e9 := (frN_no (L := (alN σ (σ 2))) (σ := σ) (c := c) (by unfold inL; omega)).trans hb9
                  rw [show (nI b) = (oI (frN σ (alN σ (σ 2)) (c + 1))) from by rw [e9]; rfl, show (nI (ffN σ b (σ 2))) = (nI (frL σ (frN σ (alN σ (σ 2)) (c + 1)) 1000000)) from by rw [e9]; rfl]
                  exact ih (64 - (c + 1)) (by omega) (c + 1) N rfl (by omega) loop_0 loop_1 loop_2
                · show Wn _ 116 _ (82, [(4, .int (nI c)), (3, .int (nI (ffN σ b (σ 2)))), (2, .int (nI b)), (1, .int (nI (alN σ (σ 2)))), (0, .ref 114)], [], N)
                  have h11 := b2_pos h11
                  refine Wn.run (tab := tb_m_fair) rfl 8 (c' := (if (nI (alN σ (σ 2))) ≤ (N.1 116 (((nI 96) + (nI c))).toNatClampNeg) then 99 else 96, [(4, .int (nI c)), (3, .int (nI (ffN σ b (σ 2)))), (2, .int (nI b)), (1, .int (nI (alN σ (σ 2)))), (0, .ref 114)], [], N)) (o := [shp 114 = (0, 10), aok shp 116 0 ((nI 96) + (nI c))]) rfl ⟨rfl, (ak1 (n := 359) rfl rfl (n_add rfl rfl) (by omega))⟩ ?_
                  refine Wn.br (fun h12 => ?_) (fun h12 => ?_)
                  · show Wn _ 116 _ (99, [(4, .int (nI c)), (3, .int (nI (ffN σ b (σ 2)))), (2, .int (nI b)), (1, .int (nI (alN σ (σ 2)))), (0, .ref 114)], [], N)
                    have c9_2 := Bd_2 hB
                    have g9 := Bd_c hB c (by omega)
                    have h12 := (n_le rfl (rd1 loop_0.1 (n_add rfl rfl) (by omega) (by omega)) (by omega) (by omega)).mp h12
                    refine Wn.run (tab := tb_m_fair) rfl 4 (c' := (105, [(6, .int (nI 0)), (5, .int (nI 0)), (4, .int (nI c)), (3, .int (nI (ffN σ b (σ 2)))), (2, .int (nI b)), (1, .int (nI (alN σ (σ 2)))), (0, .ref 114)], [], N)) (o := []) rfl trivial ?_
                    have inn : ∀ (m q : Nat), σ 2 - q = m → q ≤ σ 2 → Wn (d + 2) 116 (PO M g (nI 0) (some (.int (oI (faiA σ))))) (105, [(6, .int (nI q)), (5, .int (nI (ffN σ c q))), (4, .int (nI c)), (3, .int (nI (ffN σ b (σ 2)))), (2, .int (nI b)), (1, .int (nI (alN σ (σ 2)))), (0, .ref 114)], [], N) := by
                      intro m
                      induction m using Nat.strongRecOn with
                      | _ m_inn ih_inn =>
                        intro q hm9 hq9
                        have fl6 : q ≤ 6 := by omega
                        have fl5 := ffN_lt hB (c := c) (by omega) q fl6
                        refine Wn.run (tab := tb_m_fair) rfl 6 (c' := (if (N.1 116 2) ≤ (nI q) then 156 else 116, [(6, .int (nI q)), (5, .int (nI (ffN σ c q))), (4, .int (nI c)), (3, .int (nI (ffN σ b (σ 2)))), (2, .int (nI b)), (1, .int (nI (alN σ (σ 2)))), (0, .ref 114)], [], N)) (o := [shp 114 = (0, 10), aok shp 116 0 (nI 2)]) rfl ⟨rfl, ⟨rfl, vp_in_nI (by decide) (by decide)⟩⟩ ?_
                        refine Wn.br (fun h13 => ?_) (fun h13 => ?_)
                        · show Wn _ 116 _ (156, [(6, .int (nI q)), (5, .int (nI (ffN σ c q))), (4, .int (nI c)), (3, .int (nI (ffN σ b (σ 2)))), (2, .int (nI b)), (1, .int (nI (alN σ (σ 2)))), (0, .ref 114)], [], N)
                          have c9_2 := Bd_2 hB
                          have h13 := (n_le (rd0 loop_0.1 (by omega)) rfl (by omega) (by omega)).mp h13
                          have e8 : q = σ 2 := by omega
                          rw [e8]
                          have fl7 := ffN_lt hB (c := c) (by omega) (σ 2) c9_2
                          refine Wn.run (tab := tb_m_fair) rfl 3 (c' := (if (nI (ffN σ c (σ 2))) < (nI (ffN σ b (σ 2))) then 165 else 162, [(6, .int (nI (σ 2))), (5, .int (nI (ffN σ c (σ 2)))), (4, .int (nI c)), (3, .int (nI (ffN σ b (σ 2)))), (2, .int (nI b)), (1, .int (nI (alN σ (σ 2)))), (0, .ref 114)], [], N)) (o := []) rfl trivial ?_
                          refine Wn.br (fun h14 => ?_) (fun h14 => ?_)
                          · show Wn _ 116 _ (165, [(6, .int (nI (σ 2))), (5, .int (nI (ffN σ c (σ 2)))), (4, .int (nI c)), (3, .int (nI (ffN σ b (σ 2)))), (2, .int (nI b)), (1, .int (nI (alN σ (σ 2)))), (0, .ref 114)], [], N)
                            have c9_2 := Bd_2 hB
                            have h14 := (n_lt rfl rfl (by omega) (by omega)).mp h14
                            refine Wn.run (tab := tb_m_fair) rfl 6 (c' := (58, [(4, .int ((nI c) + (nI 1))), (2, .int (nI c)), (3, .int (nI (ffN σ c (σ 2)))), (6, .int (nI (σ 2))), (5, .int (nI (ffN σ c (σ 2)))), (1, .int (nI (alN σ (σ 2)))), (0, .ref 114)], [], N)) (o := []) rfl trivial ?_
                            rw [show ((nI c) + (nI 1)) = (nI (c + 1)) from (n_add rfl rfl)]
                            have e9 := frN_yes (L := (alN σ (σ 2))) ⟨by unfold inL; omega, by omega⟩ hb9 (by omega)
                            rw [show (nI c) = (oI (frN σ (alN σ (σ 2)) (c + 1))) from by rw [e9]; rfl, show (nI (ffN σ c (σ 2))) = (nI (frL σ (frN σ (alN σ (σ 2)) (c + 1)) 1000000)) from by rw [e9]; rfl]
                            refine Wn.lvp [0, 2, 1, 5, 6] (lv' := [(4, .int (nI (c + 1))), (3, .int (nI (frL σ (frN σ (alN σ (σ 2)) (c + 1)) 1000000))), (2, .int (oI (frN σ (alN σ (σ 2)) (c + 1)))), (1, .int (nI (alN σ (σ 2)))), (0, .ref 114)]) rfl ?_
                            exact ih (64 - (c + 1)) (by omega) (c + 1) N rfl (by omega) loop_0 loop_1 loop_2
                          · show Wn _ 116 _ (162, [(6, .int (nI (σ 2))), (5, .int (nI (ffN σ c (σ 2)))), (4, .int (nI c)), (3, .int (nI (ffN σ b (σ 2)))), (2, .int (nI b)), (1, .int (nI (alN σ (σ 2)))), (0, .ref 114)], [], N)
                            have c9_2 := Bd_2 hB
                            have h14 := mt (n_lt rfl rfl (by omega) (by omega)).mpr h14
                            refine Wn.run (tab := tb_m_fair) rfl 3 (c' := (58, [(4, .int ((nI c) + (nI 1))), (6, .int (nI (σ 2))), (5, .int (nI (ffN σ c (σ 2)))), (3, .int (nI (ffN σ b (σ 2)))), (2, .int (nI b)), (1, .int (nI (alN σ (σ 2)))), (0, .ref 114)], [], N)) (o := []) rfl trivial ?_
                            rw [show ((nI c) + (nI 1)) = (nI (c + 1)) from (n_add rfl rfl)]
                            have e9 := frN_keep (L := (alN σ (σ 2))) hb9 (by omega)
                            rw [show (nI b) = (oI (frN σ (alN σ (σ 2)) (c + 1))) from by rw [e9]; rfl, show (nI (ffN σ b (σ 2))) = (nI (frL σ (frN σ (alN σ (σ 2)) (c + 1)) 1000000)) from by rw [e9]; rfl]
                            refine Wn.lvp [0, 3, 4, 5, 6] (lv' := [(4, .int (nI (c + 1))), (3, .int (nI (frL σ (frN σ (alN σ (σ 2)) (c + 1)) 1000000))), (2, .int (oI (frN σ (alN σ (σ 2)) (c + 1)))), (1, .int (nI (alN σ (σ 2)))), (0, .ref 114)]) rfl ?_
                            exact ih (64 - (c + 1)) (by omega) (c + 1) N rfl (by omega) loop_0 loop_1 loop_2
                        · show Wn _ 116 _ (116, [(6, .int (nI q)), (5, .int (nI (ffN σ c q))), (4, .int (nI c)), (3, .int (nI (ffN σ b (σ 2)))), (2, .int (nI b)), (1, .int (nI (alN σ (σ 2)))), (0, .ref 114)], [], N)
                          have c9_2 := Bd_2 hB
                          have h13 := mt (n_le (rd0 loop_0.1 (by omega)) rfl (by omega) (by omega)).mpr h13
                          refine Wn.run (tab := tb_m_fair) rfl 3 (c' := (121, [(6, .int (nI q)), (5, .int (nI (ffN σ c q))), (4, .int (nI c)), (3, .int (nI (ffN σ b (σ 2)))), (2, .int (nI b)), (1, .int (nI (alN σ (σ 2)))), (0, .ref 114)], [.int (nI q), .ref 114, .int (nI (ffN σ c q))], N)) (o := []) rfl trivial ?_
                          refine Wn.callV (p := 114) (n := 2) (ix := 260) (ci := (10)) (fun r0 M0 => r0 = some (.int (b2 (fal σ q = true))) ∧ N = M0) [.int (nI q)] [.int (nI (ffN σ c q))] rfl rfl rfl rfl (Nat.le_of_ble_eq_true rfl) (Nat.le_of_ble_eq_true rfl) (w_m_hasFallen _ q (by omega) N σ ⟨loop_0.1, hB⟩ _ ⟨rfl, rfl⟩) ?_
                          rintro _ _ ⟨rfl, rfl⟩
                          show Wn _ 116 _ (124, [(6, .int (nI q)), (5, .int (nI (ffN σ c q))), (4, .int (nI c)), (3, .int (nI (ffN σ b (σ 2)))), (2, .int (nI b)), (1, .int (nI (alN σ (σ 2)))), (0, .ref 114)], [.int (b2 (fal σ q = true)), .int (nI (ffN σ c q))], N)
                          refine Wn.run (tab := tb_m_fair) rfl 1 (c' := (if (b2 (fal σ q = true)) = 0 then 131 else 127, [(6, .int (nI q)), (5, .int (nI (ffN σ c q))), (4, .int (nI c)), (3, .int (nI (ffN σ b (σ 2)))), (2, .int (nI b)), (1, .int (nI (alN σ (σ 2)))), (0, .ref 114)], [.int (nI (ffN σ c q))], N)) (o := []) rfl trivial ?_
                          refine Wn.br (fun h15 => ?_) (fun h15 => ?_)
                          · show Wn _ 116 _ (131, [(6, .int (nI q)), (5, .int (nI (ffN σ c q))), (4, .int (nI c)), (3, .int (nI (ffN σ b (σ 2)))), (2, .int (nI b)), (1, .int (nI (alN σ (σ 2)))), (0, .ref 114)], [.int (nI (ffN σ c q))], N)
                            have h15 := b2_neg h15
                            refine Wn.run (tab := tb_m_fair) rfl 7 (c' := (144, [(6, .int (nI q)), (5, .int (nI (ffN σ c q))), (4, .int (nI c)), (3, .int (nI (ffN σ b (σ 2)))), (2, .int (nI b)), (1, .int (nI (alN σ (σ 2)))), (0, .ref 114)], [.int (nI c), .int (N.1 116 (((nI 160) + (nI q))).toNatClampNeg), .int (nI (ffN σ c q))], N)) (o := [shp 114 = (0, 10), aok shp 116 0 ((nI 160) + (nI q))]) rfl ⟨rfl, (ak1 (n := 359) rfl rfl (n_add rfl rfl) (by omega))⟩ ?_
                            have f9 := Bd_q hB q (by omega)
                            rw [show (N.1 116 (((nI 160) + (nI q))).toNatClampNeg) = (nI (σ (160 + q))) from (rd1 loop_0.1 (n_add rfl rfl) (by omega) (by omega))]
                            refine Wn.callS (n := 2) (ix := 275) (fun r0 M0 => r0 = some (.int (nI (far (σ (160 + q)) c))) ∧ N = M0) [.int (nI (σ (160 + q))), .int (nI c)] [.int (nI (ffN σ c q))] rfl rfl rfl (Nat.le_of_ble_eq_true rfl) (Nat.le_of_ble_eq_true rfl) (w_m_apart _ (σ (160 + q)) c (by omega) (by omega) N _ ⟨rfl, rfl⟩) ?_
                            rintro _ _ ⟨rfl, rfl⟩
                            show Wn _ 116 _ (147, [(6, .int (nI q)), (5, .int (nI (ffN σ c q))), (4, .int (nI c)), (3, .int (nI (ffN σ b (σ 2)))), (2, .int (nI b)), (1, .int (nI (alN σ (σ 2)))), (0, .ref 114)], [.int (nI (far (σ (160 + q)) c)), .int (nI (ffN σ c q))], N)
                            have fr9 := far_lt (σ (160 + q)) c (by omega) (by omega)
                            refine Wn.run (tab := tb_m_fair) rfl 4 (c' := (105, [(6, .int ((nI q) + (nI 1))), (5, .int ((nI (ffN σ c q)) + (nI (far (σ (160 + q)) c)))), (4, .int (nI c)), (3, .int (nI (ffN σ b (σ 2)))), (2, .int (nI b)), (1, .int (nI (alN σ (σ 2)))), (0, .ref 114)], [], N)) (o := []) rfl trivial ?_
                            have f9 := Bd_q hB q (by omega)
                            have r9 := far_lt (σ (160 + q)) c (by omega) (by omega)
                            rw [show ((nI (ffN σ c q)) + (nI (far (σ (160 + q)) c))) = (nI ((ffN σ c q) + (far (σ (160 + q)) c))) from (n_add rfl rfl)]
                            rw [show ((nI q) + (nI 1)) = (nI (q + 1)) from (n_add rfl rfl)]
                            rw [show (nI ((ffN σ c q) + (far (σ (160 + q)) c))) = (nI (ffN σ c (q + 1))) from (by show _ = nI (ffN σ c q + (if fal σ q = true then 0 else far (σ (160 + q)) c)); rw [if_neg h15])]
                            exact ih_inn (σ 2 - (q + 1)) (by omega) (q + 1) rfl (by omega)
                          · show Wn _ 116 _ (127, [(6, .int (nI q)), (5, .int (nI (ffN σ c q))), (4, .int (nI c)), (3, .int (nI (ffN σ b (σ 2)))), (2, .int (nI b)), (1, .int (nI (alN σ (σ 2)))), (0, .ref 114)], [.int (nI (ffN σ c q))], N)
                            have h15 := b2_pos h15
                            refine Wn.run (tab := tb_m_fair) rfl 6 (c' := (105, [(6, .int ((nI q) + (nI 1))), (5, .int ((nI (ffN σ c q)) + (nI 0))), (4, .int (nI c)), (3, .int (nI (ffN σ b (σ 2)))), (2, .int (nI b)), (1, .int (nI (alN σ (σ 2)))), (0, .ref 114)], [], N)) (o := []) rfl trivial ?_
                            rw [show ((nI (ffN σ c q)) + (nI 0)) = (nI ((ffN σ c q) + 0)) from (n_add rfl rfl)]
                            rw [show ((nI q) + (nI 1)) = (nI (q + 1)) from (n_add rfl rfl)]
                            rw [show (nI ((ffN σ c q) + 0)) = (nI (ffN σ c (q + 1))) from (by show _ = nI (ffN σ c q + (if fal σ q = true then 0 else far (σ (160 + q)) c)); rw [if_pos h15])]
                            exact ih_inn (σ 2 - (q + 1)) (by omega) (q + 1) rfl (by omega)
                    exact inn (σ 2 - 0) 0 rfl (by omega)
                  · show Wn _ 116 _ (96, [(4, .int (nI c)), (3, .int (nI (ffN σ b (σ 2)))), (2, .int (nI b)), (1, .int (nI (alN σ (σ 2)))), (0, .ref 114)], [], N)
                    have c9_2 := Bd_2 hB
                    have g9 := Bd_c hB c (by omega)
                    have h12 := mt (n_le rfl (rd1 loop_0.1 (n_add rfl rfl) (by omega) (by omega)) (by omega) (by omega)).mpr h12
                    refine Wn.run (tab := tb_m_fair) rfl 3 (c' := (58, [(4, .int ((nI c) + (nI 1))), (3, .int (nI (ffN σ b (σ 2)))), (2, .int (nI b)), (1, .int (nI (alN σ (σ 2)))), (0, .ref 114)], [], N)) (o := []) rfl trivial ?_
                    rw [show ((nI c) + (nI 1)) = (nI (c + 1)) from (n_add rfl rfl)]
                    have e9 := (frN_no (L := (alN σ (σ 2))) (σ := σ) (c := c) (by unfold inL; omega)).trans hb9
                    rw [show (nI b) = (oI (frN σ (alN σ (σ 2)) (c + 1))) from by rw [e9]; rfl, show (nI (ffN σ b (σ 2))) = (nI (frL σ (frN σ (alN σ (σ 2)) (c + 1)) 1000000)) from by rw [e9]; rfl]
                    exact ih (64 - (c + 1)) (by omega) (c + 1) N rfl (by omega) loop_0 loop_1 loop_2
        exact loop (64 - 0) 0 M1 rfl (by omega) hk3 hk4 hF5
      · show Wn _ 116 _ (19, [(2, .int (nI q)), (1, .int (nI (alN σ q))), (0, .ref 114)], [], M1)
        have c9_2 := Bd_2 hB
        have h1 := mt (n_le (rd0 hk3.1 (by omega)) rfl (by omega) (by omega)).mpr h1
        refine Wn.run (tab := tb_m_fair) rfl 3 (c' := (22, [(2, .int (nI q)), (1, .int (nI (alN σ q))), (0, .ref 114)], [.int (nI q), .ref 114, .int (nI (alN σ q))], M1)) (o := []) rfl trivial ?_
        refine Wn.callV (p := 114) (n := 2) (ix := 260) (ci := (10)) (fun r0 M0 => r0 = some (.int (b2 (fal σ q = true))) ∧ M1 = M0) [.int (nI q)] [.int (nI (alN σ q))] rfl rfl rfl rfl (Nat.le_of_ble_eq_true rfl) (Nat.le_of_ble_eq_true rfl) (w_m_hasFallen _ q (by omega) M1 σ ⟨hk3.1, hB⟩ _ ⟨rfl, rfl⟩) ?_
        rintro _ _ ⟨rfl, rfl⟩
        show Wn _ 116 _ (25, [(2, .int (nI q)), (1, .int (nI (alN σ q))), (0, .ref 114)], [.int (b2 (fal σ q = true)), .int (nI (alN σ q))], M1)
        refine Wn.run (tab := tb_m_fair) rfl 1 (c' := (if (b2 (fal σ q = true)) = 0 then 32 else 28, [(2, .int (nI q)), (1, .int (nI (alN σ q))), (0, .ref 114)], [.int (nI (alN σ q))], M1)) (o := []) rfl trivial ?_
        refine Wn.br (fun h16 => ?_) (fun h16 => ?_)
        · show Wn _ 116 _ (32, [(2, .int (nI q)), (1, .int (nI (alN σ q))), (0, .ref 114)], [.int (nI (alN σ q))], M1)
          have h16 := b2_neg h16
          refine Wn.run (tab := tb_m_fair) rfl 10 (c' := (9, [(2, .int ((nI q) + (nI 1))), (1, .int ((nI (alN σ q)) + (M1.1 116 (((nI 78) + (nI q))).toNatClampNeg))), (0, .ref 114)], [], M1)) (o := [shp 114 = (0, 10), aok shp 116 0 ((nI 78) + (nI q))]) rfl ⟨rfl, (ak1 (n := 359) rfl rfl (n_add rfl rfl) (by omega))⟩ ?_
          have f9 := Bd_q hB q (by omega)
          rw [show (M1.1 116 (((nI 78) + (nI q))).toNatClampNeg) = (nI (σ (78 + q))) from (rd1 hk3.1 (n_add rfl rfl) (by omega) (by omega))]
          have f9 := Bd_q hB q (by omega)
          rw [show ((nI (alN σ q)) + (nI (σ (78 + q)))) = (nI ((alN σ q) + (σ (78 + q)))) from (n_add rfl rfl)]
          rw [show ((nI q) + (nI 1)) = (nI (q + 1)) from (n_add rfl rfl)]
          rw [show (nI ((alN σ q) + (σ (78 + q)))) = (nI (alN σ (q + 1))) from (by show _ = nI (alN σ q + (if fal σ q = true then 0 else σ (78 + q))); rw [if_neg h16])]
          exact ih_fst (σ 2 - (q + 1)) (by omega) (q + 1) rfl (by omega)
        · show Wn _ 116 _ (28, [(2, .int (nI q)), (1, .int (nI (alN σ q))), (0, .ref 114)], [.int (nI (alN σ q))], M1)
          have h16 := b2_pos h16
          refine Wn.run (tab := tb_m_fair) rfl 6 (c' := (9, [(2, .int ((nI q) + (nI 1))), (1, .int ((nI (alN σ q)) + (nI 0))), (0, .ref 114)], [], M1)) (o := []) rfl trivial ?_
          rw [show ((nI (alN σ q)) + (nI 0)) = (nI ((alN σ q) + 0)) from (n_add rfl rfl)]
          rw [show ((nI q) + (nI 1)) = (nI (q + 1)) from (n_add rfl rfl)]
          rw [show (nI ((alN σ q) + 0)) = (nI (alN σ (q + 1))) from (by show _ = nI (alN σ q + (if fal σ q = true then 0 else σ (78 + q))); rw [if_pos h16])]
          exact ih_fst (σ 2 - (q + 1)) (by omega) (q + 1) rfl (by omega)
  exact fst (σ 2 - 0) 0 rfl (by omega)
