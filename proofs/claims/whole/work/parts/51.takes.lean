/-- the names of the lake at p -/
def NmC (M : Mm) (p : Nat) (ν : Nat → Int64) (n : Nat) : Prop := ∀ q, q < n → M.2.1 (p + 1) q = ν q
def pcl (ν : Nat → Int64) (w : Int64) (n : Nat) : Option Nat := til (fun q => decide (ν q = w)) n 0
theorem til_lt {P : Nat → Bool} : ∀ n k b, til P n k = some b → k ≤ b ∧ b < k + n
  | 0, _, _, h => by cases h
  | n + 1, k, b, h => by
    unfold til at h
    split at h
    · cases h; omega
    · have := til_lt n (k + 1) b h
      omega
theorem nm_rd {f : Nat → Int64} {ν : Nat → Int64} {n k : Nat} {t : Int32} (h : ∀ q, q < n → f q = ν q) (e : t = nI k) (hk : k < n) (h31 : k < 2 ^ 31) : f t.toNatClampNeg = ν k := by rw [e, nI_clamp h31]; exact h k hk
theorem NmC_fr {L : List Nat} {M M' : Mm} {p n : Nat} {ν : Nat → Int64} (hF : Fr L M M') (hp : ¬ (p + 1) ∈ L) (h : NmC M p ν n) : NmC M' p ν n := fun q hq => by rw [(hF _ hp).2.1]; exact h q hq
set_option maxRecDepth 20000 in
theorem w_lk_personCalled (d : Nat) (M : Mm) (p : Nat) (σ : Nat → Nat) (hL : LkC M p σ) (c9_2 : σ 2 ≤ 6) (ν : Nat → Int64) (hN : NmC M p ν (σ 2)) (w : Int64) (Q : Po) (hQ : Q (some (.int (oI (pcl ν w (σ 2))))) M) : Wn (d + 0) 168 Q (0, lv_args 0 [.ref p, .long w], [], M) := by
  refine Wn.run (tab := tb_lk_personCalled) rfl 2 (c' := (2, [(3, .int (nI 0)), (0, .ref p), (1, .long w)], [], M)) (o := []) rfl trivial ?_
  have loop : ∀ (m : Nat) (z : Nat), σ 2 - z = m → (z ≤ σ 2) → (til (fun q => decide (ν q = w)) (σ 2 - z) z = til (fun q => decide (ν q = w)) (σ 2) 0) → Wn (d + 0) 168 Q (2, [(3, .int (nI z)), (0, .ref p), (1, .long w)], [], M) := by
    intro m
    induction m using Nat.strongRecOn with
    | _ m ih =>
      intro z hm loop_0 loop_1
      refine Wn.run (tab := tb_lk_personCalled) rfl 4 (c' := (if (M.1 p 2) ≤ (nI z) then 29 else 10, [(3, .int (nI z)), (0, .ref p), (1, .long w)], [], M)) (o := [shp p = (0, 2)]) rfl hL.1 ?_
      refine Wn.br (fun h1 => ?_) (fun h1 => ?_)
      · show Wn _ 168 _ (29, [(3, .int (nI z)), (0, .ref p), (1, .long w)], [], M)
        have c9_2 := Bd_2 hB
        have h1 := (n_le (hL.2.2.2.1 2 (by decide)) rfl (by omega) (by omega)).mp h1
        refine Wn.run (tab := tb_lk_personCalled) rfl 1 (c' := (30, [(3, .int (nI z)), (0, .ref p), (1, .long w)], [.int (-1 : Int32)], M)) (o := []) rfl trivial ?_
        have e9 : pcl ν w (σ 2) = none := by unfold pcl; rw [← loop_1, show σ 2 - z = 0 by omega]; rfl
        exact Wn.iret rfl (by rw [e9] at hQ; exact hQ)
      · show Wn _ 168 _ (10, [(3, .int (nI z)), (0, .ref p), (1, .long w)], [], M)
        have c9_2 := Bd_2 hB
        have h1 := mt (n_le (hL.2.2.2.1 2 (by decide)) rfl (by omega) (by omega)).mpr h1
        refine Wn.run (tab := tb_lk_personCalled) rfl 7 (c' := (if ¬ (lg_cmp (M.2.1 (p + 1) ((nI z)).toNatClampNeg) w) = 0 then 23 else 21, [(3, .int (nI z)), (0, .ref p), (1, .long w)], [], M)) (o := [shp p = (0, 2), aok shp (p + 1) 3 (nI z)]) rfl ⟨hL.1, (ak2 hL.2.1 rfl (by omega))⟩ ?_
        refine Wn.br (fun h2 => ?_) (fun h2 => ?_)
        · show Wn _ 168 _ (23, [(3, .int (nI z)), (0, .ref p), (1, .long w)], [], M)
          rw [show (M.2.1 (p + 1) ((nI z)).toNatClampNeg) = (ν z) from (nm_rd hN rfl (by omega) (by omega))] at h2
          have h2 : ¬ ν z = w := fun q9 => h2 ((lg_cmp_eq _ _).mpr q9)
          refine Wn.run (tab := tb_lk_personCalled) rfl 2 (c' := (2, [(3, .int ((nI z) + (nI 1))), (0, .ref p), (1, .long w)], [], M)) (o := []) rfl trivial ?_
          rw [show ((nI z) + (nI 1)) = (nI (z + 1)) from (n_add rfl rfl)]
          exact ih _ (by omega) (z + 1) rfl (by omega) (by rw [← loop_1, show σ 2 - z = (σ 2 - (z + 1)) + 1 by omega]; show _ = (if _ then _ else _); rw [if_neg (by simpa using h2)])
        · show Wn _ 168 _ (21, [(3, .int (nI z)), (0, .ref p), (1, .long w)], [], M)
          rw [show (M.2.1 (p + 1) ((nI z)).toNatClampNeg) = (ν z) from (nm_rd hN rfl (by omega) (by omega))] at h2
          have h2 : ν z = w := (lg_cmp_eq _ _).mp (Classical.not_not.mp h2)
          refine Wn.run (tab := tb_lk_personCalled) rfl 1 (c' := (22, [(3, .int (nI z)), (0, .ref p), (1, .long w)], [.int (nI z)], M)) (o := []) rfl trivial ?_
          have e9 : pcl ν w (σ 2) = some z := by unfold pcl; rw [← loop_1, show σ 2 - z = (σ 2 - (z + 1)) + 1 by omega]; unfold til; rw [if_pos (by simpa using h2)]
          exact Wn.iret rfl (by rw [e9] at hQ; exact hQ)
  exact loop _ 0 rfl (by omega) rfl
