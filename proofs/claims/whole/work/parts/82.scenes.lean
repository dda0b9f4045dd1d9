/-! Copies of scenes. -/
/-- the sentence at b: its parts, as ordinals of kinds, signs, numbers -/
def SnC (M : Mm) (b n : Nat) (A S N : Nat → Nat) : Prop := M.1 b 3 = nI n ∧ n ≤ 40 ∧ ∀ i, i < n → M.2.2 (b + 1) i = 100000 + A i ∧ M.2.2 (b + 2) i = 100000 + S i ∧ M.1 (b + 3) i = nI (N i) ∧ A i < 36 ∧ S i < 36
def PLc (M0 : Mm) (a : Nat) (σ : Nat → Nat) (ν : Nat → Int64) : Po := fun r0 M' => r0 = none ∧ LkC M' a σ ∧ NmC M' a ν (σ 2) ∧ Fr [a, a + 1, a + 2] M0 M'
def PSn (M0 : Mm) (a n : Nat) (A S N : Nat → Nat) : Po := fun r0 M' => r0 = none ∧ SnC M' a n A S N ∧ Fr [a, a + 1, a + 2, a + 3] M0 M'
def PSC (M0 : Mm) (a : Nat) (σ : Nat → Nat) (ν : Nat → Int64) (n : Nat) (A S N : Nat → Nat) : Po := fun r0 M' => r0 = none ∧ StC M' (a + 4) σ ∧ NmC M' (a + 1) ν (σ 2) ∧ SnC M' (a + 9) n A S N ∧ M'.1 (a + 4) 11 = M0.1 (a + 4) 11 ∧ M'.1 (a + 4) 12 = M0.1 (a + 4) 12 ∧ Fr [a + 1, a + 2, a + 3, a + 4, a + 5, a + 6, a + 7, a + 8, a + 9, a + 10, a + 11, a + 12] M0 M'
def cpG {α : Type} (P Q : Nat → α) (z : Nat) : Nat → α := fun i => if i < z then Q i else P i
theorem cpG_0 {α : Type} (P Q : Nat → α) : cpG P Q 0 = P := by funext i; exact if_neg (by omega)
theorem cpG_at {α : Type} {P Q : Nat → α} {z i : Nat} (h : i < z) : cpG P Q z i = Q i := if_pos h
theorem cpI_s (P Q : Nat → Int32) (z : Nat) : upd (cpG P Q z) z (Q z) = cpG P Q (z + 1) := by
  funext k
  by_cases e : k = z
  · rw [e, pk_us]; exact (if_pos (by omega)).symm
  · rw [pk_un e]; unfold cpG
    by_cases h2 : k < z
    · rw [if_pos h2, if_pos (show k < z + 1 by omega)]
    · rw [if_neg h2, if_neg (show ¬ k < z + 1 by omega)]
theorem cpR_s (P Q : Nat → Nat) (z : Nat) : va_up (cpG P Q z) z (Q z) = cpG P Q (z + 1) := by
  funext k
  by_cases e : k = z
  · rw [e, va_up_self]; exact (if_pos (by omega)).symm
  · rw [va_up_ne _ _ e]; unfold cpG
    by_cases h2 : k < z
    · rw [if_pos h2, if_pos (show k < z + 1 by omega)]
    · rw [if_neg h2, if_neg (show ¬ k < z + 1 by omega)]
theorem SnC_fr {K : List Nat} {M M' : Mm} {b n : Nat} {A S N : Nat → Nat} (hF : Fr K M M') (h0 : ¬ b ∈ K) (h1 : ¬ b + 1 ∈ K) (h2 : ¬ b + 2 ∈ K) (h3 : ¬ b + 3 ∈ K) (h : SnC M b n A S N) : SnC M' b n A S N := by
  unfold SnC
  rw [(hF b h0).1, (hF _ h1).2.2, (hF _ h2).2.2, (hF _ h3).1]
  exact h
set_option maxRecDepth 20000 in
theorem c_lk_copyFrom_3_16 (d : Nat) (M : Mm) (σ : Nat → Nat) (ν : Nat → Int64) (h26 : σ 2 ≤ 6) (hL : LkC M 16 σ) (hN : NmC M 16 ν (σ 2)) : Wn (d + 0) 163 (PLc M 3 σ ν) (0, lv_args 0 [.ref 3, .ref 16], [], M) := by
  have hF := fr_rf [3, 4, 5] M
  obtain ⟨ga, ha⟩ : ∃ g, M.1 3 = g := ⟨_, rfl⟩
  obtain ⟨gb, hb⟩ : ∃ g, M.1 16 = g := ⟨_, rfl⟩
  have h8 : ∀ k, k < 8 → gb k = nI (σ k) := by rw [← hb]; exact hL.2.2.2.1
  refine Wn.run (tab := tb_lk_copyFrom) rfl 4 (c' := (8, [(0, .ref 3), (1, .ref 16)], [], (mI M 3 (upd (M.1 3) 0 (M.1 16 0))))) (o := [shp 16 = (0, 2), shp 3 = (0, 2)]) rfl ⟨rfl, rfl⟩ ?_
  rw [show (M.1 16 0) = (nI (σ 0)) from (fr_eq hb (show gb 0 = (nI (σ 0)) from (h8 0 (by decide))))]
  generalize hM2 : (mI M 3 (upd (M.1 3) 0 (nI (σ 0)))) = M1
  have hk3 := fI_up hM2 ha
  have hk4 := fI_ne hM2 (by decide) hb
  have hF5 := fr_sI hF hM2 (by decide)
  show Wn _ 163 _ (8, [(0, .ref 3), (1, .ref 16)], [], M1)
  refine Wn.run (tab := tb_lk_copyFrom) rfl 4 (c' := (16, [(0, .ref 3), (1, .ref 16)], [], (mI M1 3 (upd (M1.1 3) 1 (M1.1 16 1))))) (o := [shp 16 = (0, 2), shp 3 = (0, 2)]) rfl ⟨rfl, rfl⟩ ?_
  rw [show (M1.1 16 1) = (nI (σ 1)) from (fr_eq hk4 (show gb 1 = (nI (σ 1)) from (h8 1 (by decide))))]
  generalize hM7 : (mI M1 3 (upd (M1.1 3) 1 (nI (σ 1)))) = M6
  have hk8 := fI_up hM7 hk3
  have hk9 := fI_ne hM7 (by decide) hk4
  have hF10 := fr_sI hF5 hM7 (by decide)
  show Wn _ 163 _ (16, [(0, .ref 3), (1, .ref 16)], [], M6)
  refine Wn.run (tab := tb_lk_copyFrom) rfl 4 (c' := (24, [(0, .ref 3), (1, .ref 16)], [], (mI M6 3 (upd (M6.1 3) 2 (M6.1 16 2))))) (o := [shp 16 = (0, 2), shp 3 = (0, 2)]) rfl ⟨rfl, rfl⟩ ?_
  rw [show (M6.1 16 2) = (nI (σ 2)) from (fr_eq hk9 (show gb 2 = (nI (σ 2)) from (h8 2 (by decide))))]
  generalize hM12 : (mI M6 3 (upd (M6.1 3) 2 (nI (σ 2)))) = M11
  have hk13 := fI_up hM12 hk8
  have hk14 := fI_ne hM12 (by decide) hk9
  have hF15 := fr_sI hF10 hM12 (by decide)
  show Wn _ 163 _ (24, [(0, .ref 3), (1, .ref 16)], [], M11)
  refine Wn.run (tab := tb_lk_copyFrom) rfl 4 (c' := (32, [(0, .ref 3), (1, .ref 16)], [], (mI M11 3 (upd (M11.1 3) 3 (M11.1 16 3))))) (o := [shp 16 = (0, 2), shp 3 = (0, 2)]) rfl ⟨rfl, rfl⟩ ?_
  rw [show (M11.1 16 3) = (nI (σ 3)) from (fr_eq hk14 (show gb 3 = (nI (σ 3)) from (h8 3 (by decide))))]
  generalize hM17 : (mI M11 3 (upd (M11.1 3) 3 (nI (σ 3)))) = M16
  have hk18 := fI_up hM17 hk13
  have hk19 := fI_ne hM17 (by decide) hk14
  have hF20 := fr_sI hF15 hM17 (by decide)
  show Wn _ 163 _ (32, [(0, .ref 3), (1, .ref 16)], [], M16)
  refine Wn.run (tab := tb_lk_copyFrom) rfl 4 (c' := (40, [(0, .ref 3), (1, .ref 16)], [], (mI M16 3 (upd (M16.1 3) 4 (M16.1 16 4))))) (o := [shp 16 = (0, 2), shp 3 = (0, 2)]) rfl ⟨rfl, rfl⟩ ?_
  rw [show (M16.1 16 4) = (nI (σ 4)) from (fr_eq hk19 (show gb 4 = (nI (σ 4)) from (h8 4 (by decide))))]
  generalize hM22 : (mI M16 3 (upd (M16.1 3) 4 (nI (σ 4)))) = M21
  have hk23 := fI_up hM22 hk18
  have hk24 := fI_ne hM22 (by decide) hk19
  have hF25 := fr_sI hF20 hM22 (by decide)
  show Wn _ 163 _ (40, [(0, .ref 3), (1, .ref 16)], [], M21)
  refine Wn.run (tab := tb_lk_copyFrom) rfl 4 (c' := (48, [(0, .ref 3), (1, .ref 16)], [], (mI M21 3 (upd (M21.1 3) 5 (M21.1 16 5))))) (o := [shp 16 = (0, 2), shp 3 = (0, 2)]) rfl ⟨rfl, rfl⟩ ?_
  rw [show (M21.1 16 5) = (nI (σ 5)) from (fr_eq hk24 (show gb 5 = (nI (σ 5)) from (h8 5 (by decide))))]
  generalize hM27 : (mI M21 3 (upd (M21.1 3) 5 (nI (σ 5)))) = M26
  have hk28 := fI_up hM27 hk23
  have hk29 := fI_ne hM27 (by decide) hk24
  have hF30 := fr_sI hF25 hM27 (by decide)
  show Wn _ 163 _ (48, [(0, .ref 3), (1, .ref 16)], [], M26)
  refine Wn.run (tab := tb_lk_copyFrom) rfl 4 (c' := (56, [(0, .ref 3), (1, .ref 16)], [], (mI M26 3 (upd (M26.1 3) 6 (M26.1 16 6))))) (o := [shp 16 = (0, 2), shp 3 = (0, 2)]) rfl ⟨rfl, rfl⟩ ?_
  rw [show (M26.1 16 6) = (nI (σ 6)) from (fr_eq hk29 (show gb 6 = (nI (σ 6)) from (h8 6 (by decide))))]
  generalize hM32 : (mI M26 3 (upd (M26.1 3) 6 (nI (σ 6)))) = M31
  have hk33 := fI_up hM32 hk28
  have hk34 := fI_ne hM32 (by decide) hk29
  have hF35 := fr_sI hF30 hM32 (by decide)
  show Wn _ 163 _ (56, [(0, .ref 3), (1, .ref 16)], [], M31)
  refine Wn.run (tab := tb_lk_copyFrom) rfl 4 (c' := (64, [(0, .ref 3), (1, .ref 16)], [], (mI M31 3 (upd (M31.1 3) 7 (M31.1 16 7))))) (o := [shp 16 = (0, 2), shp 3 = (0, 2)]) rfl ⟨rfl, rfl⟩ ?_
  rw [show (M31.1 16 7) = (nI (σ 7)) from (fr_eq hk34 (show gb 7 = (nI (σ 7)) from (h8 7 (by decide))))]
  generalize hM37 : (mI M31 3 (upd (M31.1 3) 7 (nI (σ 7)))) = M36
  have hk38 := fI_up hM37 hk33
  have hk39 := fI_ne hM37 (by decide) hk34
  have hF40 := fr_sI hF35 hM37 (by decide)
  show Wn _ 163 _ (64, [(0, .ref 3), (1, .ref 16)], [], M36)
  refine Wn.run (tab := tb_lk_copyFrom) rfl 8 (c' := (79, [(0, .ref 3), (1, .ref 16)], [], (mJ M36 4 (va_cpy (M36.2.1 17) (M36.2.1 4) 0 0 6)))) (o := [shp 16 = (0, 2), shp 3 = (0, 2), (nI 0) = 0, (nI 0) = 0, ¬ (nI 6) < 0, (shp 17).1 = 4, (shp 4).1 = 4, 6 ≤ (shp 17).2, 6 ≤ (shp 4).2, ct [] ≤ 8]) rfl ⟨rfl, rfl, rfl, rfl, (by decide), rfl, rfl, (Nat.le_refl 6), (Nat.le_refl 6), (Nat.le_of_ble_eq_true rfl)⟩ ?_
  generalize hM42 : (mJ M36 4 (va_cpy (M36.2.1 17) (M36.2.1 4) 0 0 6)) = M41
  have hk43 := fI_oJ hM42 hk38
  have hk44 := fI_oJ hM42 hk39
  have hF45 := fr_sJ hF40 hM42 (by decide)
  show Wn _ 163 _ (79, [(0, .ref 3), (1, .ref 16)], [], M41)
  refine Wn.run (tab := tb_lk_copyFrom) rfl 8 (c' := (94, [(0, .ref 3), (1, .ref 16)], [], (mI M41 5 (va_cpy (M41.1 18) (M41.1 5) 0 0 6)))) (o := [shp 16 = (0, 2), shp 3 = (0, 2), (nI 0) = 0, (nI 0) = 0, ¬ (nI 6) < 0, (shp 18).1 = 1, (shp 5).1 = 1, 6 ≤ (shp 18).2, 6 ≤ (shp 5).2, ct [] ≤ 8]) rfl ⟨rfl, rfl, rfl, rfl, (by decide), rfl, rfl, (Nat.le_refl 6), (Nat.le_refl 6), (Nat.le_of_ble_eq_true rfl)⟩ ?_
  generalize hM47 : (mI M41 5 (va_cpy (M41.1 18) (M41.1 5) 0 0 6)) = M46
  have hk48 := fI_ne hM47 (by decide) hk43
  have hk49 := fI_ne hM47 (by decide) hk44
  have hF50 := fr_sI hF45 hM47 (by decide)
  show Wn _ 163 _ (94, [(0, .ref 3), (1, .ref 16)], [], M46)
  refine Wn.vret rfl ⟨rfl, ⟨rfl, rfl, rfl, ?_, ?_⟩, ?_, hF50⟩
  · rw [hk48]
    intro k hk
    match k, hk with
    | 0, _ => exact ((pk_un (by decide)).trans ((pk_un (by decide)).trans ((pk_un (by decide)).trans ((pk_un (by decide)).trans ((pk_un (by decide)).trans ((pk_un (by decide)).trans ((pk_un (by decide)).trans pk_us)))))))
    | 1, _ => exact ((pk_un (by decide)).trans ((pk_un (by decide)).trans ((pk_un (by decide)).trans ((pk_un (by decide)).trans ((pk_un (by decide)).trans ((pk_un (by decide)).trans pk_us))))))
    | 2, _ => exact ((pk_un (by decide)).trans ((pk_un (by decide)).trans ((pk_un (by decide)).trans ((pk_un (by decide)).trans ((pk_un (by decide)).trans pk_us)))))
    | 3, _ => exact ((pk_un (by decide)).trans ((pk_un (by decide)).trans ((pk_un (by decide)).trans ((pk_un (by decide)).trans pk_us))))
    | 4, _ => exact ((pk_un (by decide)).trans ((pk_un (by decide)).trans ((pk_un (by decide)).trans pk_us)))
    | 5, _ => exact ((pk_un (by decide)).trans ((pk_un (by decide)).trans pk_us))
    | 6, _ => exact ((pk_un (by decide)).trans pk_us)
    | 7, _ => exact pk_us
  · intro q hq
    have e1 := cpy_at hM47 q (by omega)
    rw [(hF45 18 (by decide)).1] at e1
    exact e1.trans (hL.2.2.2.2 q hq)
  · intro q hq
    have e1 := cpyJ_at hM42 q (by omega)
    rw [(hF40 17 (by decide)).2.1] at e1
    have e2 : M46.2.1 = M41.2.1 := by rw [← hM47]; rfl
    rw [e2]
    exact e1.trans (hN q hq)
set_option maxRecDepth 20000 in
theorem c_sn_copyFrom_11_24 (d : Nat) (M : Mm) (n : Nat) (A S U : Nat → Nat) (hS : SnC M 24 n A S U) : Wn (d + 0) 186 (PSn M 11 n A S U) (0, lv_args 0 [.ref 11, .ref 24], [], M) := by
  have hF := fr_rf [11, 12, 13, 14] M
  obtain ⟨ga, ha⟩ : ∃ g, M.1 11 = g := ⟨_, rfl⟩
  obtain ⟨gb, hb⟩ : ∃ g, M.1 24 = g := ⟨_, rfl⟩
  obtain ⟨pa, ha1⟩ : ∃ g, M.2.2 12 = g := ⟨_, rfl⟩
  obtain ⟨pb, hb1⟩ : ∃ g, M.2.2 25 = g := ⟨_, rfl⟩
  obtain ⟨sa, ha2⟩ : ∃ g, M.2.2 13 = g := ⟨_, rfl⟩
  obtain ⟨sb, hb2⟩ : ∃ g, M.2.2 26 = g := ⟨_, rfl⟩
  obtain ⟨na, ha3⟩ : ∃ g, M.1 14 = g := ⟨_, rfl⟩
  obtain ⟨nb, hb3⟩ : ∃ g, M.1 27 = g := ⟨_, rfl⟩
  have h3 : gb 3 = nI n := by rw [← hb]; exact hS.1
  have h40 := hS.2.1
  have hIK25 : ∀ i, i < n → isK (pb i) := fun i hi => by have q := hS.2.2 i hi; rw [show M.2.2 (24 + 1) = pb from hb1] at q; rw [q.1]; exact ⟨by omega, by omega⟩
  have hIK26 : ∀ i, i < n → isK (sb i) := fun i hi => by have q := hS.2.2 i hi; rw [show M.2.2 (24 + 2) = sb from hb2] at q; rw [q.2.1]; exact ⟨by omega, by omega⟩
  refine Wn.run (tab := tb_sn_copyFrom) rfl 4 (c' := (8, [(0, .ref 11), (1, .ref 24)], [], (mI M 11 (upd (M.1 11) 3 (M.1 24 3))))) (o := [shp 24 = (0, 4), shp 11 = (0, 4)]) rfl ⟨rfl, rfl⟩ ?_
  rw [show (M.1 24 3) = (nI n) from (fr_eq hb (show gb 3 = (nI n) from h3))]
  generalize hM2 : (mI M 11 (upd (M.1 11) 3 (nI n))) = M1
  have hk3 := fI_up hM2 ha
  have hk4 := fI_ne hM2 (by decide) hb
  have hk5 := fR_oI hM2 ha1
  have hk6 := fR_oI hM2 hb1
  have hk7 := fR_oI hM2 ha2
  have hk8 := fR_oI hM2 hb2
  have hk9 := fI_ne hM2 (by decide) ha3
  have hk10 := fI_ne hM2 (by decide) hb3
  have hF11 := fr_sI hF hM2 (by decide)
  show Wn _ 186 _ (8, [(0, .ref 11), (1, .ref 24)], [], M1)
  refine Wn.run (tab := tb_sn_copyFrom) rfl 4 (c' := (16, [(0, .ref 11), (1, .ref 24)], [], (mI M1 11 (upd (M1.1 11) 4 (M1.1 24 4))))) (o := [shp 24 = (0, 4), shp 11 = (0, 4)]) rfl ⟨rfl, rfl⟩ ?_
  rw [show (M1.1 24 4) = (gb 4) from (fr_eq hk4 (show gb 4 = (gb 4) from rfl))]
  generalize hM13 : (mI M1 11 (upd (M1.1 11) 4 (gb 4))) = M12
  have hk14 := fI_up hM13 hk3
  have hk15 := fI_ne hM13 (by decide) hk4
  have hk16 := fR_oI hM13 hk5
  have hk17 := fR_oI hM13 hk6
  have hk18 := fR_oI hM13 hk7
  have hk19 := fR_oI hM13 hk8
  have hk20 := fI_ne hM13 (by decide) hk9
  have hk21 := fI_ne hM13 (by decide) hk10
  have hF22 := fr_sI hF11 hM13 (by decide)
  show Wn _ 186 _ (16, [(0, .ref 11), (1, .ref 24)], [], M12)
  refine Wn.run (tab := tb_sn_copyFrom) rfl 2 (c' := (18, [(2, .int (nI 0)), (0, .ref 11), (1, .ref 24)], [], M12)) (o := []) rfl trivial ?_
  have loop : ∀ (m z : Nat) (N : Mm), n - z = m → z ≤ n → (N.1 11 = (upd (upd ga 3 (nI n)) 4 (gb 4))) → (N.1 24 = gb) → (N.2.2 12 = (cpG pa pb z)) → (N.2.2 25 = pb) → (N.2.2 13 = (cpG sa sb z)) → (N.2.2 26 = sb) → (N.1 14 = (cpG na nb z)) → (N.1 27 = nb) → (Fr [11, 12, 13, 14] M N) → Wn (d + 0) 186 (PSn M 11 n A S U) (18, [(2, .int (nI z)), (0, .ref 11), (1, .ref 24)], [], N) := by
    intro m
    induction m using Nat.strongRecOn with
    | _ m ih =>
      intro z N hm hz loop_0 loop_1 loop_2 loop_3 loop_4 loop_5 loop_6 loop_7 loop_8
      refine Wn.run (tab := tb_sn_copyFrom) rfl 4 (c' := (if (N.1 11 3) ≤ (nI z) then 68 else 26, [(2, .int (nI z)), (0, .ref 11), (1, .ref 24)], [], N)) (o := [shp 11 = (0, 4)]) rfl rfl ?_
      refine Wn.br (fun h1 => ?_) (fun h1 => ?_)
      · show Wn _ 186 _ (68, [(2, .int (nI z)), (0, .ref 11), (1, .ref 24)], [], N)
        have h1 := (n_le (fr_eq loop_0 (show (upd (upd ga 3 (nI n)) 4 (gb 4)) 3 = (nI n) from rfl)) rfl (by omega) (by omega)).mp h1
        have e9 : z = n := by omega
        subst e9
        refine Wn.vret rfl ⟨rfl, ⟨by rw [loop_0]; rfl, hS.2.1, fun i hi => ?_⟩, loop_8⟩
        have hi3 := hS.2.2 i hi
        rw [show M.2.2 (24 + 1) = pb from hb1, show M.2.2 (24 + 2) = sb from hb2, show M.1 (24 + 3) = nb from hb3] at hi3
        rw [show N.2.2 (11 + 1) = _ from loop_2, show N.2.2 (11 + 2) = _ from loop_4, show N.1 (11 + 3) = _ from loop_6, cpG_at hi, cpG_at hi, cpG_at hi]
        exact hi3
      · show Wn _ 186 _ (26, [(2, .int (nI z)), (0, .ref 11), (1, .ref 24)], [], N)
        have h1 := mt (n_le (fr_eq loop_0 (show (upd (upd ga 3 (nI n)) 4 (gb 4)) 3 = (nI n) from rfl)) rfl (by omega) (by omega)).mpr h1
        refine Wn.run (tab := tb_sn_copyFrom) rfl 8 (c' := (38, [(2, .int (nI z)), (0, .ref 11), (1, .ref 24)], [], (mR N 12 (va_up (N.2.2 12) ((nI z)).toNatClampNeg (N.2.2 25 ((nI z)).toNatClampNeg))))) (o := [shp 11 = (0, 4), shp 24 = (0, 4), aok shp 25 4 (nI z), aok shp 12 4 (nI z), isK (N.2.2 25 ((nI z)).toNatClampNeg)]) rfl ⟨rfl, rfl, (ak1 (n := 40) rfl rfl rfl (by omega)), (ak1 (n := 40) rfl rfl rfl (by omega)), (by rw [nI_clamp (by omega), loop_3]; exact hIK25 z (by omega))⟩ ?_
        rw [show (N.2.2 25 ((nI z)).toNatClampNeg) = (pb z) from (fr_rdxR loop_3 rfl (by omega))]
        generalize hM24 : (mR N 12 (va_up (N.2.2 12) ((nI z)).toNatClampNeg (pb z))) = M23
        have hk25 := fI_oR hM24 loop_0
        have hk26 := fI_oR hM24 loop_1
        have hk27 := fR_upx hM24 loop_2 (cl1 rfl (by omega))
        have hk28 := fR_ne hM24 (by decide) loop_3
        have hk29 := fR_ne hM24 (by decide) loop_4
        have hk30 := fR_ne hM24 (by decide) loop_5
        have hk31 := fI_oR hM24 loop_6
        have hk32 := fI_oR hM24 loop_7
        have hF33 := fr_sR loop_8 hM24 (by decide)
        show Wn _ 186 _ (38, [(2, .int (nI z)), (0, .ref 11), (1, .ref 24)], [], M23)
        refine Wn.run (tab := tb_sn_copyFrom) rfl 8 (c' := (50, [(2, .int (nI z)), (0, .ref 11), (1, .ref 24)], [], (mR M23 13 (va_up (M23.2.2 13) ((nI z)).toNatClampNeg (M23.2.2 26 ((nI z)).toNatClampNeg))))) (o := [shp 11 = (0, 4), shp 24 = (0, 4), aok shp 26 4 (nI z), aok shp 13 4 (nI z), isK (M23.2.2 26 ((nI z)).toNatClampNeg)]) rfl ⟨rfl, rfl, (ak1 (n := 40) rfl rfl rfl (by omega)), (ak1 (n := 40) rfl rfl rfl (by omega)), (by rw [nI_clamp (by omega), hk30]; exact hIK26 z (by omega))⟩ ?_
        rw [show (M23.2.2 26 ((nI z)).toNatClampNeg) = (sb z) from (fr_rdxR hk30 rfl (by omega))]
        generalize hM35 : (mR M23 13 (va_up (M23.2.2 13) ((nI z)).toNatClampNeg (sb z))) = M34
        have hk36 := fI_oR hM35 hk25
        have hk37 := fI_oR hM35 hk26
        have hk38 := fR_ne hM35 (by decide) hk27
        have hk39 := fR_ne hM35 (by decide) hk28
        have hk40 := fR_upx hM35 hk29 (cl1 rfl (by omega))
        have hk41 := fR_ne hM35 (by decide) hk30
        have hk42 := fI_oR hM35 hk31
        have hk43 := fI_oR hM35 hk32
        have hF44 := fr_sR hF33 hM35 (by decide)
        show Wn _ 186 _ (50, [(2, .int (nI z)), (0, .ref 11), (1, .ref 24)], [], M34)
        refine Wn.run (tab := tb_sn_copyFrom) rfl 8 (c' := (62, [(2, .int (nI z)), (0, .ref 11), (1, .ref 24)], [], (mI M34 14 (upd (M34.1 14) ((nI z)).toNatClampNeg (M34.1 27 ((nI z)).toNatClampNeg))))) (o := [shp 11 = (0, 4), shp 24 = (0, 4), aok shp 27 0 (nI z), aok shp 14 0 (nI z)]) rfl ⟨rfl, rfl, (ak1 (n := 40) rfl rfl rfl (by omega)), (ak1 (n := 40) rfl rfl rfl (by omega))⟩ ?_
        rw [show (M34.1 27 ((nI z)).toNatClampNeg) = (nb z) from (fr_rdx hk43 rfl (by omega))]
        generalize hM46 : (mI M34 14 (upd (M34.1 14) ((nI z)).toNatClampNeg (nb z))) = M45
        have hk47 := fI_ne hM46 (by decide) hk36
        have hk48 := fI_ne hM46 (by decide) hk37
        have hk49 := fR_oI hM46 hk38
        have hk50 := fR_oI hM46 hk39
        have hk51 := fR_oI hM46 hk40
        have hk52 := fR_oI hM46 hk41
        have hk53 := fI_upx hM46 hk42 (cl1 rfl (by omega))
        have hk54 := fI_ne hM46 (by decide) hk43
        have hF55 := fr_sI hF44 hM46 (by decide)
        show Wn _ 186 _ (62, [(2, .int (nI z)), (0, .ref 11), (1, .ref 24)], [], M45)
        refine Wn.run (tab := tb_sn_copyFrom) rfl 2 (c' := (18, [(2, .int ((nI z) + (nI 1))), (0, .ref 11), (1, .ref 24)], [], M45)) (o := []) rfl trivial ?_
        rw [show ((nI z) + (nI 1)) = (nI (z + 1)) from (n_add rfl rfl)]
        exact ih (n - (z + 1)) (by omega) (z + 1) M45 rfl (by omega) hk47 hk48 (by rw [← cpR_s]; exact hk49) hk50 (by rw [← cpR_s]; exact hk51) hk52 (by rw [← cpI_s]; exact hk53) hk54 hF55
  exact loop (n - 0) 0 M12 rfl (by omega) hk14 hk15 (by rw [cpG_0]; exact hk16) hk17 (by rw [cpG_0]; exact hk18) hk19 (by rw [cpG_0]; exact hk20) hk21 hF22
set_option maxRecDepth 20000 in
theorem c_sc_copyFrom_2_15 (d : Nat) (M : Mm) (σ : Nat → Nat) (ν : Nat → Int64) (n : Nat) (A S N : Nat → Nat) (hS : StC M 19 σ) (hN : NmC M 16 ν (σ 2)) (hP : SnC M 24 n A S N) : Wn (d + 1) 183 (PSC M 2 σ ν n A S N) (0, lv_args 0 [.ref 2, .ref 15], [], M) := by
  have h26 := hS.2.2.1.2.2.2.2.2.2
  refine Wn.run (tab := tb_sc_copyFrom) rfl 4 (c' := (8, [(0, .ref 2), (1, .ref 15)], [.ref 16, .ref 3], M)) (o := [shp 2 = (0, 8), shp 15 = (0, 8)]) rfl ⟨rfl, rfl⟩ ?_
  refine Wn.callV (p := 3) (n := 2) (ix := 39) (ci := (2)) (PLc M 3 σ ν) [.ref 16] [] rfl rfl rfl rfl (Nat.le_of_ble_eq_true rfl) (Nat.le_of_ble_eq_true rfl) (c_lk_copyFrom_3_16 _ M σ ν h26 hS.2.1 hN) ?_
  rintro _ M1 ⟨rfl, l1, l2, l3⟩
  show Wn _ 183 _ (11, [(0, .ref 2), (1, .ref 15)], [], M1)
  refine Wn.run (tab := tb_sc_copyFrom) rfl 4 (c' := (19, [(0, .ref 2), (1, .ref 15)], [.ref 19, .ref 6], M1)) (o := [shp 2 = (0, 8), shp 15 = (0, 8)]) rfl ⟨rfl, rfl⟩ ?_
  refine Wn.callV (p := 6) (n := 2) (ix := 42) (ci := (5)) (PS 6 M1 σ (M1.1 6 11) (M1.1 6 12) none) [.ref 19] [] rfl rfl rfl rfl (Nat.le_of_ble_eq_true rfl) (Nat.le_of_ble_eq_true rfl) (c_st_copyFrom _ M1 6 19 σ ⟨rfl, rfl, rfl, rfl, rfl, rfl, rfl, rfl, by decide⟩ l1 (fr_st l3 hS (by decide)) (by decide) (by decide) _ _ rfl rfl) ?_
  rintro _ M2 ⟨rfl, s1, s2, s3, s4⟩
  show Wn _ 183 _ (22, [(0, .ref 2), (1, .ref 15)], [], M2)
  refine Wn.run (tab := tb_sc_copyFrom) rfl 4 (c' := (30, [(0, .ref 2), (1, .ref 15)], [.ref 24, .ref 11], M2)) (o := [shp 2 = (0, 8), shp 15 = (0, 8)]) rfl ⟨rfl, rfl⟩ ?_
  refine Wn.callV (p := 11) (n := 2) (ix := 45) (ci := (4)) (PSn M2 11 n A S N) [.ref 24] [] rfl rfl rfl rfl (Nat.le_of_ble_eq_true rfl) (Nat.le_of_ble_eq_true rfl) (c_sn_copyFrom_11_24 _ M2 n A S N (SnC_fr s4 (by decide) (by decide) (by decide) (by decide) (SnC_fr l3 (by decide) (by decide) (by decide) (by decide) hP))) ?_
  rintro _ M3 ⟨rfl, t1, t2⟩
  show Wn _ 183 _ (33, [(0, .ref 2), (1, .ref 15)], [], M3)
  refine Wn.vret rfl ⟨rfl, fr_st t2 s1 (by decide), NmC_fr t2 (by decide) (NmC_fr s4 (by decide) l2), t1, ?_, ?_, fr_tr (fr_tr (fr_up l3 (by decide)) s4 (by decide)) t2 (by decide)⟩
  · rw [(t2 (2 + 4) (by decide)).1, ← (l3 (2 + 4) (by decide)).1]; exact s2
  · rw [(t2 (2 + 4) (by decide)).1, ← (l3 (2 + 4) (by decide)).1]; exact s3
set_option maxRecDepth 20000 in
theorem c_lk_copyFrom_89_3 (d : Nat) (M : Mm) (σ : Nat → Nat) (ν : Nat → Int64) (h26 : σ 2 ≤ 6) (hL : LkC M 3 σ) (hN : NmC M 3 ν (σ 2)) : Wn (d + 0) 163 (PLc M 89 σ ν) (0, lv_args 0 [.ref 89, .ref 3], [], M) := by
  have hF := fr_rf [89, 90, 91] M
  obtain ⟨ga, ha⟩ : ∃ g, M.1 89 = g := ⟨_, rfl⟩
  obtain ⟨gb, hb⟩ : ∃ g, M.1 3 = g := ⟨_, rfl⟩
  have h8 : ∀ k, k < 8 → gb k = nI (σ k) := by rw [← hb]; exact hL.2.2.2.1
  refine Wn.run (tab := tb_lk_copyFrom) rfl 4 (c' := (8, [(0, .ref 89), (1, .ref 3)], [], (mI M 89 (upd (M.1 89) 0 (M.1 3 0))))) (o := [shp 3 = (0, 2), shp 89 = (0, 2)]) rfl ⟨rfl, rfl⟩ ?_
  rw [show (M.1 3 0) = (nI (σ 0)) from (fr_eq hb (show gb 0 = (nI (σ 0)) from (h8 0 (by decide))))]
  generalize hM2 : (mI M 89 (upd (M.1 89) 0 (nI (σ 0)))) = M1
  have hk3 := fI_up hM2 ha
  have hk4 := fI_ne hM2 (by decide) hb
  have hF5 := fr_sI hF hM2 (by decide)
  show Wn _ 163 _ (8, [(0, .ref 89), (1, .ref 3)], [], M1)
  refine Wn.run (tab := tb_lk_copyFrom) rfl 4 (c' := (16, [(0, .ref 89), (1, .ref 3)], [], (mI M1 89 (upd (M1.1 89) 1 (M1.1 3 1))))) (o := [shp 3 = (0, 2), shp 89 = (0, 2)]) rfl ⟨rfl, rfl⟩ ?_
  rw [show (M1.1 3 1) = (nI (σ 1)) from (fr_eq hk4 (show gb 1 = (nI (σ 1)) from (h8 1 (by decide))))]
  generalize hM7 : (mI M1 89 (upd (M1.1 89) 1 (nI (σ 1)))) = M6
  have hk8 := fI_up hM7 hk3
  have hk9 := fI_ne hM7 (by decide) hk4
  have hF10 := fr_sI hF5 hM7 (by decide)
  show Wn _ 163 _ (16, [(0, .ref 89), (1, .ref 3)], [], M6)
  refine Wn.run (tab := tb_lk_copyFrom) rfl 4 (c' := (24, [(0, .ref 89), (1, .ref 3)], [], (mI M6 89 (upd (M6.1 89) 2 (M6.1 3 2))))) (o := [shp 3 = (0, 2), shp 89 = (0, 2)]) rfl ⟨rfl, rfl⟩ ?_
  rw [show (M6.1 3 2) = (nI (σ 2)) from (fr_eq hk9 (show gb 2 = (nI (σ 2)) from (h8 2 (by decide))))]
  generalize hM12 : (mI M6 89 (upd (M6.1 89) 2 (nI (σ 2)))) = M11
  have hk13 := fI_up hM12 hk8
  have hk14 := fI_ne hM12 (by decide) hk9
  have hF15 := fr_sI hF10 hM12 (by decide)
  show Wn _ 163 _ (24, [(0, .ref 89), (1, .ref 3)], [], M11)
  refine Wn.run (tab := tb_lk_copyFrom) rfl 4 (c' := (32, [(0, .ref 89), (1, .ref 3)], [], (mI M11 89 (upd (M11.1 89) 3 (M11.1 3 3))))) (o := [shp 3 = (0, 2), shp 89 = (0, 2)]) rfl ⟨rfl, rfl⟩ ?_
  rw [show (M11.1 3 3) = (nI (σ 3)) from (fr_eq hk14 (show gb 3 = (nI (σ 3)) from (h8 3 (by decide))))]
  generalize hM17 : (mI M11 89 (upd (M11.1 89) 3 (nI (σ 3)))) = M16
  have hk18 := fI_up hM17 hk13
  have hk19 := fI_ne hM17 (by decide) hk14
  have hF20 := fr_sI hF15 hM17 (by decide)
  show Wn _ 163 _ (32, [(0, .ref 89), (1, .ref 3)], [], M16)
  refine Wn.run (tab := tb_lk_copyFrom) rfl 4 (c' := (40, [(0, .ref 89), (1, .ref 3)], [], (mI M16 89 (upd (M16.1 89) 4 (M16.1 3 4))))) (o := [shp 3 = (0, 2), shp 89 = (0, 2)]) rfl ⟨rfl, rfl⟩ ?_
  rw [show (M16.1 3 4) = (nI (σ 4)) from (fr_eq hk19 (show gb 4 = (nI (σ 4)) from (h8 4 (by decide))))]
  generalize hM22 : (mI M16 89 (upd (M16.1 89) 4 (nI (σ 4)))) = M21
  have hk23 := fI_up hM22 hk18
  have hk24 := fI_ne hM22 (by decide) hk19
  have hF25 := fr_sI hF20 hM22 (by decide)
  show Wn _ 163 _ (40, [(0, .ref 89), (1, .ref 3)], [], M21)
  refine Wn.run (tab := tb_lk_copyFrom) rfl 4 (c' := (48, [(0, .ref 89), (1, .ref 3)], [], (mI M21 89 (upd (M21.1 89) 5 (M21.1 3 5))))) (o := [shp 3 = (0, 2), shp 89 = (0, 2)]) rfl ⟨rfl, rfl⟩ ?_
  rw [show (M21.1 3 5) = (nI (σ 5)) from (fr_eq hk24 (show gb 5 = (nI (σ 5)) from (h8 5 (by decide))))]
  generalize hM27 : (mI M21 89 (upd (M21.1 89) 5 (nI (σ 5)))) = M26
  have hk28 := fI_up hM27 hk23
  have hk29 := fI_ne hM27 (by decide) hk24
  have hF30 := fr_sI hF25 hM27 (by decide)
  show Wn _ 163 _ (48, [(0, .ref 89), (1, .ref 3)], [], M26)
  refine Wn.run (tab := tb_lk_copyFrom) rfl 4 (c' := (56, [(0, .ref 89), (1, .ref 3)], [], (mI M26 89 (upd (M26.1 89) 6 (M26.1 3 6))))) (o := [shp 3 = (0, 2), shp 89 = (0, 2)]) rfl ⟨rfl, rfl⟩ ?_
  rw [show (M26.1 3 6) = (nI (σ 6)) from (fr_eq hk29 (show gb 6 = (nI (σ 6)) from (h8 6 (by decide))))]
  generalize hM32 : (mI M26 89 (upd (M26.1 89) 6 (nI (σ 6)))) = M31
  have hk33 := fI_up hM32 hk28
  have hk34 := fI_ne hM32 (by decide) hk29
  have hF35 := fr_sI hF30 hM32 (by decide)
  show Wn _ 163 _ (56, [(0, .ref 89), (1, .ref 3)], [], M31)
  refine Wn.run (tab := tb_lk_copyFrom) rfl 4 (c' := (64, [(0, .ref 89), (1, .ref 3)], [], (mI M31 89 (upd (M31.1 89) 7 (M31.1 3 7))))) (o := [shp 3 = (0, 2), shp 89 = (0, 2)]) rfl ⟨rfl, rfl⟩ ?_
  rw [show (M31.1 3 7) = (nI (σ 7)) from (fr_eq hk34 (show gb 7 = (nI (σ 7)) from (h8 7 (by decide))))]
  generalize hM37 : (mI M31 89 (upd (M31.1 89) 7 (nI (σ 7)))) = M36
  have hk38 := fI_up hM37 hk33
  have hk39 := fI_ne hM37 (by decide) hk34
  have hF40 := fr_sI hF35 hM37 (by decide)
  show Wn _ 163 _ (64, [(0, .ref 89), (1, .ref 3)], [], M36)
  refine Wn.run (tab := tb_lk_copyFrom) rfl 8 (c' := (79, [(0, .ref 89), (1, .ref 3)], [], (mJ M36 90 (va_cpy (M36.2.1 4) (M36.2.1 90) 0 0 6)))) (o := [shp 3 = (0, 2), shp 89 = (0, 2), (nI 0) = 0, (nI 0) = 0, ¬ (nI 6) < 0, (shp 4).1 = 4, (shp 90).1 = 4, 6 ≤ (shp 4).2, 6 ≤ (shp 90).2, ct [] ≤ 8]) rfl ⟨rfl, rfl, rfl, rfl, (by decide), rfl, rfl, (Nat.le_refl 6), (Nat.le_refl 6), (Nat.le_of_ble_eq_true rfl)⟩ ?_
  generalize hM42 : (mJ M36 90 (va_cpy (M36.2.1 4) (M36.2.1 90) 0 0 6)) = M41
  have hk43 := fI_oJ hM42 hk38
  have hk44 := fI_oJ hM42 hk39
  have hF45 := fr_sJ hF40 hM42 (by decide)
  show Wn _ 163 _ (79, [(0, .ref 89), (1, .ref 3)], [], M41)
  refine Wn.run (tab := tb_lk_copyFrom) rfl 8 (c' := (94, [(0, .ref 89), (1, .ref 3)], [], (mI M41 91 (va_cpy (M41.1 5) (M41.1 91) 0 0 6)))) (o := [shp 3 = (0, 2), shp 89 = (0, 2), (nI 0) = 0, (nI 0) = 0, ¬ (nI 6) < 0, (shp 5).1 = 1, (shp 91).1 = 1, 6 ≤ (shp 5).2, 6 ≤ (shp 91).2, ct [] ≤ 8]) rfl ⟨rfl, rfl, rfl, rfl, (by decide), rfl, rfl, (Nat.le_refl 6), (Nat.le_refl 6), (Nat.le_of_ble_eq_true rfl)⟩ ?_
  generalize hM47 : (mI M41 91 (va_cpy (M41.1 5) (M41.1 91) 0 0 6)) = M46
  have hk48 := fI_ne hM47 (by decide) hk43
  have hk49 := fI_ne hM47 (by decide) hk44
  have hF50 := fr_sI hF45 hM47 (by decide)
  show Wn _ 163 _ (94, [(0, .ref 89), (1, .ref 3)], [], M46)
  refine Wn.vret rfl ⟨rfl, ⟨rfl, rfl, rfl, ?_, ?_⟩, ?_, hF50⟩
  · rw [hk48]
    intro k hk
    match k, hk with
    | 0, _ => exact ((pk_un (by decide)).trans ((pk_un (by decide)).trans ((pk_un (by decide)).trans ((pk_un (by decide)).trans ((pk_un (by decide)).trans ((pk_un (by decide)).trans ((pk_un (by decide)).trans pk_us)))))))
    | 1, _ => exact ((pk_un (by decide)).trans ((pk_un (by decide)).trans ((pk_un (by decide)).trans ((pk_un (by decide)).trans ((pk_un (by decide)).trans ((pk_un (by decide)).trans pk_us))))))
    | 2, _ => exact ((pk_un (by decide)).trans ((pk_un (by decide)).trans ((pk_un (by decide)).trans ((pk_un (by decide)).trans ((pk_un (by decide)).trans pk_us)))))
    | 3, _ => exact ((pk_un (by decide)).trans ((pk_un (by decide)).trans ((pk_un (by decide)).trans ((pk_un (by decide)).trans pk_us))))
    | 4, _ => exact ((pk_un (by decide)).trans ((pk_un (by decide)).trans ((pk_un (by decide)).trans pk_us)))
    | 5, _ => exact ((pk_un (by decide)).trans ((pk_un (by decide)).trans pk_us))
    | 6, _ => exact ((pk_un (by decide)).trans pk_us)
    | 7, _ => exact pk_us
  · intro q hq
    have e1 := cpy_at hM47 q (by omega)
    rw [(hF45 5 (by decide)).1] at e1
    exact e1.trans (hL.2.2.2.2 q hq)
  · intro q hq
    have e1 := cpyJ_at hM42 q (by omega)
    rw [(hF40 4 (by decide)).2.1] at e1
    have e2 : M46.2.1 = M41.2.1 := by rw [← hM47]; rfl
    rw [e2]
    exact e1.trans (hN q hq)
set_option maxRecDepth 20000 in
theorem c_sn_copyFrom_97_11 (d : Nat) (M : Mm) (n : Nat) (A S U : Nat → Nat) (hS : SnC M 11 n A S U) : Wn (d + 0) 186 (PSn M 97 n A S U) (0, lv_args 0 [.ref 97, .ref 11], [], M) := by
  have hF := fr_rf [97, 98, 99, 100] M
  obtain ⟨ga, ha⟩ : ∃ g, M.1 97 = g := ⟨_, rfl⟩
  obtain ⟨gb, hb⟩ : ∃ g, M.1 11 = g := ⟨_, rfl⟩
  obtain ⟨pa, ha1⟩ : ∃ g, M.2.2 98 = g := ⟨_, rfl⟩
  obtain ⟨pb, hb1⟩ : ∃ g, M.2.2 12 = g := ⟨_, rfl⟩
  obtain ⟨sa, ha2⟩ : ∃ g, M.2.2 99 = g := ⟨_, rfl⟩
  obtain ⟨sb, hb2⟩ : ∃ g, M.2.2 13 = g := ⟨_, rfl⟩
  obtain ⟨na, ha3⟩ : ∃ g, M.1 100 = g := ⟨_, rfl⟩
  obtain ⟨nb, hb3⟩ : ∃ g, M.1 14 = g := ⟨_, rfl⟩
  have h3 : gb 3 = nI n := by rw [← hb]; exact hS.1
  have h40 := hS.2.1
  have hIK12 : ∀ i, i < n → isK (pb i) := fun i hi => by have q := hS.2.2 i hi; rw [show M.2.2 (11 + 1) = pb from hb1] at q; rw [q.1]; exact ⟨by omega, by omega⟩
  have hIK13 : ∀ i, i < n → isK (sb i) := fun i hi => by have q := hS.2.2 i hi; rw [show M.2.2 (11 + 2) = sb from hb2] at q; rw [q.2.1]; exact ⟨by omega, by omega⟩
  refine Wn.run (tab := tb_sn_copyFrom) rfl 4 (c' := (8, [(0, .ref 97), (1, .ref 11)], [], (mI M 97 (upd (M.1 97) 3 (M.1 11 3))))) (o := [shp 11 = (0, 4), shp 97 = (0, 4)]) rfl ⟨rfl, rfl⟩ ?_
  rw [show (M.1 11 3) = (nI n) from (fr_eq hb (show gb 3 = (nI n) from h3))]
  generalize hM2 : (mI M 97 (upd (M.1 97) 3 (nI n))) = M1
  have hk3 := fI_up hM2 ha
  have hk4 := fI_ne hM2 (by decide) hb
  have hk5 := fR_oI hM2 ha1
  have hk6 := fR_oI hM2 hb1
  have hk7 := fR_oI hM2 ha2
  have hk8 := fR_oI hM2 hb2
  have hk9 := fI_ne hM2 (by decide) ha3
  have hk10 := fI_ne hM2 (by decide) hb3
  have hF11 := fr_sI hF hM2 (by decide)
  show Wn _ 186 _ (8, [(0, .ref 97), (1, .ref 11)], [], M1)
  refine Wn.run (tab := tb_sn_copyFrom) rfl 4 (c' := (16, [(0, .ref 97), (1, .ref 11)], [], (mI M1 97 (upd (M1.1 97) 4 (M1.1 11 4))))) (o := [shp 11 = (0, 4), shp 97 = (0, 4)]) rfl ⟨rfl, rfl⟩ ?_
  rw [show (M1.1 11 4) = (gb 4) from (fr_eq hk4 (show gb 4 = (gb 4) from rfl))]
  generalize hM13 : (mI M1 97 (upd (M1.1 97) 4 (gb 4))) = M12
  have hk14 := fI_up hM13 hk3
  have hk15 := fI_ne hM13 (by decide) hk4
  have hk16 := fR_oI hM13 hk5
  have hk17 := fR_oI hM13 hk6
  have hk18 := fR_oI hM13 hk7
  have hk19 := fR_oI hM13 hk8
  have hk20 := fI_ne hM13 (by decide) hk9
  have hk21 := fI_ne hM13 (by decide) hk10
  have hF22 := fr_sI hF11 hM13 (by decide)
  show Wn _ 186 _ (16, [(0, .ref 97), (1, .ref 11)], [], M12)
  refine Wn.run (tab := tb_sn_copyFrom) rfl 2 (c' := (18, [(2, .int (nI 0)), (0, .ref 97), (1, .ref 11)], [], M12)) (o := []) rfl trivial ?_
  have loop : ∀ (m z : Nat) (N : Mm), n - z = m → z ≤ n → (N.1 97 = (upd (upd ga 3 (nI n)) 4 (gb 4))) → (N.1 11 = gb) → (N.2.2 98 = (cpG pa pb z)) → (N.2.2 12 = pb) → (N.2.2 99 = (cpG sa sb z)) → (N.2.2 13 = sb) → (N.1 100 = (cpG na nb z)) → (N.1 14 = nb) → (Fr [97, 98, 99, 100] M N) → Wn (d + 0) 186 (PSn M 97 n A S U) (18, [(2, .int (nI z)), (0, .ref 97), (1, .ref 11)], [], N) := by
    intro m
    induction m using Nat.strongRecOn with
    | _ m ih =>
      intro z N hm hz loop_0 loop_1 loop_2 loop_3 loop_4 loop_5 loop_6 loop_7 loop_8
      refine Wn.run (tab := tb_sn_copyFrom) rfl 4 (c' := (if (N.1 97 3) ≤ (nI z) then 68 else 26, [(2, .int (nI z)), (0, .ref 97), (1, .ref 11)], [], N)) (o := [shp 97 = (0, 4)]) rfl rfl ?_
      refine Wn.br (fun h1 => ?_) (fun h1 => ?_)
      · show Wn _ 186 _ (68, [(2, .int (nI z)), (0, .ref 97), (1, .ref 11)], [], N)
        have h1 := (n_le (fr_eq loop_0 (show (upd (upd ga 3 (nI n)) 4 (gb 4)) 3 = (nI n) from rfl)) rfl (by omega) (by omega)).mp h1
        have e9 : z = n := by omega
        subst e9
        refine Wn.vret rfl ⟨rfl, ⟨by rw [loop_0]; rfl, hS.2.1, fun i hi => ?_⟩, loop_8⟩
        have hi3 := hS.2.2 i hi
        rw [show M.2.2 (11 + 1) = pb from hb1, show M.2.2 (11 + 2) = sb from hb2, show M.1 (11 + 3) = nb from hb3] at hi3
        rw [show N.2.2 (97 + 1) = _ from loop_2, show N.2.2 (97 + 2) = _ from loop_4, show N.1 (97 + 3) = _ from loop_6, cpG_at hi, cpG_at hi, cpG_at hi]
        exact hi3
      · show Wn _ 186 _ (26, [(2, .int (nI z)), (0, .ref 97), (1, .ref 11)], [], N)
        have h1 := mt (n_le (fr_eq loop_0 (show (upd (upd ga 3 (nI n)) 4 (gb 4)) 3 = (nI n) from rfl)) rfl (by omega) (by omega)).mpr h1
        refine Wn.run (tab := tb_sn_copyFrom) rfl 8 (c' := (38, [(2, .int (nI z)), (0, .ref 97), (1, .ref 11)], [], (mR N 98 (va_up (N.2.2 98) ((nI z)).toNatClampNeg (N.2.2 12 ((nI z)).toNatClampNeg))))) (o := [shp 97 = (0, 4), shp 11 = (0, 4), aok shp 12 4 (nI z), aok shp 98 4 (nI z), isK (N.2.2 12 ((nI z)).toNatClampNeg)]) rfl ⟨rfl, rfl, (ak1 (n := 40) rfl rfl rfl (by omega)), (ak1 (n := 40) rfl rfl rfl (by omega)), (by rw [nI_clamp (by omega), loop_3]; exact hIK12 z (by omega))⟩ ?_
        rw [show (N.2.2 12 ((nI z)).toNatClampNeg) = (pb z) from (fr_rdxR loop_3 rfl (by omega))]
        generalize hM24 : (mR N 98 (va_up (N.2.2 98) ((nI z)).toNatClampNeg (pb z))) = M23
        have hk25 := fI_oR hM24 loop_0
        have hk26 := fI_oR hM24 loop_1
        have hk27 := fR_upx hM24 loop_2 (cl1 rfl (by omega))
        have hk28 := fR_ne hM24 (by decide) loop_3
        have hk29 := fR_ne hM24 (by decide) loop_4
        have hk30 := fR_ne hM24 (by decide) loop_5
        have hk31 := fI_oR hM24 loop_6
        have hk32 := fI_oR hM24 loop_7
        have hF33 := fr_sR loop_8 hM24 (by decide)
        show Wn _ 186 _ (38, [(2, .int (nI z)), (0, .ref 97), (1, .ref 11)], [], M23)
        refine Wn.run (tab := tb_sn_copyFrom) rfl 8 (c' := (50, [(2, .int (nI z)), (0, .ref 97), (1, .ref 11)], [], (mR M23 99 (va_up (M23.2.2 99) ((nI z)).toNatClampNeg (M23.2.2 13 ((nI z)).toNatClampNeg))))) (o := [shp 97 = (0, 4), shp 11 = (0, 4), aok shp 13 4 (nI z), aok shp 99 4 (nI z), isK (M23.2.2 13 ((nI z)).toNatClampNeg)]) rfl ⟨rfl, rfl, (ak1 (n := 40) rfl rfl rfl (by omega)), (ak1 (n := 40) rfl rfl rfl (by omega)), (by rw [nI_clamp (by omega), hk30]; exact hIK13 z (by omega))⟩ ?_
        rw [show (M23.2.2 13 ((nI z)).toNatClampNeg) = (sb z) from (fr_rdxR hk30 rfl (by omega))]
        generalize hM35 : (mR M23 99 (va_up (M23.2.2 99) ((nI z)).toNatClampNeg (sb z))) = M34
        have hk36 := fI_oR hM35 hk25
        have hk37 := fI_oR hM35 hk26
        have hk38 := fR_ne hM35 (by decide) hk27
        have hk39 := fR_ne hM35 (by decide) hk28
        have hk40 := fR_upx hM35 hk29 (cl1 rfl (by omega))
        have hk41 := fR_ne hM35 (by decide) hk30
        have hk42 := fI_oR hM35 hk31
        have hk43 := fI_oR hM35 hk32
        have hF44 := fr_sR hF33 hM35 (by decide)
        show Wn _ 186 _ (50, [(2, .int (nI z)), (0, .ref 97), (1, .ref 11)], [], M34)
        refine Wn.run (tab := tb_sn_copyFrom) rfl 8 (c' := (62, [(2, .int (nI z)), (0, .ref 97), (1, .ref 11)], [], (mI M34 100 (upd (M34.1 100) ((nI z)).toNatClampNeg (M34.1 14 ((nI z)).toNatClampNeg))))) (o := [shp 97 = (0, 4), shp 11 = (0, 4), aok shp 14 0 (nI z), aok shp 100 0 (nI z)]) rfl ⟨rfl, rfl, (ak1 (n := 40) rfl rfl rfl (by omega)), (ak1 (n := 40) rfl rfl rfl (by omega))⟩ ?_
        rw [show (M34.1 14 ((nI z)).toNatClampNeg) = (nb z) from (fr_rdx hk43 rfl (by omega))]
        generalize hM46 : (mI M34 100 (upd (M34.1 100) ((nI z)).toNatClampNeg (nb z))) = M45
        have hk47 := fI_ne hM46 (by decide) hk36
        have hk48 := fI_ne hM46 (by decide) hk37
        have hk49 := fR_oI hM46 hk38
        have hk50 := fR_oI hM46 hk39
        have hk51 := fR_oI hM46 hk40
        have hk52 := fR_oI hM46 hk41
        have hk53 := fI_upx hM46 hk42 (cl1 rfl (by omega))
        have hk54 := fI_ne hM46 (by decide) hk43
        have hF55 := fr_sI hF44 hM46 (by decide)
        show Wn _ 186 _ (62, [(2, .int (nI z)), (0, .ref 97), (1, .ref 11)], [], M45)
        refine Wn.run (tab := tb_sn_copyFrom) rfl 2 (c' := (18, [(2, .int ((nI z) + (nI 1))), (0, .ref 97), (1, .ref 11)], [], M45)) (o := []) rfl trivial ?_
        rw [show ((nI z) + (nI 1)) = (nI (z + 1)) from (n_add rfl rfl)]
        exact ih (n - (z + 1)) (by omega) (z + 1) M45 rfl (by omega) hk47 hk48 (by rw [← cpR_s]; exact hk49) hk50 (by rw [← cpR_s]; exact hk51) hk52 (by rw [← cpI_s]; exact hk53) hk54 hF55
  exact loop (n - 0) 0 M12 rfl (by omega) hk14 hk15 (by rw [cpG_0]; exact hk16) hk17 (by rw [cpG_0]; exact hk18) hk19 (by rw [cpG_0]; exact hk20) hk21 hF22
set_option maxRecDepth 20000 in
theorem c_sc_copyFrom_88_2 (d : Nat) (M : Mm) (σ : Nat → Nat) (ν : Nat → Int64) (n : Nat) (A S N : Nat → Nat) (hS : StC M 6 σ) (hN : NmC M 3 ν (σ 2)) (hP : SnC M 11 n A S N) : Wn (d + 1) 183 (PSC M 88 σ ν n A S N) (0, lv_args 0 [.ref 88, .ref 2], [], M) := by
  have h26 := hS.2.2.1.2.2.2.2.2.2
  refine Wn.run (tab := tb_sc_copyFrom) rfl 4 (c' := (8, [(0, .ref 88), (1, .ref 2)], [.ref 3, .ref 89], M)) (o := [shp 88 = (0, 8), shp 2 = (0, 8)]) rfl ⟨rfl, rfl⟩ ?_
  refine Wn.callV (p := 89) (n := 2) (ix := 39) (ci := (2)) (PLc M 89 σ ν) [.ref 3] [] rfl rfl rfl rfl (Nat.le_of_ble_eq_true rfl) (Nat.le_of_ble_eq_true rfl) (c_lk_copyFrom_89_3 _ M σ ν h26 hS.2.1 hN) ?_
  rintro _ M1 ⟨rfl, l1, l2, l3⟩
  show Wn _ 183 _ (11, [(0, .ref 88), (1, .ref 2)], [], M1)
  refine Wn.run (tab := tb_sc_copyFrom) rfl 4 (c' := (19, [(0, .ref 88), (1, .ref 2)], [.ref 6, .ref 92], M1)) (o := [shp 88 = (0, 8), shp 2 = (0, 8)]) rfl ⟨rfl, rfl⟩ ?_
  refine Wn.callV (p := 92) (n := 2) (ix := 42) (ci := (5)) (PS 92 M1 σ (M1.1 92 11) (M1.1 92 12) none) [.ref 6] [] rfl rfl rfl rfl (Nat.le_of_ble_eq_true rfl) (Nat.le_of_ble_eq_true rfl) (c_st_copyFrom _ M1 92 6 σ ⟨rfl, rfl, rfl, rfl, rfl, rfl, rfl, rfl, by decide⟩ l1 (fr_st l3 hS (by decide)) (by decide) (by decide) _ _ rfl rfl) ?_
  rintro _ M2 ⟨rfl, s1, s2, s3, s4⟩
  show Wn _ 183 _ (22, [(0, .ref 88), (1, .ref 2)], [], M2)
  refine Wn.run (tab := tb_sc_copyFrom) rfl 4 (c' := (30, [(0, .ref 88), (1, .ref 2)], [.ref 11, .ref 97], M2)) (o := [shp 88 = (0, 8), shp 2 = (0, 8)]) rfl ⟨rfl, rfl⟩ ?_
  refine Wn.callV (p := 97) (n := 2) (ix := 45) (ci := (4)) (PSn M2 97 n A S N) [.ref 11] [] rfl rfl rfl rfl (Nat.le_of_ble_eq_true rfl) (Nat.le_of_ble_eq_true rfl) (c_sn_copyFrom_97_11 _ M2 n A S N (SnC_fr s4 (by decide) (by decide) (by decide) (by decide) (SnC_fr l3 (by decide) (by decide) (by decide) (by decide) hP))) ?_
  rintro _ M3 ⟨rfl, t1, t2⟩
  show Wn _ 183 _ (33, [(0, .ref 88), (1, .ref 2)], [], M3)
  refine Wn.vret rfl ⟨rfl, fr_st t2 s1 (by decide), NmC_fr t2 (by decide) (NmC_fr s4 (by decide) l2), t1, ?_, ?_, fr_tr (fr_tr (fr_up l3 (by decide)) s4 (by decide)) t2 (by decide)⟩
  · rw [(t2 (88 + 4) (by decide)).1, ← (l3 (88 + 4) (by decide)).1]; exact s2
  · rw [(t2 (88 + 4) (by decide)).1, ← (l3 (88 + 4) (by decide)).1]; exact s3
set_option maxRecDepth 20000 in
theorem c_lk_copyFrom_102_3 (d : Nat) (M : Mm) (σ : Nat → Nat) (ν : Nat → Int64) (h26 : σ 2 ≤ 6) (hL : LkC M 3 σ) (hN : NmC M 3 ν (σ 2)) : Wn (d + 0) 163 (PLc M 102 σ ν) (0, lv_args 0 [.ref 102, .ref 3], [], M) := by
  have hF := fr_rf [102, 103, 104] M
  obtain ⟨ga, ha⟩ : ∃ g, M.1 102 = g := ⟨_, rfl⟩
  obtain ⟨gb, hb⟩ : ∃ g, M.1 3 = g := ⟨_, rfl⟩
  have h8 : ∀ k, k < 8 → gb k = nI (σ k) := by rw [← hb]; exact hL.2.2.2.1
  refine Wn.run (tab := tb_lk_copyFrom) rfl 4 (c' := (8, [(0, .ref 102), (1, .ref 3)], [], (mI M 102 (upd (M.1 102) 0 (M.1 3 0))))) (o := [shp 3 = (0, 2), shp 102 = (0, 2)]) rfl ⟨rfl, rfl⟩ ?_
  rw [show (M.1 3 0) = (nI (σ 0)) from (fr_eq hb (show gb 0 = (nI (σ 0)) from (h8 0 (by decide))))]
  generalize hM2 : (mI M 102 (upd (M.1 102) 0 (nI (σ 0)))) = M1
  have hk3 := fI_up hM2 ha
  have hk4 := fI_ne hM2 (by decide) hb
  have hF5 := fr_sI hF hM2 (by decide)
  show Wn _ 163 _ (8, [(0, .ref 102), (1, .ref 3)], [], M1)
  refine Wn.run (tab := tb_lk_copyFrom) rfl 4 (c' := (16, [(0, .ref 102), (1, .ref 3)], [], (mI M1 102 (upd (M1.1 102) 1 (M1.1 3 1))))) (o := [shp 3 = (0, 2), shp 102 = (0, 2)]) rfl ⟨rfl, rfl⟩ ?_
  rw [show (M1.1 3 1) = (nI (σ 1)) from (fr_eq hk4 (show gb 1 = (nI (σ 1)) from (h8 1 (by decide))))]
  generalize hM7 : (mI M1 102 (upd (M1.1 102) 1 (nI (σ 1)))) = M6
  have hk8 := fI_up hM7 hk3
  have hk9 := fI_ne hM7 (by decide) hk4
  have hF10 := fr_sI hF5 hM7 (by decide)
  show Wn _ 163 _ (16, [(0, .ref 102), (1, .ref 3)], [], M6)
  refine Wn.run (tab := tb_lk_copyFrom) rfl 4 (c' := (24, [(0, .ref 102), (1, .ref 3)], [], (mI M6 102 (upd (M6.1 102) 2 (M6.1 3 2))))) (o := [shp 3 = (0, 2), shp 102 = (0, 2)]) rfl ⟨rfl, rfl⟩ ?_
  rw [show (M6.1 3 2) = (nI (σ 2)) from (fr_eq hk9 (show gb 2 = (nI (σ 2)) from (h8 2 (by decide))))]
  generalize hM12 : (mI M6 102 (upd (M6.1 102) 2 (nI (σ 2)))) = M11
  have hk13 := fI_up hM12 hk8
  have hk14 := fI_ne hM12 (by decide) hk9
  have hF15 := fr_sI hF10 hM12 (by decide)
  show Wn _ 163 _ (24, [(0, .ref 102), (1, .ref 3)], [], M11)
  refine Wn.run (tab := tb_lk_copyFrom) rfl 4 (c' := (32, [(0, .ref 102), (1, .ref 3)], [], (mI M11 102 (upd (M11.1 102) 3 (M11.1 3 3))))) (o := [shp 3 = (0, 2), shp 102 = (0, 2)]) rfl ⟨rfl, rfl⟩ ?_
  rw [show (M11.1 3 3) = (nI (σ 3)) from (fr_eq hk14 (show gb 3 = (nI (σ 3)) from (h8 3 (by decide))))]
  generalize hM17 : (mI M11 102 (upd (M11.1 102) 3 (nI (σ 3)))) = M16
  have hk18 := fI_up hM17 hk13
  have hk19 := fI_ne hM17 (by decide) hk14
  have hF20 := fr_sI hF15 hM17 (by decide)
  show Wn _ 163 _ (32, [(0, .ref 102), (1, .ref 3)], [], M16)
  refine Wn.run (tab := tb_lk_copyFrom) rfl 4 (c' := (40, [(0, .ref 102), (1, .ref 3)], [], (mI M16 102 (upd (M16.1 102) 4 (M16.1 3 4))))) (o := [shp 3 = (0, 2), shp 102 = (0, 2)]) rfl ⟨rfl, rfl⟩ ?_
  rw [show (M16.1 3 4) = (nI (σ 4)) from (fr_eq hk19 (show gb 4 = (nI (σ 4)) from (h8 4 (by decide))))]
  generalize hM22 : (mI M16 102 (upd (M16.1 102) 4 (nI (σ 4)))) = M21
  have hk23 := fI_up hM22 hk18
  have hk24 := fI_ne hM22 (by decide) hk19
  have hF25 := fr_sI hF20 hM22 (by decide)
  show Wn _ 163 _ (40, [(0, .ref 102), (1, .ref 3)], [], M21)
  refine Wn.run (tab := tb_lk_copyFrom) rfl 4 (c' := (48, [(0, .ref 102), (1, .ref 3)], [], (mI M21 102 (upd (M21.1 102) 5 (M21.1 3 5))))) (o := [shp 3 = (0, 2), shp 102 = (0, 2)]) rfl ⟨rfl, rfl⟩ ?_
  rw [show (M21.1 3 5) = (nI (σ 5)) from (fr_eq hk24 (show gb 5 = (nI (σ 5)) from (h8 5 (by decide))))]
  generalize hM27 : (mI M21 102 (upd (M21.1 102) 5 (nI (σ 5)))) = M26
  have hk28 := fI_up hM27 hk23
  have hk29 := fI_ne hM27 (by decide) hk24
  have hF30 := fr_sI hF25 hM27 (by decide)
  show Wn _ 163 _ (48, [(0, .ref 102), (1, .ref 3)], [], M26)
  refine Wn.run (tab := tb_lk_copyFrom) rfl 4 (c' := (56, [(0, .ref 102), (1, .ref 3)], [], (mI M26 102 (upd (M26.1 102) 6 (M26.1 3 6))))) (o := [shp 3 = (0, 2), shp 102 = (0, 2)]) rfl ⟨rfl, rfl⟩ ?_
  rw [show (M26.1 3 6) = (nI (σ 6)) from (fr_eq hk29 (show gb 6 = (nI (σ 6)) from (h8 6 (by decide))))]
  generalize hM32 : (mI M26 102 (upd (M26.1 102) 6 (nI (σ 6)))) = M31
  have hk33 := fI_up hM32 hk28
  have hk34 := fI_ne hM32 (by decide) hk29
  have hF35 := fr_sI hF30 hM32 (by decide)
  show Wn _ 163 _ (56, [(0, .ref 102), (1, .ref 3)], [], M31)
  refine Wn.run (tab := tb_lk_copyFrom) rfl 4 (c' := (64, [(0, .ref 102), (1, .ref 3)], [], (mI M31 102 (upd (M31.1 102) 7 (M31.1 3 7))))) (o := [shp 3 = (0, 2), shp 102 = (0, 2)]) rfl ⟨rfl, rfl⟩ ?_
  rw [show (M31.1 3 7) = (nI (σ 7)) from (fr_eq hk34 (show gb 7 = (nI (σ 7)) from (h8 7 (by decide))))]
  generalize hM37 : (mI M31 102 (upd (M31.1 102) 7 (nI (σ 7)))) = M36
  have hk38 := fI_up hM37 hk33
  have hk39 := fI_ne hM37 (by decide) hk34
  have hF40 := fr_sI hF35 hM37 (by decide)
  show Wn _ 163 _ (64, [(0, .ref 102), (1, .ref 3)], [], M36)
  refine Wn.run (tab := tb_lk_copyFrom) rfl 8 (c' := (79, [(0, .ref 102), (1, .ref 3)], [], (mJ M36 103 (va_cpy (M36.2.1 4) (M36.2.1 103) 0 0 6)))) (o := [shp 3 = (0, 2), shp 102 = (0, 2), (nI 0) = 0, (nI 0) = 0, ¬ (nI 6) < 0, (shp 4).1 = 4, (shp 103).1 = 4, 6 ≤ (shp 4).2, 6 ≤ (shp 103).2, ct [] ≤ 8]) rfl ⟨rfl, rfl, rfl, rfl, (by decide), rfl, rfl, (Nat.le_refl 6), (Nat.le_refl 6), (Nat.le_of_ble_eq_true rfl)⟩ ?_
  generalize hM42 : (mJ M36 103 (va_cpy (M36.2.1 4) (M36.2.1 103) 0 0 6)) = M41
  have hk43 := fI_oJ hM42 hk38
  have hk44 := fI_oJ hM42 hk39
  have hF45 := fr_sJ hF40 hM42 (by decide)
  show Wn _ 163 _ (79, [(0, .ref 102), (1, .ref 3)], [], M41)
  refine Wn.run (tab := tb_lk_copyFrom) rfl 8 (c' := (94, [(0, .ref 102), (1, .ref 3)], [], (mI M41 104 (va_cpy (M41.1 5) (M41.1 104) 0 0 6)))) (o := [shp 3 = (0, 2), shp 102 = (0, 2), (nI 0) = 0, (nI 0) = 0, ¬ (nI 6) < 0, (shp 5).1 = 1, (shp 104).1 = 1, 6 ≤ (shp 5).2, 6 ≤ (shp 104).2, ct [] ≤ 8]) rfl ⟨rfl, rfl, rfl, rfl, (by decide), rfl, rfl, (Nat.le_refl 6), (Nat.le_refl 6), (Nat.le_of_ble_eq_true rfl)⟩ ?_
  generalize hM47 : (mI M41 104 (va_cpy (M41.1 5) (M41.1 104) 0 0 6)) = M46
  have hk48 := fI_ne hM47 (by decide) hk43
  have hk49 := fI_ne hM47 (by decide) hk44
  have hF50 := fr_sI hF45 hM47 (by decide)
  show Wn _ 163 _ (94, [(0, .ref 102), (1, .ref 3)], [], M46)
  refine Wn.vret rfl ⟨rfl, ⟨rfl, rfl, rfl, ?_, ?_⟩, ?_, hF50⟩
  · rw [hk48]
    intro k hk
    match k, hk with
    | 0, _ => exact ((pk_un (by decide)).trans ((pk_un (by decide)).trans ((pk_un (by decide)).trans ((pk_un (by decide)).trans ((pk_un (by decide)).trans ((pk_un (by decide)).trans ((pk_un (by decide)).trans pk_us)))))))
    | 1, _ => exact ((pk_un (by decide)).trans ((pk_un (by decide)).trans ((pk_un (by decide)).trans ((pk_un (by decide)).trans ((pk_un (by decide)).trans ((pk_un (by decide)).trans pk_us))))))
    | 2, _ => exact ((pk_un (by decide)).trans ((pk_un (by decide)).trans ((pk_un (by decide)).trans ((pk_un (by decide)).trans ((pk_un (by decide)).trans pk_us)))))
    | 3, _ => exact ((pk_un (by decide)).trans ((pk_un (by decide)).trans ((pk_un (by decide)).trans ((pk_un (by decide)).trans pk_us))))
    | 4, _ => exact ((pk_un (by decide)).trans ((pk_un (by decide)).trans ((pk_un (by decide)).trans pk_us)))
    | 5, _ => exact ((pk_un (by decide)).trans ((pk_un (by decide)).trans pk_us))
    | 6, _ => exact ((pk_un (by decide)).trans pk_us)
    | 7, _ => exact pk_us
  · intro q hq
    have e1 := cpy_at hM47 q (by omega)
    rw [(hF45 5 (by decide)).1] at e1
    exact e1.trans (hL.2.2.2.2 q hq)
  · intro q hq
    have e1 := cpyJ_at hM42 q (by omega)
    rw [(hF40 4 (by decide)).2.1] at e1
    have e2 : M46.2.1 = M41.2.1 := by rw [← hM47]; rfl
    rw [e2]
    exact e1.trans (hN q hq)
set_option maxRecDepth 20000 in
theorem c_sn_copyFrom_110_11 (d : Nat) (M : Mm) (n : Nat) (A S U : Nat → Nat) (hS : SnC M 11 n A S U) : Wn (d + 0) 186 (PSn M 110 n A S U) (0, lv_args 0 [.ref 110, .ref 11], [], M) := by
  have hF := fr_rf [110, 111, 112, 113] M
  obtain ⟨ga, ha⟩ : ∃ g, M.1 110 = g := ⟨_, rfl⟩
  obtain ⟨gb, hb⟩ : ∃ g, M.1 11 = g := ⟨_, rfl⟩
  obtain ⟨pa, ha1⟩ : ∃ g, M.2.2 111 = g := ⟨_, rfl⟩
  obtain ⟨pb, hb1⟩ : ∃ g, M.2.2 12 = g := ⟨_, rfl⟩
  obtain ⟨sa, ha2⟩ : ∃ g, M.2.2 112 = g := ⟨_, rfl⟩
  obtain ⟨sb, hb2⟩ : ∃ g, M.2.2 13 = g := ⟨_, rfl⟩
  obtain ⟨na, ha3⟩ : ∃ g, M.1 113 = g := ⟨_, rfl⟩
  obtain ⟨nb, hb3⟩ : ∃ g, M.1 14 = g := ⟨_, rfl⟩
  have h3 : gb 3 = nI n := by rw [← hb]; exact hS.1
  have h40 := hS.2.1
  have hIK12 : ∀ i, i < n → isK (pb i) := fun i hi => by have q := hS.2.2 i hi; rw [show M.2.2 (11 + 1) = pb from hb1] at q; rw [q.1]; exact ⟨by omega, by omega⟩
  have hIK13 : ∀ i, i < n → isK (sb i) := fun i hi => by have q := hS.2.2 i hi; rw [show M.2.2 (11 + 2) = sb from hb2] at q; rw [q.2.1]; exact ⟨by omega, by omega⟩
  refine Wn.run (tab := tb_sn_copyFrom) rfl 4 (c' := (8, [(0, .ref 110), (1, .ref 11)], [], (mI M 110 (upd (M.1 110) 3 (M.1 11 3))))) (o := [shp 11 = (0, 4), shp 110 = (0, 4)]) rfl ⟨rfl, rfl⟩ ?_
  rw [show (M.1 11 3) = (nI n) from (fr_eq hb (show gb 3 = (nI n) from h3))]
  generalize hM2 : (mI M 110 (upd (M.1 110) 3 (nI n))) = M1
  have hk3 := fI_up hM2 ha
  have hk4 := fI_ne hM2 (by decide) hb
  have hk5 := fR_oI hM2 ha1
  have hk6 := fR_oI hM2 hb1
  have hk7 := fR_oI hM2 ha2
  have hk8 := fR_oI hM2 hb2
  have hk9 := fI_ne hM2 (by decide) ha3
  have hk10 := fI_ne hM2 (by decide) hb3
  have hF11 := fr_sI hF hM2 (by decide)
  show Wn _ 186 _ (8, [(0, .ref 110), (1, .ref 11)], [], M1)
  refine Wn.run (tab := tb_sn_copyFrom) rfl 4 (c' := (16, [(0, .ref 110), (1, .ref 11)], [], (mI M1 110 (upd (M1.1 110) 4 (M1.1 11 4))))) (o := [shp 11 = (0, 4), shp 110 = (0, 4)]) rfl ⟨rfl, rfl⟩ ?_
  rw [show (M1.1 11 4) = (gb 4) from (fr_eq hk4 (show gb 4 = (gb 4) from rfl))]
  generalize hM13 : (mI M1 110 (upd (M1.1 110) 4 (gb 4))) = M12
  have hk14 := fI_up hM13 hk3
  have hk15 := fI_ne hM13 (by decide) hk4
  have hk16 := fR_oI hM13 hk5
  have hk17 := fR_oI hM13 hk6
  have hk18 := fR_oI hM13 hk7
  have hk19 := fR_oI hM13 hk8
  have hk20 := fI_ne hM13 (by decide) hk9
  have hk21 := fI_ne hM13 (by decide) hk10
  have hF22 := fr_sI hF11 hM13 (by decide)
  show Wn _ 186 _ (16, [(0, .ref 110), (1, .ref 11)], [], M12)
  refine Wn.run (tab := tb_sn_copyFrom) rfl 2 (c' := (18, [(2, .int (nI 0)), (0, .ref 110), (1, .ref 11)], [], M12)) (o := []) rfl trivial ?_
  have loop : ∀ (m z : Nat) (N : Mm), n - z = m → z ≤ n → (N.1 110 = (upd (upd ga 3 (nI n)) 4 (gb 4))) → (N.1 11 = gb) → (N.2.2 111 = (cpG pa pb z)) → (N.2.2 12 = pb) → (N.2.2 112 = (cpG sa sb z)) → (N.2.2 13 = sb) → (N.1 113 = (cpG na nb z)) → (N.1 14 = nb) → (Fr [110, 111, 112, 113] M N) → Wn (d + 0) 186 (PSn M 110 n A S U) (18, [(2, .int (nI z)), (0, .ref 110), (1, .ref 11)], [], N) := by
    intro m
    induction m using Nat.strongRecOn with
    | _ m ih =>
      intro z N hm hz loop_0 loop_1 loop_2 loop_3 loop_4 loop_5 loop_6 loop_7 loop_8
      refine Wn.run (tab := tb_sn_copyFrom) rfl 4 (c' := (if (N.1 110 3) ≤ (nI z) then 68 else 26, [(2, .int (nI z)), (0, .ref 110), (1, .ref 11)], [], N)) (o := [shp 110 = (0, 4)]) rfl rfl ?_
      refine Wn.br (fun h1 => ?_) (fun h1 => ?_)
      · show Wn _ 186 _ (68, [(2, .int (nI z)), (0, .ref 110), (1, .ref 11)], [], N)
        have h1 := (n_le (fr_eq loop_0 (show (upd (upd ga 3 (nI n)) 4 (gb 4)) 3 = (nI n) from rfl)) rfl (by omega) (by omega)).mp h1
        have e9 : z = n := by omega
        subst e9
        refine Wn.vret rfl ⟨rfl, ⟨by rw [loop_0]; rfl, hS.2.1, fun i hi => ?_⟩, loop_8⟩
        have hi3 := hS.2.2 i hi
        rw [show M.2.2 (11 + 1) = pb from hb1, show M.2.2 (11 + 2) = sb from hb2, show M.1 (11 + 3) = nb from hb3] at hi3
        rw [show N.2.2 (110 + 1) = _ from loop_2, show N.2.2 (110 + 2) = _ from loop_4, show N.1 (110 + 3) = _ from loop_6, cpG_at hi, cpG_at hi, cpG_at hi]
        exact hi3
      · show Wn _ 186 _ (26, [(2, .int (nI z)), (0, .ref 110), (1, .ref 11)], [], N)
        have h1 := mt (n_le (fr_eq loop_0 (show (upd (upd ga 3 (nI n)) 4 (gb 4)) 3 = (nI n) from rfl)) rfl (by omega) (by omega)).mpr h1
        refine Wn.run (tab := tb_sn_copyFrom) rfl 8 (c' := (38, [(2, .int (nI z)), (0, .ref 110), (1, .ref 11)], [], (mR N 111 (va_up (N.2.2 111) ((nI z)).toNatClampNeg (N.2.2 12 ((nI z)).toNatClampNeg))))) (o := [shp 110 = (0, 4), shp 11 = (0, 4), aok shp 12 4 (nI z), aok shp 111 4 (nI z), isK (N.2.2 12 ((nI z)).toNatClampNeg)]) rfl ⟨rfl, rfl, (ak1 (n := 40) rfl rfl rfl (by omega)), (ak1 (n := 40) rfl rfl rfl (by omega)), (by rw [nI_clamp (by omega), loop_3]; exact hIK12 z (by omega))⟩ ?_
        rw [show (N.2.2 12 ((nI z)).toNatClampNeg) = (pb z) from (fr_rdxR loop_3 rfl (by omega))]
        generalize hM24 : (mR N 111 (va_up (N.2.2 111) ((nI z)).toNatClampNeg (pb z))) = M23
        have hk25 := fI_oR hM24 loop_0
        have hk26 := fI_oR hM24 loop_1
        have hk27 := fR_upx hM24 loop_2 (cl1 rfl (by omega))
        have hk28 := fR_ne hM24 (by decide) loop_3
        have hk29 := fR_ne hM24 (by decide) loop_4
        have hk30 := fR_ne hM24 (by decide) loop_5
        have hk31 := fI_oR hM24 loop_6
        have hk32 := fI_oR hM24 loop_7
        have hF33 := fr_sR loop_8 hM24 (by decide)
        show Wn _ 186 _ (38, [(2, .int (nI z)), (0, .ref 110), (1, .ref 11)], [], M23)
        refine Wn.run (tab := tb_sn_copyFrom) rfl 8 (c' := (50, [(2, .int (nI z)), (0, .ref 110), (1, .ref 11)], [], (mR M23 112 (va_up (M23.2.2 112) ((nI z)).toNatClampNeg (M23.2.2 13 ((nI z)).toNatClampNeg))))) (o := [shp 110 = (0, 4), shp 11 = (0, 4), aok shp 13 4 (nI z), aok shp 112 4 (nI z), isK (M23.2.2 13 ((nI z)).toNatClampNeg)]) rfl ⟨rfl, rfl, (ak1 (n := 40) rfl rfl rfl (by omega)), (ak1 (n := 40) rfl rfl rfl (by omega)), (by rw [nI_clamp (by omega), hk30]; exact hIK13 z (by omega))⟩ ?_
        rw [show (M23.2.2 13 ((nI z)).toNatClampNeg) = (sb z) from (fr_rdxR hk30 rfl (by omega))]
        generalize hM35 : (mR M23 112 (va_up (M23.2.2 112) ((nI z)).toNatClampNeg (sb z))) = M34
        have hk36 := fI_oR hM35 hk25
        have hk37 := fI_oR hM35 hk26
        have hk38 := fR_ne hM35 (by decide) hk27
        have hk39 := fR_ne hM35 (by decide) hk28
        have hk40 := fR_upx hM35 hk29 (cl1 rfl (by omega))
        have hk41 := fR_ne hM35 (by decide) hk30
        have hk42 := fI_oR hM35 hk31
        have hk43 := fI_oR hM35 hk32
        have hF44 := fr_sR hF33 hM35 (by decide)
        show Wn _ 186 _ (50, [(2, .int (nI z)), (0, .ref 110), (1, .ref 11)], [], M34)
        refine Wn.run (tab := tb_sn_copyFrom) rfl 8 (c' := (62, [(2, .int (nI z)), (0, .ref 110), (1, .ref 11)], [], (mI M34 113 (upd (M34.1 113) ((nI z)).toNatClampNeg (M34.1 14 ((nI z)).toNatClampNeg))))) (o := [shp 110 = (0, 4), shp 11 = (0, 4), aok shp 14 0 (nI z), aok shp 113 0 (nI z)]) rfl ⟨rfl, rfl, (ak1 (n := 40) rfl rfl rfl (by omega)), (ak1 (n := 40) rfl rfl rfl (by omega))⟩ ?_
        rw [show (M34.1 14 ((nI z)).toNatClampNeg) = (nb z) from (fr_rdx hk43 rfl (by omega))]
        generalize hM46 : (mI M34 113 (upd (M34.1 113) ((nI z)).toNatClampNeg (nb z))) = M45
        have hk47 := fI_ne hM46 (by decide) hk36
        have hk48 := fI_ne hM46 (by decide) hk37
        have hk49 := fR_oI hM46 hk38
        have hk50 := fR_oI hM46 hk39
        have hk51 := fR_oI hM46 hk40
        have hk52 := fR_oI hM46 hk41
        have hk53 := fI_upx hM46 hk42 (cl1 rfl (by omega))
        have hk54 := fI_ne hM46 (by decide) hk43
        have hF55 := fr_sI hF44 hM46 (by decide)
        show Wn _ 186 _ (62, [(2, .int (nI z)), (0, .ref 110), (1, .ref 11)], [], M45)
        refine Wn.run (tab := tb_sn_copyFrom) rfl 2 (c' := (18, [(2, .int ((nI z) + (nI 1))), (0, .ref 110), (1, .ref 11)], [], M45)) (o := []) rfl trivial ?_
        rw [show ((nI z) + (nI 1)) = (nI (z + 1)) from (n_add rfl rfl)]
        exact ih (n - (z + 1)) (by omega) (z + 1) M45 rfl (by omega) hk47 hk48 (by rw [← cpR_s]; exact hk49) hk50 (by rw [← cpR_s]; exact hk51) hk52 (by rw [← cpI_s]; exact hk53) hk54 hF55
  exact loop (n - 0) 0 M12 rfl (by omega) hk14 hk15 (by rw [cpG_0]; exact hk16) hk17 (by rw [cpG_0]; exact hk18) hk19 (by rw [cpG_0]; exact hk20) hk21 hF22
set_option maxRecDepth 20000 in
theorem c_sc_copyFrom_101_2 (d : Nat) (M : Mm) (σ : Nat → Nat) (ν : Nat → Int64) (n : Nat) (A S N : Nat → Nat) (hS : StC M 6 σ) (hN : NmC M 3 ν (σ 2)) (hP : SnC M 11 n A S N) : Wn (d + 1) 183 (PSC M 101 σ ν n A S N) (0, lv_args 0 [.ref 101, .ref 2], [], M) := by
  have h26 := hS.2.2.1.2.2.2.2.2.2
  refine Wn.run (tab := tb_sc_copyFrom) rfl 4 (c' := (8, [(0, .ref 101), (1, .ref 2)], [.ref 3, .ref 102], M)) (o := [shp 101 = (0, 8), shp 2 = (0, 8)]) rfl ⟨rfl, rfl⟩ ?_
  refine Wn.callV (p := 102) (n := 2) (ix := 39) (ci := (2)) (PLc M 102 σ ν) [.ref 3] [] rfl rfl rfl rfl (Nat.le_of_ble_eq_true rfl) (Nat.le_of_ble_eq_true rfl) (c_lk_copyFrom_102_3 _ M σ ν h26 hS.2.1 hN) ?_
  rintro _ M1 ⟨rfl, l1, l2, l3⟩
  show Wn _ 183 _ (11, [(0, .ref 101), (1, .ref 2)], [], M1)
  refine Wn.run (tab := tb_sc_copyFrom) rfl 4 (c' := (19, [(0, .ref 101), (1, .ref 2)], [.ref 6, .ref 105], M1)) (o := [shp 101 = (0, 8), shp 2 = (0, 8)]) rfl ⟨rfl, rfl⟩ ?_
  refine Wn.callV (p := 105) (n := 2) (ix := 42) (ci := (5)) (PS 105 M1 σ (M1.1 105 11) (M1.1 105 12) none) [.ref 6] [] rfl rfl rfl rfl (Nat.le_of_ble_eq_true rfl) (Nat.le_of_ble_eq_true rfl) (c_st_copyFrom _ M1 105 6 σ ⟨rfl, rfl, rfl, rfl, rfl, rfl, rfl, rfl, by decide⟩ l1 (fr_st l3 hS (by decide)) (by decide) (by decide) _ _ rfl rfl) ?_
  rintro _ M2 ⟨rfl, s1, s2, s3, s4⟩
  show Wn _ 183 _ (22, [(0, .ref 101), (1, .ref 2)], [], M2)
  refine Wn.run (tab := tb_sc_copyFrom) rfl 4 (c' := (30, [(0, .ref 101), (1, .ref 2)], [.ref 11, .ref 110], M2)) (o := [shp 101 = (0, 8), shp 2 = (0, 8)]) rfl ⟨rfl, rfl⟩ ?_
  refine Wn.callV (p := 110) (n := 2) (ix := 45) (ci := (4)) (PSn M2 110 n A S N) [.ref 11] [] rfl rfl rfl rfl (Nat.le_of_ble_eq_true rfl) (Nat.le_of_ble_eq_true rfl) (c_sn_copyFrom_110_11 _ M2 n A S N (SnC_fr s4 (by decide) (by decide) (by decide) (by decide) (SnC_fr l3 (by decide) (by decide) (by decide) (by decide) hP))) ?_
  rintro _ M3 ⟨rfl, t1, t2⟩
  show Wn _ 183 _ (33, [(0, .ref 101), (1, .ref 2)], [], M3)
  refine Wn.vret rfl ⟨rfl, fr_st t2 s1 (by decide), NmC_fr t2 (by decide) (NmC_fr s4 (by decide) l2), t1, ?_, ?_, fr_tr (fr_tr (fr_up l3 (by decide)) s4 (by decide)) t2 (by decide)⟩
  · rw [(t2 (101 + 4) (by decide)).1, ← (l3 (101 + 4) (by decide)).1]; exact s2
  · rw [(t2 (101 + 4) (by decide)).1, ← (l3 (101 + 4) (by decide)).1]; exact s3
set_option maxRecDepth 20000 in
theorem c_lk_copyFrom_3_89 (d : Nat) (M : Mm) (σ : Nat → Nat) (ν : Nat → Int64) (h26 : σ 2 ≤ 6) (hL : LkC M 89 σ) (hN : NmC M 89 ν (σ 2)) : Wn (d + 0) 163 (PLc M 3 σ ν) (0, lv_args 0 [.ref 3, .ref 89], [], M) := by
  have hF := fr_rf [3, 4, 5] M
  obtain ⟨ga, ha⟩ : ∃ g, M.1 3 = g := ⟨_, rfl⟩
  obtain ⟨gb, hb⟩ : ∃ g, M.1 89 = g := ⟨_, rfl⟩
  have h8 : ∀ k, k < 8 → gb k = nI (σ k) := by rw [← hb]; exact hL.2.2.2.1
  refine Wn.run (tab := tb_lk_copyFrom) rfl 4 (c' := (8, [(0, .ref 3), (1, .ref 89)], [], (mI M 3 (upd (M.1 3) 0 (M.1 89 0))))) (o := [shp 89 = (0, 2), shp 3 = (0, 2)]) rfl ⟨rfl, rfl⟩ ?_
  rw [show (M.1 89 0) = (nI (σ 0)) from (fr_eq hb (show gb 0 = (nI (σ 0)) from (h8 0 (by decide))))]
  generalize hM2 : (mI M 3 (upd (M.1 3) 0 (nI (σ 0)))) = M1
  have hk3 := fI_up hM2 ha
  have hk4 := fI_ne hM2 (by decide) hb
  have hF5 := fr_sI hF hM2 (by decide)
  show Wn _ 163 _ (8, [(0, .ref 3), (1, .ref 89)], [], M1)
  refine Wn.run (tab := tb_lk_copyFrom) rfl 4 (c' := (16, [(0, .ref 3), (1, .ref 89)], [], (mI M1 3 (upd (M1.1 3) 1 (M1.1 89 1))))) (o := [shp 89 = (0, 2), shp 3 = (0, 2)]) rfl ⟨rfl, rfl⟩ ?_
  rw [show (M1.1 89 1) = (nI (σ 1)) from (fr_eq hk4 (show gb 1 = (nI (σ 1)) from (h8 1 (by decide))))]
  generalize hM7 : (mI M1 3 (upd (M1.1 3) 1 (nI (σ 1)))) = M6
  have hk8 := fI_up hM7 hk3
  have hk9 := fI_ne hM7 (by decide) hk4
  have hF10 := fr_sI hF5 hM7 (by decide)
  show Wn _ 163 _ (16, [(0, .ref 3), (1, .ref 89)], [], M6)
  refine Wn.run (tab := tb_lk_copyFrom) rfl 4 (c' := (24, [(0, .ref 3), (1, .ref 89)], [], (mI M6 3 (upd (M6.1 3) 2 (M6.1 89 2))))) (o := [shp 89 = (0, 2), shp 3 = (0, 2)]) rfl ⟨rfl, rfl⟩ ?_
  rw [show (M6.1 89 2) = (nI (σ 2)) from (fr_eq hk9 (show gb 2 = (nI (σ 2)) from (h8 2 (by decide))))]
  generalize hM12 : (mI M6 3 (upd (M6.1 3) 2 (nI (σ 2)))) = M11
  have hk13 := fI_up hM12 hk8
  have hk14 := fI_ne hM12 (by decide) hk9
  have hF15 := fr_sI hF10 hM12 (by decide)
  show Wn _ 163 _ (24, [(0, .ref 3), (1, .ref 89)], [], M11)
  refine Wn.run (tab := tb_lk_copyFrom) rfl 4 (c' := (32, [(0, .ref 3), (1, .ref 89)], [], (mI M11 3 (upd (M11.1 3) 3 (M11.1 89 3))))) (o := [shp 89 = (0, 2), shp 3 = (0, 2)]) rfl ⟨rfl, rfl⟩ ?_
  rw [show (M11.1 89 3) = (nI (σ 3)) from (fr_eq hk14 (show gb 3 = (nI (σ 3)) from (h8 3 (by decide))))]
  generalize hM17 : (mI M11 3 (upd (M11.1 3) 3 (nI (σ 3)))) = M16
  have hk18 := fI_up hM17 hk13
  have hk19 := fI_ne hM17 (by decide) hk14
  have hF20 := fr_sI hF15 hM17 (by decide)
  show Wn _ 163 _ (32, [(0, .ref 3), (1, .ref 89)], [], M16)
  refine Wn.run (tab := tb_lk_copyFrom) rfl 4 (c' := (40, [(0, .ref 3), (1, .ref 89)], [], (mI M16 3 (upd (M16.1 3) 4 (M16.1 89 4))))) (o := [shp 89 = (0, 2), shp 3 = (0, 2)]) rfl ⟨rfl, rfl⟩ ?_
  rw [show (M16.1 89 4) = (nI (σ 4)) from (fr_eq hk19 (show gb 4 = (nI (σ 4)) from (h8 4 (by decide))))]
  generalize hM22 : (mI M16 3 (upd (M16.1 3) 4 (nI (σ 4)))) = M21
  have hk23 := fI_up hM22 hk18
  have hk24 := fI_ne hM22 (by decide) hk19
  have hF25 := fr_sI hF20 hM22 (by decide)
  show Wn _ 163 _ (40, [(0, .ref 3), (1, .ref 89)], [], M21)
  refine Wn.run (tab := tb_lk_copyFrom) rfl 4 (c' := (48, [(0, .ref 3), (1, .ref 89)], [], (mI M21 3 (upd (M21.1 3) 5 (M21.1 89 5))))) (o := [shp 89 = (0, 2), shp 3 = (0, 2)]) rfl ⟨rfl, rfl⟩ ?_
  rw [show (M21.1 89 5) = (nI (σ 5)) from (fr_eq hk24 (show gb 5 = (nI (σ 5)) from (h8 5 (by decide))))]
  generalize hM27 : (mI M21 3 (upd (M21.1 3) 5 (nI (σ 5)))) = M26
  have hk28 := fI_up hM27 hk23
  have hk29 := fI_ne hM27 (by decide) hk24
  have hF30 := fr_sI hF25 hM27 (by decide)
  show Wn _ 163 _ (48, [(0, .ref 3), (1, .ref 89)], [], M26)
  refine Wn.run (tab := tb_lk_copyFrom) rfl 4 (c' := (56, [(0, .ref 3), (1, .ref 89)], [], (mI M26 3 (upd (M26.1 3) 6 (M26.1 89 6))))) (o := [shp 89 = (0, 2), shp 3 = (0, 2)]) rfl ⟨rfl, rfl⟩ ?_
  rw [show (M26.1 89 6) = (nI (σ 6)) from (fr_eq hk29 (show gb 6 = (nI (σ 6)) from (h8 6 (by decide))))]
  generalize hM32 : (mI M26 3 (upd (M26.1 3) 6 (nI (σ 6)))) = M31
  have hk33 := fI_up hM32 hk28
  have hk34 := fI_ne hM32 (by decide) hk29
  have hF35 := fr_sI hF30 hM32 (by decide)
  show Wn _ 163 _ (56, [(0, .ref 3), (1, .ref 89)], [], M31)
  refine Wn.run (tab := tb_lk_copyFrom) rfl 4 (c' := (64, [(0, .ref 3), (1, .ref 89)], [], (mI M31 3 (upd (M31.1 3) 7 (M31.1 89 7))))) (o := [shp 89 = (0, 2), shp 3 = (0, 2)]) rfl ⟨rfl, rfl⟩ ?_
  rw [show (M31.1 89 7) = (nI (σ 7)) from (fr_eq hk34 (show gb 7 = (nI (σ 7)) from (h8 7 (by decide))))]
  generalize hM37 : (mI M31 3 (upd (M31.1 3) 7 (nI (σ 7)))) = M36
  have hk38 := fI_up hM37 hk33
  have hk39 := fI_ne hM37 (by decide) hk34
  have hF40 := fr_sI hF35 hM37 (by decide)
  show Wn _ 163 _ (64, [(0, .ref 3), (1, .ref 89)], [], M36)
  refine Wn.run (tab := tb_lk_copyFrom) rfl 8 (c' := (79, [(0, .ref 3), (1, .ref 89)], [], (mJ M36 4 (va_cpy (M36.2.1 90) (M36.2.1 4) 0 0 6)))) (o := [shp 89 = (0, 2), shp 3 = (0, 2), (nI 0) = 0, (nI 0) = 0, ¬ (nI 6) < 0, (shp 90).1 = 4, (shp 4).1 = 4, 6 ≤ (shp 90).2, 6 ≤ (shp 4).2, ct [] ≤ 8]) rfl ⟨rfl, rfl, rfl, rfl, (by decide), rfl, rfl, (Nat.le_refl 6), (Nat.le_refl 6), (Nat.le_of_ble_eq_true rfl)⟩ ?_
  generalize hM42 : (mJ M36 4 (va_cpy (M36.2.1 90) (M36.2.1 4) 0 0 6)) = M41
  have hk43 := fI_oJ hM42 hk38
  have hk44 := fI_oJ hM42 hk39
  have hF45 := fr_sJ hF40 hM42 (by decide)
  show Wn _ 163 _ (79, [(0, .ref 3), (1, .ref 89)], [], M41)
  refine Wn.run (tab := tb_lk_copyFrom) rfl 8 (c' := (94, [(0, .ref 3), (1, .ref 89)], [], (mI M41 5 (va_cpy (M41.1 91) (M41.1 5) 0 0 6)))) (o := [shp 89 = (0, 2), shp 3 = (0, 2), (nI 0) = 0, (nI 0) = 0, ¬ (nI 6) < 0, (shp 91).1 = 1, (shp 5).1 = 1, 6 ≤ (shp 91).2, 6 ≤ (shp 5).2, ct [] ≤ 8]) rfl ⟨rfl, rfl, rfl, rfl, (by decide), rfl, rfl, (Nat.le_refl 6), (Nat.le_refl 6), (Nat.le_of_ble_eq_true rfl)⟩ ?_
  generalize hM47 : (mI M41 5 (va_cpy (M41.1 91) (M41.1 5) 0 0 6)) = M46
  have hk48 := fI_ne hM47 (by decide) hk43
  have hk49 := fI_ne hM47 (by decide) hk44
  have hF50 := fr_sI hF45 hM47 (by decide)
  show Wn _ 163 _ (94, [(0, .ref 3), (1, .ref 89)], [], M46)
  refine Wn.vret rfl ⟨rfl, ⟨rfl, rfl, rfl, ?_, ?_⟩, ?_, hF50⟩
  · rw [hk48]
    intro k hk
    match k, hk with
    | 0, _ => exact ((pk_un (by decide)).trans ((pk_un (by decide)).trans ((pk_un (by decide)).trans ((pk_un (by decide)).trans ((pk_un (by decide)).trans ((pk_un (by decide)).trans ((pk_un (by decide)).trans pk_us)))))))
    | 1, _ => exact ((pk_un (by decide)).trans ((pk_un (by decide)).trans ((pk_un (by decide)).trans ((pk_un (by decide)).trans ((pk_un (by decide)).trans ((pk_un (by decide)).trans pk_us))))))
    | 2, _ => exact ((pk_un (by decide)).trans ((pk_un (by decide)).trans ((pk_un (by decide)).trans ((pk_un (by decide)).trans ((pk_un (by decide)).trans pk_us)))))
    | 3, _ => exact ((pk_un (by decide)).trans ((pk_un (by decide)).trans ((pk_un (by decide)).trans ((pk_un (by decide)).trans pk_us))))
    | 4, _ => exact ((pk_un (by decide)).trans ((pk_un (by decide)).trans ((pk_un (by decide)).trans pk_us)))
    | 5, _ => exact ((pk_un (by decide)).trans ((pk_un (by decide)).trans pk_us))
    | 6, _ => exact ((pk_un (by decide)).trans pk_us)
    | 7, _ => exact pk_us
  · intro q hq
    have e1 := cpy_at hM47 q (by omega)
    rw [(hF45 91 (by decide)).1] at e1
    exact e1.trans (hL.2.2.2.2 q hq)
  · intro q hq
    have e1 := cpyJ_at hM42 q (by omega)
    rw [(hF40 90 (by decide)).2.1] at e1
    have e2 : M46.2.1 = M41.2.1 := by rw [← hM47]; rfl
    rw [e2]
    exact e1.trans (hN q hq)
set_option maxRecDepth 20000 in
theorem c_sn_copyFrom_11_97 (d : Nat) (M : Mm) (n : Nat) (A S U : Nat → Nat) (hS : SnC M 97 n A S U) : Wn (d + 0) 186 (PSn M 11 n A S U) (0, lv_args 0 [.ref 11, .ref 97], [], M) := by
  have hF := fr_rf [11, 12, 13, 14] M
  obtain ⟨ga, ha⟩ : ∃ g, M.1 11 = g := ⟨_, rfl⟩
  obtain ⟨gb, hb⟩ : ∃ g, M.1 97 = g := ⟨_, rfl⟩
  obtain ⟨pa, ha1⟩ : ∃ g, M.2.2 12 = g := ⟨_, rfl⟩
  obtain ⟨pb, hb1⟩ : ∃ g, M.2.2 98 = g := ⟨_, rfl⟩
  obtain ⟨sa, ha2⟩ : ∃ g, M.2.2 13 = g := ⟨_, rfl⟩
  obtain ⟨sb, hb2⟩ : ∃ g, M.2.2 99 = g := ⟨_, rfl⟩
  obtain ⟨na, ha3⟩ : ∃ g, M.1 14 = g := ⟨_, rfl⟩
  obtain ⟨nb, hb3⟩ : ∃ g, M.1 100 = g := ⟨_, rfl⟩
  have h3 : gb 3 = nI n := by rw [← hb]; exact hS.1
  have h40 := hS.2.1
  have hIK98 : ∀ i, i < n → isK (pb i) := fun i hi => by have q := hS.2.2 i hi; rw [show M.2.2 (97 + 1) = pb from hb1] at q; rw [q.1]; exact ⟨by omega, by omega⟩
  have hIK99 : ∀ i, i < n → isK (sb i) := fun i hi => by have q := hS.2.2 i hi; rw [show M.2.2 (97 + 2) = sb from hb2] at q; rw [q.2.1]; exact ⟨by omega, by omega⟩
  refine Wn.run (tab := tb_sn_copyFrom) rfl 4 (c' := (8, [(0, .ref 11), (1, .ref 97)], [], (mI M 11 (upd (M.1 11) 3 (M.1 97 3))))) (o := [shp 97 = (0, 4), shp 11 = (0, 4)]) rfl ⟨rfl, rfl⟩ ?_
  rw [show (M.1 97 3) = (nI n) from (fr_eq hb (show gb 3 = (nI n) from h3))]
  generalize hM2 : (mI M 11 (upd (M.1 11) 3 (nI n))) = M1
  have hk3 := fI_up hM2 ha
  have hk4 := fI_ne hM2 (by decide) hb
  have hk5 := fR_oI hM2 ha1
  have hk6 := fR_oI hM2 hb1
  have hk7 := fR_oI hM2 ha2
  have hk8 := fR_oI hM2 hb2
  have hk9 := fI_ne hM2 (by decide) ha3
  have hk10 := fI_ne hM2 (by decide) hb3
  have hF11 := fr_sI hF hM2 (by decide)
  show Wn _ 186 _ (8, [(0, .ref 11), (1, .ref 97)], [], M1)
  refine Wn.run (tab := tb_sn_copyFrom) rfl 4 (c' := (16, [(0, .ref 11), (1, .ref 97)], [], (mI M1 11 (upd (M1.1 11) 4 (M1.1 97 4))))) (o := [shp 97 = (0, 4), shp 11 = (0, 4)]) rfl ⟨rfl, rfl⟩ ?_
  rw [show (M1.1 97 4) = (gb 4) from (fr_eq hk4 (show gb 4 = (gb 4) from rfl))]
  generalize hM13 : (mI M1 11 (upd (M1.1 11) 4 (gb 4))) = M12
  have hk14 := fI_up hM13 hk3
  have hk15 := fI_ne hM13 (by decide) hk4
  have hk16 := fR_oI hM13 hk5
  have hk17 := fR_oI hM13 hk6
  have hk18 := fR_oI hM13 hk7
  have hk19 := fR_oI hM13 hk8
  have hk20 := fI_ne hM13 (by decide) hk9
  have hk21 := fI_ne hM13 (by decide) hk10
  have hF22 := fr_sI hF11 hM13 (by decide)
  show Wn _ 186 _ (16, [(0, .ref 11), (1, .ref 97)], [], M12)
  refine Wn.run (tab := tb_sn_copyFrom) rfl 2 (c' := (18, [(2, .int (nI 0)), (0, .ref 11), (1, .ref 97)], [], M12)) (o := []) rfl trivial ?_
  have loop : ∀ (m z : Nat) (N : Mm), n - z = m → z ≤ n → (N.1 11 = (upd (upd ga 3 (nI n)) 4 (gb 4))) → (N.1 97 = gb) → (N.2.2 12 = (cpG pa pb z)) → (N.2.2 98 = pb) → (N.2.2 13 = (cpG sa sb z)) → (N.2.2 99 = sb) → (N.1 14 = (cpG na nb z)) → (N.1 100 = nb) → (Fr [11, 12, 13, 14] M N) → Wn (d + 0) 186 (PSn M 11 n A S U) (18, [(2, .int (nI z)), (0, .ref 11), (1, .ref 97)], [], N) := by
    intro m
    induction m using Nat.strongRecOn with
    | _ m ih =>
      intro z N hm hz loop_0 loop_1 loop_2 loop_3 loop_4 loop_5 loop_6 loop_7 loop_8
      refine Wn.run (tab := tb_sn_copyFrom) rfl 4 (c' := (if (N.1 11 3) ≤ (nI z) then 68 else 26, [(2, .int (nI z)), (0, .ref 11), (1, .ref 97)], [], N)) (o := [shp 11 = (0, 4)]) rfl rfl ?_
      refine Wn.br (fun h1 => ?_) (fun h1 => ?_)
      · show Wn _ 186 _ (68, [(2, .int (nI z)), (0, .ref 11), (1, .ref 97)], [], N)
        have h1 := (n_le (fr_eq loop_0 (show (upd (upd ga 3 (nI n)) 4 (gb 4)) 3 = (nI n) from rfl)) rfl (by omega) (by omega)).mp h1
        have e9 : z = n := by omega
        subst e9
        refine Wn.vret rfl ⟨rfl, ⟨by rw [loop_0]; rfl, hS.2.1, fun i hi => ?_⟩, loop_8⟩
        have hi3 := hS.2.2 i hi
        rw [show M.2.2 (97 + 1) = pb from hb1, show M.2.2 (97 + 2) = sb from hb2, show M.1 (97 + 3) = nb from hb3] at hi3
        rw [show N.2.2 (11 + 1) = _ from loop_2, show N.2.2 (11 + 2) = _ from loop_4, show N.1 (11 + 3) = _ from loop_6, cpG_at hi, cpG_at hi, cpG_at hi]
        exact hi3
      · show Wn _ 186 _ (26, [(2, .int (nI z)), (0, .ref 11), (1, .ref 97)], [], N)
        have h1 := mt (n_le (fr_eq loop_0 (show (upd (upd ga 3 (nI n)) 4 (gb 4)) 3 = (nI n) from rfl)) rfl (by omega) (by omega)).mpr h1
        refine Wn.run (tab := tb_sn_copyFrom) rfl 8 (c' := (38, [(2, .int (nI z)), (0, .ref 11), (1, .ref 97)], [], (mR N 12 (va_up (N.2.2 12) ((nI z)).toNatClampNeg (N.2.2 98 ((nI z)).toNatClampNeg))))) (o := [shp 11 = (0, 4), shp 97 = (0, 4), aok shp 98 4 (nI z), aok shp 12 4 (nI z), isK (N.2.2 98 ((nI z)).toNatClampNeg)]) rfl ⟨rfl, rfl, (ak1 (n := 40) rfl rfl rfl (by omega)), (ak1 (n := 40) rfl rfl rfl (by omega)), (by rw [nI_clamp (by omega), loop_3]; exact hIK98 z (by omega))⟩ ?_
        rw [show (N.2.2 98 ((nI z)).toNatClampNeg) = (pb z) from (fr_rdxR loop_3 rfl (by omega))]
        generalize hM24 : (mR N 12 (va_up (N.2.2 12) ((nI z)).toNatClampNeg (pb z))) = M23
        have hk25 := fI_oR hM24 loop_0
        have hk26 := fI_oR hM24 loop_1
        have hk27 := fR_upx hM24 loop_2 (cl1 rfl (by omega))
        have hk28 := fR_ne hM24 (by decide) loop_3
        have hk29 := fR_ne hM24 (by decide) loop_4
        have hk30 := fR_ne hM24 (by decide) loop_5
        have hk31 := fI_oR hM24 loop_6
        have hk32 := fI_oR hM24 loop_7
        have hF33 := fr_sR loop_8 hM24 (by decide)
        show Wn _ 186 _ (38, [(2, .int (nI z)), (0, .ref 11), (1, .ref 97)], [], M23)
        refine Wn.run (tab := tb_sn_copyFrom) rfl 8 (c' := (50, [(2, .int (nI z)), (0, .ref 11), (1, .ref 97)], [], (mR M23 13 (va_up (M23.2.2 13) ((nI z)).toNatClampNeg (M23.2.2 99 ((nI z)).toNatClampNeg))))) (o := [shp 11 = (0, 4), shp 97 = (0, 4), aok shp 99 4 (nI z), aok shp 13 4 (nI z), isK (M23.2.2 99 ((nI z)).toNatClampNeg)]) rfl ⟨rfl, rfl, (ak1 (n := 40) rfl rfl rfl (by omega)), (ak1 (n := 40) rfl rfl rfl (by omega)), (by rw [nI_clamp (by omega), hk30]; exact hIK99 z (by omega))⟩ ?_
        rw [show (M23.2.2 99 ((nI z)).toNatClampNeg) = (sb z) from (fr_rdxR hk30 rfl (by omega))]
        generalize hM35 : (mR M23 13 (va_up (M23.2.2 13) ((nI z)).toNatClampNeg (sb z))) = M34
        have hk36 := fI_oR hM35 hk25
        have hk37 := fI_oR hM35 hk26
        have hk38 := fR_ne hM35 (by decide) hk27
        have hk39 := fR_ne hM35 (by decide) hk28
        have hk40 := fR_upx hM35 hk29 (cl1 rfl (by omega))
        have hk41 := fR_ne hM35 (by decide) hk30
        have hk42 := fI_oR hM35 hk31
        have hk43 := fI_oR hM35 hk32
        have hF44 := fr_sR hF33 hM35 (by decide)
        show Wn _ 186 _ (50, [(2, .int (nI z)), (0, .ref 11), (1, .ref 97)], [], M34)
        refine Wn.run (tab := tb_sn_copyFrom) rfl 8 (c' := (62, [(2, .int (nI z)), (0, .ref 11), (1, .ref 97)], [], (mI M34 14 (upd (M34.1 14) ((nI z)).toNatClampNeg (M34.1 100 ((nI z)).toNatClampNeg))))) (o := [shp 11 = (0, 4), shp 97 = (0, 4), aok shp 100 0 (nI z), aok shp 14 0 (nI z)]) rfl ⟨rfl, rfl, (ak1 (n := 40) rfl rfl rfl (by omega)), (ak1 (n := 40) rfl rfl rfl (by omega))⟩ ?_
        rw [show (M34.1 100 ((nI z)).toNatClampNeg) = (nb z) from (fr_rdx hk43 rfl (by omega))]
        generalize hM46 : (mI M34 14 (upd (M34.1 14) ((nI z)).toNatClampNeg (nb z))) = M45
        have hk47 := fI_ne hM46 (by decide) hk36
        have hk48 := fI_ne hM46 (by decide) hk37
        have hk49 := fR_oI hM46 hk38
        have hk50 := fR_oI hM46 hk39
        have hk51 := fR_oI hM46 hk40
        have hk52 := fR_oI hM46 hk41
        have hk53 := fI_upx hM46 hk42 (cl1 rfl (by omega))
        have hk54 := fI_ne hM46 (by decide) hk43
        have hF55 := fr_sI hF44 hM46 (by decide)
        show Wn _ 186 _ (62, [(2, .int (nI z)), (0, .ref 11), (1, .ref 97)], [], M45)
        refine Wn.run (tab := tb_sn_copyFrom) rfl 2 (c' := (18, [(2, .int ((nI z) + (nI 1))), (0, .ref 11), (1, .ref 97)], [], M45)) (o := []) rfl trivial ?_
        rw [show ((nI z) + (nI 1)) = (nI (z + 1)) from (n_add rfl rfl)]
        exact ih (n - (z + 1)) (by omega) (z + 1) M45 rfl (by omega) hk47 hk48 (by rw [← cpR_s]; exact hk49) hk50 (by rw [← cpR_s]; exact hk51) hk52 (by rw [← cpI_s]; exact hk53) hk54 hF55
  exact loop (n - 0) 0 M12 rfl (by omega) hk14 hk15 (by rw [cpG_0]; exact hk16) hk17 (by rw [cpG_0]; exact hk18) hk19 (by rw [cpG_0]; exact hk20) hk21 hF22
set_option maxRecDepth 20000 in
theorem c_sc_copyFrom_2_88 (d : Nat) (M : Mm) (σ : Nat → Nat) (ν : Nat → Int64) (n : Nat) (A S N : Nat → Nat) (hS : StC M 92 σ) (hN : NmC M 89 ν (σ 2)) (hP : SnC M 97 n A S N) : Wn (d + 1) 183 (PSC M 2 σ ν n A S N) (0, lv_args 0 [.ref 2, .ref 88], [], M) := by
  have h26 := hS.2.2.1.2.2.2.2.2.2
  refine Wn.run (tab := tb_sc_copyFrom) rfl 4 (c' := (8, [(0, .ref 2), (1, .ref 88)], [.ref 89, .ref 3], M)) (o := [shp 2 = (0, 8), shp 88 = (0, 8)]) rfl ⟨rfl, rfl⟩ ?_
  refine Wn.callV (p := 3) (n := 2) (ix := 39) (ci := (2)) (PLc M 3 σ ν) [.ref 89] [] rfl rfl rfl rfl (Nat.le_of_ble_eq_true rfl) (Nat.le_of_ble_eq_true rfl) (c_lk_copyFrom_3_89 _ M σ ν h26 hS.2.1 hN) ?_
  rintro _ M1 ⟨rfl, l1, l2, l3⟩
  show Wn _ 183 _ (11, [(0, .ref 2), (1, .ref 88)], [], M1)
  refine Wn.run (tab := tb_sc_copyFrom) rfl 4 (c' := (19, [(0, .ref 2), (1, .ref 88)], [.ref 92, .ref 6], M1)) (o := [shp 2 = (0, 8), shp 88 = (0, 8)]) rfl ⟨rfl, rfl⟩ ?_
  refine Wn.callV (p := 6) (n := 2) (ix := 42) (ci := (5)) (PS 6 M1 σ (M1.1 6 11) (M1.1 6 12) none) [.ref 92] [] rfl rfl rfl rfl (Nat.le_of_ble_eq_true rfl) (Nat.le_of_ble_eq_true rfl) (c_st_copyFrom _ M1 6 92 σ ⟨rfl, rfl, rfl, rfl, rfl, rfl, rfl, rfl, by decide⟩ l1 (fr_st l3 hS (by decide)) (by decide) (by decide) _ _ rfl rfl) ?_
  rintro _ M2 ⟨rfl, s1, s2, s3, s4⟩
  show Wn _ 183 _ (22, [(0, .ref 2), (1, .ref 88)], [], M2)
  refine Wn.run (tab := tb_sc_copyFrom) rfl 4 (c' := (30, [(0, .ref 2), (1, .ref 88)], [.ref 97, .ref 11], M2)) (o := [shp 2 = (0, 8), shp 88 = (0, 8)]) rfl ⟨rfl, rfl⟩ ?_
  refine Wn.callV (p := 11) (n := 2) (ix := 45) (ci := (4)) (PSn M2 11 n A S N) [.ref 97] [] rfl rfl rfl rfl (Nat.le_of_ble_eq_true rfl) (Nat.le_of_ble_eq_true rfl) (c_sn_copyFrom_11_97 _ M2 n A S N (SnC_fr s4 (by decide) (by decide) (by decide) (by decide) (SnC_fr l3 (by decide) (by decide) (by decide) (by decide) hP))) ?_
  rintro _ M3 ⟨rfl, t1, t2⟩
  show Wn _ 183 _ (33, [(0, .ref 2), (1, .ref 88)], [], M3)
  refine Wn.vret rfl ⟨rfl, fr_st t2 s1 (by decide), NmC_fr t2 (by decide) (NmC_fr s4 (by decide) l2), t1, ?_, ?_, fr_tr (fr_tr (fr_up l3 (by decide)) s4 (by decide)) t2 (by decide)⟩
  · rw [(t2 (2 + 4) (by decide)).1, ← (l3 (2 + 4) (by decide)).1]; exact s2
  · rw [(t2 (2 + 4) (by decide)).1, ← (l3 (2 + 4) (by decide)).1]; exact s3
set_option maxRecDepth 20000 in
theorem c_lk_copyFrom_3_102 (d : Nat) (M : Mm) (σ : Nat → Nat) (ν : Nat → Int64) (h26 : σ 2 ≤ 6) (hL : LkC M 102 σ) (hN : NmC M 102 ν (σ 2)) : Wn (d + 0) 163 (PLc M 3 σ ν) (0, lv_args 0 [.ref 3, .ref 102], [], M) := by
  have hF := fr_rf [3, 4, 5] M
  obtain ⟨ga, ha⟩ : ∃ g, M.1 3 = g := ⟨_, rfl⟩
  obtain ⟨gb, hb⟩ : ∃ g, M.1 102 = g := ⟨_, rfl⟩
  have h8 : ∀ k, k < 8 → gb k = nI (σ k) := by rw [← hb]; exact hL.2.2.2.1
  refine Wn.run (tab := tb_lk_copyFrom) rfl 4 (c' := (8, [(0, .ref 3), (1, .ref 102)], [], (mI M 3 (upd (M.1 3) 0 (M.1 102 0))))) (o := [shp 102 = (0, 2), shp 3 = (0, 2)]) rfl ⟨rfl, rfl⟩ ?_
  rw [show (M.1 102 0) = (nI (σ 0)) from (fr_eq hb (show gb 0 = (nI (σ 0)) from (h8 0 (by decide))))]
  generalize hM2 : (mI M 3 (upd (M.1 3) 0 (nI (σ 0)))) = M1
  have hk3 := fI_up hM2 ha
  have hk4 := fI_ne hM2 (by decide) hb
  have hF5 := fr_sI hF hM2 (by decide)
  show Wn _ 163 _ (8, [(0, .ref 3), (1, .ref 102)], [], M1)
  refine Wn.run (tab := tb_lk_copyFrom) rfl 4 (c' := (16, [(0, .ref 3), (1, .ref 102)], [], (mI M1 3 (upd (M1.1 3) 1 (M1.1 102 1))))) (o := [shp 102 = (0, 2), shp 3 = (0, 2)]) rfl ⟨rfl, rfl⟩ ?_
  rw [show (M1.1 102 1) = (nI (σ 1)) from (fr_eq hk4 (show gb 1 = (nI (σ 1)) from (h8 1 (by decide))))]
  generalize hM7 : (mI M1 3 (upd (M1.1 3) 1 (nI (σ 1)))) = M6
  have hk8 := fI_up hM7 hk3
  have hk9 := fI_ne hM7 (by decide) hk4
  have hF10 := fr_sI hF5 hM7 (by decide)
  show Wn _ 163 _ (16, [(0, .ref 3), (1, .ref 102)], [], M6)
  refine Wn.run (tab := tb_lk_copyFrom) rfl 4 (c' := (24, [(0, .ref 3), (1, .ref 102)], [], (mI M6 3 (upd (M6.1 3) 2 (M6.1 102 2))))) (o := [shp 102 = (0, 2), shp 3 = (0, 2)]) rfl ⟨rfl, rfl⟩ ?_
  rw [show (M6.1 102 2) = (nI (σ 2)) from (fr_eq hk9 (show gb 2 = (nI (σ 2)) from (h8 2 (by decide))))]
  generalize hM12 : (mI M6 3 (upd (M6.1 3) 2 (nI (σ 2)))) = M11
  have hk13 := fI_up hM12 hk8
  have hk14 := fI_ne hM12 (by decide) hk9
  have hF15 := fr_sI hF10 hM12 (by decide)
  show Wn _ 163 _ (24, [(0, .ref 3), (1, .ref 102)], [], M11)
  refine Wn.run (tab := tb_lk_copyFrom) rfl 4 (c' := (32, [(0, .ref 3), (1, .ref 102)], [], (mI M11 3 (upd (M11.1 3) 3 (M11.1 102 3))))) (o := [shp 102 = (0, 2), shp 3 = (0, 2)]) rfl ⟨rfl, rfl⟩ ?_
  rw [show (M11.1 102 3) = (nI (σ 3)) from (fr_eq hk14 (show gb 3 = (nI (σ 3)) from (h8 3 (by decide))))]
  generalize hM17 : (mI M11 3 (upd (M11.1 3) 3 (nI (σ 3)))) = M16
  have hk18 := fI_up hM17 hk13
  have hk19 := fI_ne hM17 (by decide) hk14
  have hF20 := fr_sI hF15 hM17 (by decide)
  show Wn _ 163 _ (32, [(0, .ref 3), (1, .ref 102)], [], M16)
  refine Wn.run (tab := tb_lk_copyFrom) rfl 4 (c' := (40, [(0, .ref 3), (1, .ref 102)], [], (mI M16 3 (upd (M16.1 3) 4 (M16.1 102 4))))) (o := [shp 102 = (0, 2), shp 3 = (0, 2)]) rfl ⟨rfl, rfl⟩ ?_
  rw [show (M16.1 102 4) = (nI (σ 4)) from (fr_eq hk19 (show gb 4 = (nI (σ 4)) from (h8 4 (by decide))))]
  generalize hM22 : (mI M16 3 (upd (M16.1 3) 4 (nI (σ 4)))) = M21
  have hk23 := fI_up hM22 hk18
  have hk24 := fI_ne hM22 (by decide) hk19
  have hF25 := fr_sI hF20 hM22 (by decide)
  show Wn _ 163 _ (40, [(0, .ref 3), (1, .ref 102)], [], M21)
  refine Wn.run (tab := tb_lk_copyFrom) rfl 4 (c' := (48, [(0, .ref 3), (1, .ref 102)], [], (mI M21 3 (upd (M21.1 3) 5 (M21.1 102 5))))) (o := [shp 102 = (0, 2), shp 3 = (0, 2)]) rfl ⟨rfl, rfl⟩ ?_
  rw [show (M21.1 102 5) = (nI (σ 5)) from (fr_eq hk24 (show gb 5 = (nI (σ 5)) from (h8 5 (by decide))))]
  generalize hM27 : (mI M21 3 (upd (M21.1 3) 5 (nI (σ 5)))) = M26
  have hk28 := fI_up hM27 hk23
  have hk29 := fI_ne hM27 (by decide) hk24
  have hF30 := fr_sI hF25 hM27 (by decide)
  show Wn _ 163 _ (48, [(0, .ref 3), (1, .ref 102)], [], M26)
  refine Wn.run (tab := tb_lk_copyFrom) rfl 4 (c' := (56, [(0, .ref 3), (1, .ref 102)], [], (mI M26 3 (upd (M26.1 3) 6 (M26.1 102 6))))) (o := [shp 102 = (0, 2), shp 3 = (0, 2)]) rfl ⟨rfl, rfl⟩ ?_
  rw [show (M26.1 102 6) = (nI (σ 6)) from (fr_eq hk29 (show gb 6 = (nI (σ 6)) from (h8 6 (by decide))))]
  generalize hM32 : (mI M26 3 (upd (M26.1 3) 6 (nI (σ 6)))) = M31
  have hk33 := fI_up hM32 hk28
  have hk34 := fI_ne hM32 (by decide) hk29
  have hF35 := fr_sI hF30 hM32 (by decide)
  show Wn _ 163 _ (56, [(0, .ref 3), (1, .ref 102)], [], M31)
  refine Wn.run (tab := tb_lk_copyFrom) rfl 4 (c' := (64, [(0, .ref 3), (1, .ref 102)], [], (mI M31 3 (upd (M31.1 3) 7 (M31.1 102 7))))) (o := [shp 102 = (0, 2), shp 3 = (0, 2)]) rfl ⟨rfl, rfl⟩ ?_
  rw [show (M31.1 102 7) = (nI (σ 7)) from (fr_eq hk34 (show gb 7 = (nI (σ 7)) from (h8 7 (by decide))))]
  generalize hM37 : (mI M31 3 (upd (M31.1 3) 7 (nI (σ 7)))) = M36
  have hk38 := fI_up hM37 hk33
  have hk39 := fI_ne hM37 (by decide) hk34
  have hF40 := fr_sI hF35 hM37 (by decide)
  show Wn _ 163 _ (64, [(0, .ref 3), (1, .ref 102)], [], M36)
  refine Wn.run (tab := tb_lk_copyFrom) rfl 8 (c' := (79, [(0, .ref 3), (1, .ref 102)], [], (mJ M36 4 (va_cpy (M36.2.1 103) (M36.2.1 4) 0 0 6)))) (o := [shp 102 = (0, 2), shp 3 = (0, 2), (nI 0) = 0, (nI 0) = 0, ¬ (nI 6) < 0, (shp 103).1 = 4, (shp 4).1 = 4, 6 ≤ (shp 103).2, 6 ≤ (shp 4).2, ct [] ≤ 8]) rfl ⟨rfl, rfl, rfl, rfl, (by decide), rfl, rfl, (Nat.le_refl 6), (Nat.le_refl 6), (Nat.le_of_ble_eq_true rfl)⟩ ?_
  generalize hM42 : (mJ M36 4 (va_cpy (M36.2.1 103) (M36.2.1 4) 0 0 6)) = M41
  have hk43 := fI_oJ hM42 hk38
  have hk44 := fI_oJ hM42 hk39
  have hF45 := fr_sJ hF40 hM42 (by decide)
  show Wn _ 163 _ (79, [(0, .ref 3), (1, .ref 102)], [], M41)
  refine Wn.run (tab := tb_lk_copyFrom) rfl 8 (c' := (94, [(0, .ref 3), (1, .ref 102)], [], (mI M41 5 (va_cpy (M41.1 104) (M41.1 5) 0 0 6)))) (o := [shp 102 = (0, 2), shp 3 = (0, 2), (nI 0) = 0, (nI 0) = 0, ¬ (nI 6) < 0, (shp 104).1 = 1, (shp 5).1 = 1, 6 ≤ (shp 104).2, 6 ≤ (shp 5).2, ct [] ≤ 8]) rfl ⟨rfl, rfl, rfl, rfl, (by decide), rfl, rfl, (Nat.le_refl 6), (Nat.le_refl 6), (Nat.le_of_ble_eq_true rfl)⟩ ?_
  generalize hM47 : (mI M41 5 (va_cpy (M41.1 104) (M41.1 5) 0 0 6)) = M46
  have hk48 := fI_ne hM47 (by decide) hk43
  have hk49 := fI_ne hM47 (by decide) hk44
  have hF50 := fr_sI hF45 hM47 (by decide)
  show Wn _ 163 _ (94, [(0, .ref 3), (1, .ref 102)], [], M46)
  refine Wn.vret rfl ⟨rfl, ⟨rfl, rfl, rfl, ?_, ?_⟩, ?_, hF50⟩
  · rw [hk48]
    intro k hk
    match k, hk with
    | 0, _ => exact ((pk_un (by decide)).trans ((pk_un (by decide)).trans ((pk_un (by decide)).trans ((pk_un (by decide)).trans ((pk_un (by decide)).trans ((pk_un (by decide)).trans ((pk_un (by decide)).trans pk_us)))))))
    | 1, _ => exact ((pk_un (by decide)).trans ((pk_un (by decide)).trans ((pk_un (by decide)).trans ((pk_un (by decide)).trans ((pk_un (by decide)).trans ((pk_un (by decide)).trans pk_us))))))
    | 2, _ => exact ((pk_un (by decide)).trans ((pk_un (by decide)).trans ((pk_un (by decide)).trans ((pk_un (by decide)).trans ((pk_un (by decide)).trans pk_us)))))
    | 3, _ => exact ((pk_un (by decide)).trans ((pk_un (by decide)).trans ((pk_un (by decide)).trans ((pk_un (by decide)).trans pk_us))))
    | 4, _ => exact ((pk_un (by decide)).trans ((pk_un (by decide)).trans ((pk_un (by decide)).trans pk_us)))
    | 5, _ => exact ((pk_un (by decide)).trans ((pk_un (by decide)).trans pk_us))
    | 6, _ => exact ((pk_un (by decide)).trans pk_us)
    | 7, _ => exact pk_us
  · intro q hq
    have e1 := cpy_at hM47 q (by omega)
    rw [(hF45 104 (by decide)).1] at e1
    exact e1.trans (hL.2.2.2.2 q hq)
  · intro q hq
    have e1 := cpyJ_at hM42 q (by omega)
    rw [(hF40 103 (by decide)).2.1] at e1
    have e2 : M46.2.1 = M41.2.1 := by rw [← hM47]; rfl
    rw [e2]
    exact e1.trans (hN q hq)
set_option maxRecDepth 20000 in
theorem c_sn_copyFrom_11_110 (d : Nat) (M : Mm) (n : Nat) (A S U : Nat → Nat) (hS : SnC M 110 n A S U) : Wn (d + 0) 186 (PSn M 11 n A S U) (0, lv_args 0 [.ref 11, .ref 110], [], M) := by
  have hF := fr_rf [11, 12, 13, 14] M
  obtain ⟨ga, ha⟩ : ∃ g, M.1 11 = g := ⟨_, rfl⟩
  obtain ⟨gb, hb⟩ : ∃ g, M.1 110 = g := ⟨_, rfl⟩
  obtain ⟨pa, ha1⟩ : ∃ g, M.2.2 12 = g := ⟨_, rfl⟩
  obtain ⟨pb, hb1⟩ : ∃ g, M.2.2 111 = g := ⟨_, rfl⟩
  obtain ⟨sa, ha2⟩ : ∃ g, M.2.2 13 = g := ⟨_, rfl⟩
  obtain ⟨sb, hb2⟩ : ∃ g, M.2.2 112 = g := ⟨_, rfl⟩
  obtain ⟨na, ha3⟩ : ∃ g, M.1 14 = g := ⟨_, rfl⟩
  obtain ⟨nb, hb3⟩ : ∃ g, M.1 113 = g := ⟨_, rfl⟩
  have h3 : gb 3 = nI n := by rw [← hb]; exact hS.1
  have h40 := hS.2.1
  have hIK111 : ∀ i, i < n → isK (pb i) := fun i hi => by have q := hS.2.2 i hi; rw [show M.2.2 (110 + 1) = pb from hb1] at q; rw [q.1]; exact ⟨by omega, by omega⟩
  have hIK112 : ∀ i, i < n → isK (sb i) := fun i hi => by have q := hS.2.2 i hi; rw [show M.2.2 (110 + 2) = sb from hb2] at q; rw [q.2.1]; exact ⟨by omega, by omega⟩
  refine Wn.run (tab := tb_sn_copyFrom) rfl 4 (c' := (8, [(0, .ref 11), (1, .ref 110)], [], (mI M 11 (upd (M.1 11) 3 (M.1 110 3))))) (o := [shp 110 = (0, 4), shp 11 = (0, 4)]) rfl ⟨rfl, rfl⟩ ?_
  rw [show (M.1 110 3) = (nI n) from (fr_eq hb (show gb 3 = (nI n) from h3))]
  generalize hM2 : (mI M 11 (upd (M.1 11) 3 (nI n))) = M1
  have hk3 := fI_up hM2 ha
  have hk4 := fI_ne hM2 (by decide) hb
  have hk5 := fR_oI hM2 ha1
  have hk6 := fR_oI hM2 hb1
  have hk7 := fR_oI hM2 ha2
  have hk8 := fR_oI hM2 hb2
  have hk9 := fI_ne hM2 (by decide) ha3
  have hk10 := fI_ne hM2 (by decide) hb3
  have hF11 := fr_sI hF hM2 (by decide)
  show Wn _ 186 _ (8, [(0, .ref 11), (1, .ref 110)], [], M1)
  refine Wn.run (tab := tb_sn_copyFrom) rfl 4 (c' := (16, [(0, .ref 11), (1, .ref 110)], [], (mI M1 11 (upd (M1.1 11) 4 (M1.1 110 4))))) (o := [shp 110 = (0, 4), shp 11 = (0, 4)]) rfl ⟨rfl, rfl⟩ ?_
  rw [show (M1.1 110 4) = (gb 4) from (fr_eq hk4 (show gb 4 = (gb 4) from rfl))]
  generalize hM13 : (mI M1 11 (upd (M1.1 11) 4 (gb 4))) = M12
  have hk14 := fI_up hM13 hk3
  have hk15 := fI_ne hM13 (by decide) hk4
  have hk16 := fR_oI hM13 hk5
  have hk17 := fR_oI hM13 hk6
  have hk18 := fR_oI hM13 hk7
  have hk19 := fR_oI hM13 hk8
  have hk20 := fI_ne hM13 (by decide) hk9
  have hk21 := fI_ne hM13 (by decide) hk10
  have hF22 := fr_sI hF11 hM13 (by decide)
  show Wn _ 186 _ (16, [(0, .ref 11), (1, .ref 110)], [], M12)
  refine Wn.run (tab := tb_sn_copyFrom) rfl 2 (c' := (18, [(2, .int (nI 0)), (0, .ref 11), (1, .ref 110)], [], M12)) (o := []) rfl trivial ?_
  have loop : ∀ (m z : Nat) (N : Mm), n - z = m → z ≤ n → (N.1 11 = (upd (upd ga 3 (nI n)) 4 (gb 4))) → (N.1 110 = gb) → (N.2.2 12 = (cpG pa pb z)) → (N.2.2 111 = pb) → (N.2.2 13 = (cpG sa sb z)) → (N.2.2 112 = sb) → (N.1 14 = (cpG na nb z)) → (N.1 113 = nb) → (Fr [11, 12, 13, 14] M N) → Wn (d + 0) 186 (PSn M 11 n A S U) (18, [(2, .int (nI z)), (0, .ref 11), (1, .ref 110)], [], N) := by
    intro m
    induction m using Nat.strongRecOn with
    | _ m ih =>
      intro z N hm hz loop_0 loop_1 loop_2 loop_3 loop_4 loop_5 loop_6 loop_7 loop_8
      refine Wn.run (tab := tb_sn_copyFrom) rfl 4 (c' := (if (N.1 11 3) ≤ (nI z) then 68 else 26, [(2, .int (nI z)), (0, .ref 11), (1, .ref 110)], [], N)) (o := [shp 11 = (0, 4)]) rfl rfl ?_
      refine Wn.br (fun h1 => ?_) (fun h1 => ?_)
      · show Wn _ 186 _ (68, [(2, .int (nI z)), (0, .ref 11), (1, .ref 110)], [], N)
        have h1 := (n_le (fr_eq loop_0 (show (upd (upd ga 3 (nI n)) 4 (gb 4)) 3 = (nI n) from rfl)) rfl (by omega) (by omega)).mp h1
        have e9 : z = n := by omega
        subst e9
        refine Wn.vret rfl ⟨rfl, ⟨by rw [loop_0]; rfl, hS.2.1, fun i hi => ?_⟩, loop_8⟩
        have hi3 := hS.2.2 i hi
        rw [show M.2.2 (110 + 1) = pb from hb1, show M.2.2 (110 + 2) = sb from hb2, show M.1 (110 + 3) = nb from hb3] at hi3
        rw [show N.2.2 (11 + 1) = _ from loop_2, show N.2.2 (11 + 2) = _ from loop_4, show N.1 (11 + 3) = _ from loop_6, cpG_at hi, cpG_at hi, cpG_at hi]
        exact hi3
      · show Wn _ 186 _ (26, [(2, .int (nI z)), (0, .ref 11), (1, .ref 110)], [], N)
        have h1 := mt (n_le (fr_eq loop_0 (show (upd (upd ga 3 (nI n)) 4 (gb 4)) 3 = (nI n) from rfl)) rfl (by omega) (by omega)).mpr h1
        refine Wn.run (tab := tb_sn_copyFrom) rfl 8 (c' := (38, [(2, .int (nI z)), (0, .ref 11), (1, .ref 110)], [], (mR N 12 (va_up (N.2.2 12) ((nI z)).toNatClampNeg (N.2.2 111 ((nI z)).toNatClampNeg))))) (o := [shp 11 = (0, 4), shp 110 = (0, 4), aok shp 111 4 (nI z), aok shp 12 4 (nI z), isK (N.2.2 111 ((nI z)).toNatClampNeg)]) rfl ⟨rfl, rfl, (ak1 (n := 40) rfl rfl rfl (by omega)), (ak1 (n := 40) rfl rfl rfl (by omega)), (by rw [nI_clamp (by omega), loop_3]; exact hIK111 z (by omega))⟩ ?_
        rw [show (N.2.2 111 ((nI z)).toNatClampNeg) = (pb z) from (fr_rdxR loop_3 rfl (by omega))]
        generalize hM24 : (mR N 12 (va_up (N.2.2 12) ((nI z)).toNatClampNeg (pb z))) = M23
        have hk25 := fI_oR hM24 loop_0
        have hk26 := fI_oR hM24 loop_1
        have hk27 := fR_upx hM24 loop_2 (cl1 rfl (by omega))
        have hk28 := fR_ne hM24 (by decide) loop_3
        have hk29 := fR_ne hM24 (by decide) loop_4
        have hk30 := fR_ne hM24 (by decide) loop_5
        have hk31 := fI_oR hM24 loop_6
        have hk32 := fI_oR hM24 loop_7
        have hF33 := fr_sR loop_8 hM24 (by decide)
        show Wn _ 186 _ (38, [(2, .int (nI z)), (0, .ref 11), (1, .ref 110)], [], M23)
        refine Wn.run (tab := tb_sn_copyFrom) rfl 8 (c' := (50, [(2, .int (nI z)), (0, .ref 11), (1, .ref 110)], [], (mR M23 13 (va_up (M23.2.2 13) ((nI z)).toNatClampNeg (M23.2.2 112 ((nI z)).toNatClampNeg))))) (o := [shp 11 = (0, 4), shp 110 = (0, 4), aok shp 112 4 (nI z), aok shp 13 4 (nI z), isK (M23.2.2 112 ((nI z)).toNatClampNeg)]) rfl ⟨rfl, rfl, (ak1 (n := 40) rfl rfl rfl (by omega)), (ak1 (n := 40) rfl rfl rfl (by omega)), (by rw [nI_clamp (by omega), hk30]; exact hIK112 z (by omega))⟩ ?_
        rw [show (M23.2.2 112 ((nI z)).toNatClampNeg) = (sb z) from (fr_rdxR hk30 rfl (by omega))]
        generalize hM35 : (mR M23 13 (va_up (M23.2.2 13) ((nI z)).toNatClampNeg (sb z))) = M34
        have hk36 := fI_oR hM35 hk25
        have hk37 := fI_oR hM35 hk26
        have hk38 := fR_ne hM35 (by decide) hk27
        have hk39 := fR_ne hM35 (by decide) hk28
        have hk40 := fR_upx hM35 hk29 (cl1 rfl (by omega))
        have hk41 := fR_ne hM35 (by decide) hk30
        have hk42 := fI_oR hM35 hk31
        have hk43 := fI_oR hM35 hk32
        have hF44 := fr_sR hF33 hM35 (by decide)
        show Wn _ 186 _ (50, [(2, .int (nI z)), (0, .ref 11), (1, .ref 110)], [], M34)
        refine Wn.run (tab := tb_sn_copyFrom) rfl 8 (c' := (62, [(2, .int (nI z)), (0, .ref 11), (1, .ref 110)], [], (mI M34 14 (upd (M34.1 14) ((nI z)).toNatClampNeg (M34.1 113 ((nI z)).toNatClampNeg))))) (o := [shp 11 = (0, 4), shp 110 = (0, 4), aok shp 113 0 (nI z), aok shp 14 0 (nI z)]) rfl ⟨rfl, rfl, (ak1 (n := 40) rfl rfl rfl (by omega)), (ak1 (n := 40) rfl rfl rfl (by omega))⟩ ?_
        rw [show (M34.1 113 ((nI z)).toNatClampNeg) = (nb z) from (fr_rdx hk43 rfl (by omega))]
        generalize hM46 : (mI M34 14 (upd (M34.1 14) ((nI z)).toNatClampNeg (nb z))) = M45
        have hk47 := fI_ne hM46 (by decide) hk36
        have hk48 := fI_ne hM46 (by decide) hk37
        have hk49 := fR_oI hM46 hk38
        have hk50 := fR_oI hM46 hk39
        have hk51 := fR_oI hM46 hk40
        have hk52 := fR_oI hM46 hk41
        have hk53 := fI_upx hM46 hk42 (cl1 rfl (by omega))
        have hk54 := fI_ne hM46 (by decide) hk43
        have hF55 := fr_sI hF44 hM46 (by decide)
        show Wn _ 186 _ (62, [(2, .int (nI z)), (0, .ref 11), (1, .ref 110)], [], M45)
        refine Wn.run (tab := tb_sn_copyFrom) rfl 2 (c' := (18, [(2, .int ((nI z) + (nI 1))), (0, .ref 11), (1, .ref 110)], [], M45)) (o := []) rfl trivial ?_
        rw [show ((nI z) + (nI 1)) = (nI (z + 1)) from (n_add rfl rfl)]
        exact ih (n - (z + 1)) (by omega) (z + 1) M45 rfl (by omega) hk47 hk48 (by rw [← cpR_s]; exact hk49) hk50 (by rw [← cpR_s]; exact hk51) hk52 (by rw [← cpI_s]; exact hk53) hk54 hF55
  exact loop (n - 0) 0 M12 rfl (by omega) hk14 hk15 (by rw [cpG_0]; exact hk16) hk17 (by rw [cpG_0]; exact hk18) hk19 (by rw [cpG_0]; exact hk20) hk21 hF22
set_option maxRecDepth 20000 in
theorem c_sc_copyFrom_2_101 (d : Nat) (M : Mm) (σ : Nat → Nat) (ν : Nat → Int64) (n : Nat) (A S N : Nat → Nat) (hS : StC M 105 σ) (hN : NmC M 102 ν (σ 2)) (hP : SnC M 110 n A S N) : Wn (d + 1) 183 (PSC M 2 σ ν n A S N) (0, lv_args 0 [.ref 2, .ref 101], [], M) := by
  have h26 := hS.2.2.1.2.2.2.2.2.2
  refine Wn.run (tab := tb_sc_copyFrom) rfl 4 (c' := (8, [(0, .ref 2), (1, .ref 101)], [.ref 102, .ref 3], M)) (o := [shp 2 = (0, 8), shp 101 = (0, 8)]) rfl ⟨rfl, rfl⟩ ?_
  refine Wn.callV (p := 3) (n := 2) (ix := 39) (ci := (2)) (PLc M 3 σ ν) [.ref 102] [] rfl rfl rfl rfl (Nat.le_of_ble_eq_true rfl) (Nat.le_of_ble_eq_true rfl) (c_lk_copyFrom_3_102 _ M σ ν h26 hS.2.1 hN) ?_
  rintro _ M1 ⟨rfl, l1, l2, l3⟩
  show Wn _ 183 _ (11, [(0, .ref 2), (1, .ref 101)], [], M1)
  refine Wn.run (tab := tb_sc_copyFrom) rfl 4 (c' := (19, [(0, .ref 2), (1, .ref 101)], [.ref 105, .ref 6], M1)) (o := [shp 2 = (0, 8), shp 101 = (0, 8)]) rfl ⟨rfl, rfl⟩ ?_
  refine Wn.callV (p := 6) (n := 2) (ix := 42) (ci := (5)) (PS 6 M1 σ (M1.1 6 11) (M1.1 6 12) none) [.ref 105] [] rfl rfl rfl rfl (Nat.le_of_ble_eq_true rfl) (Nat.le_of_ble_eq_true rfl) (c_st_copyFrom _ M1 6 105 σ ⟨rfl, rfl, rfl, rfl, rfl, rfl, rfl, rfl, by decide⟩ l1 (fr_st l3 hS (by decide)) (by decide) (by decide) _ _ rfl rfl) ?_
  rintro _ M2 ⟨rfl, s1, s2, s3, s4⟩
  show Wn _ 183 _ (22, [(0, .ref 2), (1, .ref 101)], [], M2)
  refine Wn.run (tab := tb_sc_copyFrom) rfl 4 (c' := (30, [(0, .ref 2), (1, .ref 101)], [.ref 110, .ref 11], M2)) (o := [shp 2 = (0, 8), shp 101 = (0, 8)]) rfl ⟨rfl, rfl⟩ ?_
  refine Wn.callV (p := 11) (n := 2) (ix := 45) (ci := (4)) (PSn M2 11 n A S N) [.ref 110] [] rfl rfl rfl rfl (Nat.le_of_ble_eq_true rfl) (Nat.le_of_ble_eq_true rfl) (c_sn_copyFrom_11_110 _ M2 n A S N (SnC_fr s4 (by decide) (by decide) (by decide) (by decide) (SnC_fr l3 (by decide) (by decide) (by decide) (by decide) hP))) ?_
  rintro _ M3 ⟨rfl, t1, t2⟩
  show Wn _ 183 _ (33, [(0, .ref 2), (1, .ref 101)], [], M3)
  refine Wn.vret rfl ⟨rfl, fr_st t2 s1 (by decide), NmC_fr t2 (by decide) (NmC_fr s4 (by decide) l2), t1, ?_, ?_, fr_tr (fr_tr (fr_up l3 (by decide)) s4 (by decide)) t2 (by decide)⟩
  · rw [(t2 (2 + 4) (by decide)).1, ← (l3 (2 + 4) (by decide)).1]; exact s2
  · rw [(t2 (2 + 4) (by decide)).1, ← (l3 (2 + 4) (by decide)).1]; exact s3
