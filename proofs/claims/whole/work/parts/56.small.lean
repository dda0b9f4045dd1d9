/-! The end of the tape; what was told, asked, gone. -/
theorem TB_le {u : Nat → Int32} {T : Nat → Nat} {L k : Nat} (h : TB u T L) (hk : k ≤ L) : TB u T k := fun i hi => h i (by omega)
theorem TM_le {u : Nat → Int32} {T : Nat → Nat} {L k : Nat} (h : TM u T L) (hk : k ≤ L) : TM u T k := fun i hi => h i (by omega)
/-- an answer out of a row of n numbers -/
def rowA (b : Prop) [Decidable b] (f : Nat → Int32) (n : Nat) (x : Int32) : Int32 := if b ∧ 0 ≤ x.toInt ∧ x.toInt < (n : Int) then f x.toInt.toNat else -1
theorem rowA_y {b : Prop} [Decidable b] {f : Nat → Int32} {n k : Nat} (hb : b) (hk : k < n) (hn : n < 2 ^ 31) : rowA b f n (nI k) = f k := by
  unfold rowA
  rw [nI_toInt (by omega), if_pos ⟨hb, by omega, by omega⟩]
  rfl
theorem rowA_n {b : Prop} [Decidable b] {f : Nat → Int32} {n : Nat} {x : Int32} (h : ¬ (b ∧ 0 ≤ x.toInt ∧ x.toInt < (n : Int))) : rowA b f n x = -1 := if_neg h
set_option maxRecDepth 20000 in
theorem c_i_end (d : Nat) (M : Mm) (T : Nat → Nat) (L : Nat) (hL : M.1 0 1 = nI L) (hT : TB (M.1 1) T L) (hL9 : L ≤ 940) (k : Nat) (hk : k ≤ L) : Wn (d + 0) 2 (PF1 M 1 0 1 TB [1] T k (some (.int (nI 1)))) (0, lv_args 0 [.ref 0, .int (nI k)], [], M) := by
  have hF := fr_rf [0, 1] M
  obtain ⟨g, hg⟩ : ∃ g, M.1 0 = g := ⟨_, rfl⟩
  obtain ⟨u, hu⟩ : ∃ u, M.1 1 = u := ⟨_, rfl⟩
  rw [hg] at hL
  rw [hu] at hT
  refine Wn.run (tab := tb_i_end) rfl 2 (c' := (if (nI k) < 0 then 12 else 4, [(0, .ref 0), (1, .int (nI k))], [], M)) (o := []) rfl trivial ?_
  rw [if_neg (nI_nn (by omega))]
  show Wn _ 2 _ (4, [(0, .ref 0), (1, .int (nI k))], [], M)
  refine Wn.run (tab := tb_i_end) rfl 4 (c' := (if (nI k) ≤ (M.1 0 1) then 14 else 12, [(0, .ref 0), (1, .int (nI k))], [], M)) (o := [shp 0 = (0, 9)]) rfl rfl ?_
  refine Wn.br (fun h1 => ?_) (fun h1 => ?_)
  · show Wn _ 2 _ (14, [(0, .ref 0), (1, .int (nI k))], [], M)
    have h1 := (n_le rfl (fr_eq hg (show g 1 = (nI L) from hL)) (by omega) (by omega)).mp h1
    refine Wn.run (tab := tb_i_end) rfl 3 (c' := (19, [(0, .ref 0), (1, .int (nI k))], [], (mI M 0 (upd (M.1 0) 1 (nI k))))) (o := [shp 0 = (0, 9)]) rfl rfl ?_
    generalize hM2 : (mI M 0 (upd (M.1 0) 1 (nI k))) = M1
    have hk3 := fI_up hM2 hg
    have hk4 := fI_ne hM2 (by decide) hu
    have hF5 := fr_sI hF hM2 (by decide)
    show Wn _ 2 _ (19, [(0, .ref 0), (1, .int (nI k))], [], M1)
    refine Wn.run (tab := tb_i_end) rfl 1 (c' := (20, [(0, .ref 0), (1, .int (nI k))], [.int (nI 1)], M1)) (o := []) rfl trivial ?_
    exact Wn.zret rfl (Or.inr rfl) ⟨rfl, by rw [hk4]; exact TB_le hT hk, by rw [hk3]; exact pk_us, by rw [hg, hk3]; exact (Gx_up (Gx_rf _ _) (by decide)), hF5⟩
  · show Wn _ 2 _ (12, [(0, .ref 0), (1, .int (nI k))], [], M)
    have h1 := mt (n_le rfl (fr_eq hg (show g 1 = (nI L) from hL)) (by omega) (by omega)).mpr h1
    refine Wn.run (tab := tb_i_end) rfl 1 (c' := (13, [(0, .ref 0), (1, .int (nI k))], [.int (nI 0)], M)) (o := []) rfl trivial ?_
    exact absurd h1 (by omega)
set_option maxRecDepth 20000 in
theorem c_i_endN (d : Nat) (M : Mm) (T : Nat → Nat) (L : Nat) (hL : M.1 0 1 = nI L) (hT : TB (M.1 1) T L) (hL9 : L ≤ 940) (k : Int32) (hns : ¬ (0 ≤ k.toInt ∧ k.toInt ≤ (L : Int))) : Wn (d + 0) 2 (PF1 M 1 0 1 TB [1] T L (some (.int (nI 0)))) (0, lv_args 0 [.ref 0, .int k], [], M) := by
  have hF := fr_rf [0, 1] M
  obtain ⟨g, hg⟩ : ∃ g, M.1 0 = g := ⟨_, rfl⟩
  obtain ⟨u, hu⟩ : ∃ u, M.1 1 = u := ⟨_, rfl⟩
  rw [hg] at hL
  rw [hu] at hT
  refine Wn.run (tab := tb_i_end) rfl 2 (c' := (if k < 0 then 12 else 4, [(0, .ref 0), (1, .int k)], [], M)) (o := []) rfl trivial ?_
  refine Wn.br (fun h1 => ?_) (fun h1 => ?_)
  · show Wn _ 2 _ (12, [(0, .ref 0), (1, .int k)], [], M)
    refine Wn.run (tab := tb_i_end) rfl 1 (c' := (13, [(0, .ref 0), (1, .int k)], [.int (nI 0)], M)) (o := []) rfl trivial ?_
    exact Wn.zret rfl (Or.inl rfl) ⟨rfl, by rw [hu]; exact hT, by rw [hg]; exact hL, by rw [hg]; exact (Gx_rf _ _), hF⟩
  · show Wn _ 2 _ (4, [(0, .ref 0), (1, .int k)], [], M)
    refine Wn.run (tab := tb_i_end) rfl 4 (c' := (if k ≤ (M.1 0 1) then 14 else 12, [(0, .ref 0), (1, .int k)], [], M)) (o := [shp 0 = (0, 9)]) rfl rfl ?_
    refine Wn.br (fun h2 => ?_) (fun h2 => ?_)
    · show Wn _ 2 _ (14, [(0, .ref 0), (1, .int k)], [], M)
      rw [show (M.1 0 1) = _ from (fr_eq hg (show g 1 = (nI L) from hL))] at h2
      exact absurd ⟨by have q9 := mt Int32.lt_iff_toInt_lt.mpr h1; have z9 : (0 : Int32).toInt = 0 := rfl; omega, by have q9 := Int32.le_iff_toInt_le.mp h2; rw [nI_toInt (by omega)] at q9; exact q9⟩ hns
    · show Wn _ 2 _ (12, [(0, .ref 0), (1, .int k)], [], M)
      refine Wn.run (tab := tb_i_end) rfl 1 (c' := (13, [(0, .ref 0), (1, .int k)], [.int (nI 0)], M)) (o := []) rfl trivial ?_
      exact Wn.zret rfl (Or.inl rfl) ⟨rfl, by rw [hu]; exact hT, by rw [hg]; exact hL, by rw [hg]; exact (Gx_rf _ _), hF⟩
set_option maxRecDepth 20000 in
theorem c_m_end (d : Nat) (M : Mm) (T : Nat → Nat) (L : Nat) (hL : M.1 114 2 = nI L) (hT : TM (M.1 115) T L) (hL9 : L ≤ 940) (k : Nat) (hk : k ≤ L) : Wn (d + 0) 44 (PF1 M 115 114 2 TM [0, 2] T k (some (.int (nI 1)))) (0, lv_args 0 [.ref 114, .int (nI k)], [], M) := by
  have hF := fr_rf [114, 115] M
  obtain ⟨g, hg⟩ : ∃ g, M.1 114 = g := ⟨_, rfl⟩
  obtain ⟨u, hu⟩ : ∃ u, M.1 115 = u := ⟨_, rfl⟩
  rw [hg] at hL
  rw [hu] at hT
  refine Wn.run (tab := tb_m_end) rfl 3 (c' := (5, [(0, .ref 114), (1, .int (nI k))], [], (mI M 114 (upd (M.1 114) 0 (nI 0))))) (o := [shp 114 = (0, 10)]) rfl rfl ?_
  generalize hM2 : (mI M 114 (upd (M.1 114) 0 (nI 0))) = M1
  have hk3 := fI_up hM2 hg
  have hk4 := fI_ne hM2 (by decide) hu
  have hF5 := fr_sI hF hM2 (by decide)
  show Wn _ 44 _ (5, [(0, .ref 114), (1, .int (nI k))], [], M1)
  refine Wn.run (tab := tb_m_end) rfl 2 (c' := (if (nI k) < 0 then 17 else 9, [(0, .ref 114), (1, .int (nI k))], [], M1)) (o := []) rfl trivial ?_
  rw [if_neg (nI_nn (by omega))]
  show Wn _ 44 _ (9, [(0, .ref 114), (1, .int (nI k))], [], M1)
  refine Wn.run (tab := tb_m_end) rfl 4 (c' := (if (nI k) ≤ (M1.1 114 2) then 19 else 17, [(0, .ref 114), (1, .int (nI k))], [], M1)) (o := [shp 114 = (0, 10)]) rfl rfl ?_
  refine Wn.br (fun h1 => ?_) (fun h1 => ?_)
  · show Wn _ 44 _ (19, [(0, .ref 114), (1, .int (nI k))], [], M1)
    have h1 := (n_le rfl (fr_eq hk3 (show (upd g 0 (nI 0)) 2 = (nI L) from ((pk_un (by decide)).trans hL))) (by omega) (by omega)).mp h1
    refine Wn.run (tab := tb_m_end) rfl 3 (c' := (24, [(0, .ref 114), (1, .int (nI k))], [], (mI M1 114 (upd (M1.1 114) 2 (nI k))))) (o := [shp 114 = (0, 10)]) rfl rfl ?_
    generalize hM7 : (mI M1 114 (upd (M1.1 114) 2 (nI k))) = M6
    have hk8 := fI_up hM7 hk3
    have hk9 := fI_ne hM7 (by decide) hk4
    have hF10 := fr_sI hF5 hM7 (by decide)
    show Wn _ 44 _ (24, [(0, .ref 114), (1, .int (nI k))], [], M6)
    refine Wn.run (tab := tb_m_end) rfl 1 (c' := (25, [(0, .ref 114), (1, .int (nI k))], [.int (nI 1)], M6)) (o := []) rfl trivial ?_
    exact Wn.zret rfl (Or.inr rfl) ⟨rfl, by rw [hk9]; exact TM_le hT hk, by rw [hk8]; exact pk_us, by rw [hg, hk8]; exact (Gx_up (Gx_up (Gx_rf _ _) (by decide)) (by decide)), hF10⟩
  · show Wn _ 44 _ (17, [(0, .ref 114), (1, .int (nI k))], [], M1)
    have h1 := mt (n_le rfl (fr_eq hk3 (show (upd g 0 (nI 0)) 2 = (nI L) from ((pk_un (by decide)).trans hL))) (by omega) (by omega)).mpr h1
    refine Wn.run (tab := tb_m_end) rfl 1 (c' := (18, [(0, .ref 114), (1, .int (nI k))], [.int (nI 0)], M1)) (o := []) rfl trivial ?_
    exact absurd h1 (by omega)
set_option maxRecDepth 20000 in
theorem c_m_endN (d : Nat) (M : Mm) (T : Nat → Nat) (L : Nat) (hL : M.1 114 2 = nI L) (hT : TM (M.1 115) T L) (hL9 : L ≤ 940) (k : Int32) (hns : ¬ (0 ≤ k.toInt ∧ k.toInt ≤ (L : Int))) : Wn (d + 0) 44 (PF1 M 115 114 2 TM [0, 2] T L (some (.int (nI 0)))) (0, lv_args 0 [.ref 114, .int k], [], M) := by
  have hF := fr_rf [114, 115] M
  obtain ⟨g, hg⟩ : ∃ g, M.1 114 = g := ⟨_, rfl⟩
  obtain ⟨u, hu⟩ : ∃ u, M.1 115 = u := ⟨_, rfl⟩
  rw [hg] at hL
  rw [hu] at hT
  refine Wn.run (tab := tb_m_end) rfl 3 (c' := (5, [(0, .ref 114), (1, .int k)], [], (mI M 114 (upd (M.1 114) 0 (nI 0))))) (o := [shp 114 = (0, 10)]) rfl rfl ?_
  generalize hM2 : (mI M 114 (upd (M.1 114) 0 (nI 0))) = M1
  have hk3 := fI_up hM2 hg
  have hk4 := fI_ne hM2 (by decide) hu
  have hF5 := fr_sI hF hM2 (by decide)
  show Wn _ 44 _ (5, [(0, .ref 114), (1, .int k)], [], M1)
  refine Wn.run (tab := tb_m_end) rfl 2 (c' := (if k < 0 then 17 else 9, [(0, .ref 114), (1, .int k)], [], M1)) (o := []) rfl trivial ?_
  refine Wn.br (fun h1 => ?_) (fun h1 => ?_)
  · show Wn _ 44 _ (17, [(0, .ref 114), (1, .int k)], [], M1)
    refine Wn.run (tab := tb_m_end) rfl 1 (c' := (18, [(0, .ref 114), (1, .int k)], [.int (nI 0)], M1)) (o := []) rfl trivial ?_
    exact Wn.zret rfl (Or.inl rfl) ⟨rfl, by rw [hk4]; exact hT, by rw [hk3]; exact ((pk_un (by decide)).trans hL), by rw [hg, hk3]; exact (Gx_up (Gx_rf _ _) (by decide)), hF5⟩
  · show Wn _ 44 _ (9, [(0, .ref 114), (1, .int k)], [], M1)
    refine Wn.run (tab := tb_m_end) rfl 4 (c' := (if k ≤ (M1.1 114 2) then 19 else 17, [(0, .ref 114), (1, .int k)], [], M1)) (o := [shp 114 = (0, 10)]) rfl rfl ?_
    refine Wn.br (fun h2 => ?_) (fun h2 => ?_)
    · show Wn _ 44 _ (19, [(0, .ref 114), (1, .int k)], [], M1)
      rw [show (M1.1 114 2) = _ from (fr_eq hk3 (show (upd g 0 (nI 0)) 2 = (nI L) from ((pk_un (by decide)).trans hL)))] at h2
      exact absurd ⟨by have q9 := mt Int32.lt_iff_toInt_lt.mpr h1; have z9 : (0 : Int32).toInt = 0 := rfl; omega, by have q9 := Int32.le_iff_toInt_le.mp h2; rw [nI_toInt (by omega)] at q9; exact q9⟩ hns
    · show Wn _ 44 _ (17, [(0, .ref 114), (1, .int k)], [], M1)
      refine Wn.run (tab := tb_m_end) rfl 1 (c' := (18, [(0, .ref 114), (1, .int k)], [.int (nI 0)], M1)) (o := []) rfl trivial ?_
      exact Wn.zret rfl (Or.inl rfl) ⟨rfl, by rw [hk4]; exact hT, by rw [hk3]; exact ((pk_un (by decide)).trans hL), by rw [hg, hk3]; exact (Gx_up (Gx_rf _ _) (by decide)), hF5⟩
set_option maxRecDepth 20000 in
theorem c_m_fault (d : Nat) (M : Mm) (g : Nat → Int32) (hg : M.1 114 = g) : Wn (d + 0) 73 (PO M g (nI 0) (some (.int (g 15)))) (0, lv_args 0 [.ref 114], [], M) := by
  have hF := fr_rf [114] M
  refine Wn.run (tab := tb_m_fault) rfl 3 (c' := (5, [(0, .ref 114)], [], (mI M 114 (upd (M.1 114) 0 (nI 0))))) (o := [shp 114 = (0, 10)]) rfl rfl ?_
  generalize hM2 : (mI M 114 (upd (M.1 114) 0 (nI 0))) = M1
  have hk3 := fI_up hM2 hg
  have hF4 := fr_sI hF hM2 (by decide)
  show Wn _ 73 _ (5, [(0, .ref 114)], [], M1)
  refine Wn.run (tab := tb_m_fault) rfl 2 (c' := (9, [(0, .ref 114)], [.int (M1.1 114 15)], M1)) (o := [shp 114 = (0, 10)]) rfl rfl ?_
  rw [show (M1.1 114 15) = (g 15) from (fr_eq hk3 (show (upd g 0 (nI 0)) 15 = (g 15) from ((pk_un (by decide)).trans rfl)))]
  exact Wn.iret rfl ⟨rfl, by rw [hk3]; exact pk_us, by rw [hk3]; exact (Gx_up (Gx_rf _ _) (by decide)), hF4⟩
set_option maxRecDepth 20000 in
theorem c_i_fault (d : Nat) (M : Mm) : Wn (d + 0) 5 (PN M (some (.int (M.1 0 15)))) (0, lv_args 0 [.ref 0], [], M) := by
  refine Wn.run (tab := tb_i_fault) rfl 2 (c' := (4, [(0, .ref 0)], [.int (M.1 0 15)], M)) (o := [shp 0 = (0, 9)]) rfl rfl ?_
  exact Wn.iret rfl ⟨rfl, rfl⟩
set_option maxRecDepth 20000 in
theorem c_i_ask (d : Nat) (M : Mm) : Wn (d + 0) 32 (PN M (some (.int (M.1 0 16)))) (0, lv_args 0 [.ref 0], [], M) := by
  refine Wn.run (tab := tb_i_ask) rfl 2 (c' := (4, [(0, .ref 0)], [.int (M.1 0 16)], M)) (o := [shp 0 = (0, 9)]) rfl rfl ?_
  exact Wn.iret rfl ⟨rfl, rfl⟩
set_option maxRecDepth 20000 in
theorem c_m_ask (d : Nat) (M : Mm) (g : Nat → Int32) (hg : M.1 114 = g) : Wn (d + 0) 120 (PO M g (nI 0) (some (.int (if g 32 = 0 then -1 else g 31)))) (0, lv_args 0 [.ref 114], [], M) := by
  have hF := fr_rf [114] M
  refine Wn.run (tab := tb_m_ask) rfl 3 (c' := (5, [(0, .ref 114)], [], (mI M 114 (upd (M.1 114) 0 (nI 0))))) (o := [shp 114 = (0, 10)]) rfl rfl ?_
  generalize hM2 : (mI M 114 (upd (M.1 114) 0 (nI 0))) = M1
  have hk3 := fI_up hM2 hg
  have hF4 := fr_sI hF hM2 (by decide)
  show Wn _ 120 _ (5, [(0, .ref 114)], [], M1)
  refine Wn.run (tab := tb_m_ask) rfl 3 (c' := (if (M1.1 114 32) = 0 then 19 else 12, [(0, .ref 114)], [], M1)) (o := [shp 114 = (0, 10)]) rfl rfl ?_
  refine Wn.br (fun h1 => ?_) (fun h1 => ?_)
  · show Wn _ 120 _ (19, [(0, .ref 114)], [], M1)
    rw [show (M1.1 114 32) = g 32 from (fr_eq hk3 (show (upd g 0 (nI 0)) 32 = (g 32) from ((pk_un (by decide)).trans rfl)))] at h1
    refine Wn.run (tab := tb_m_ask) rfl 1 (c' := (20, [(0, .ref 114)], [.int (-1 : Int32)], M1)) (o := []) rfl trivial ?_
    exact Wn.iret rfl ⟨by rw [if_pos h1], by rw [hk3]; exact pk_us, by rw [hk3]; exact (Gx_up (Gx_rf _ _) (by decide)), hF4⟩
  · show Wn _ 120 _ (12, [(0, .ref 114)], [], M1)
    rw [show (M1.1 114 32) = g 32 from (fr_eq hk3 (show (upd g 0 (nI 0)) 32 = (g 32) from ((pk_un (by decide)).trans rfl)))] at h1
    refine Wn.run (tab := tb_m_ask) rfl 3 (c' := (20, [(0, .ref 114)], [.int (M1.1 114 31)], M1)) (o := [shp 114 = (0, 10)]) rfl rfl ?_
    rw [show (M1.1 114 31) = (g 31) from (fr_eq hk3 (show (upd g 0 (nI 0)) 31 = (g 31) from ((pk_un (by decide)).trans rfl)))]
    exact Wn.iret rfl ⟨by rw [if_neg h1], by rw [hk3]; exact pk_us, by rw [hk3]; exact (Gx_up (Gx_rf _ _) (by decide)), hF4⟩
set_option maxRecDepth 20000 in
theorem c_m_told0 (d : Nat) (M : Mm) (g : Nat → Int32) (hg : M.1 114 = g) (u : Nat → Int32) (hu : M.1 128 = u) (x : Int32) (hf : g 38 = 0) : Wn (d + 0) 137 (PO M g (nI 0) (some (.int (-1)))) (0, lv_args 0 [.ref 114, .int x], [], M) := by
  have hF := fr_rf [114] M
  refine Wn.run (tab := tb_m_told) rfl 3 (c' := (5, [(0, .ref 114), (1, .int x)], [], (mI M 114 (upd (M.1 114) 0 (nI 0))))) (o := [shp 114 = (0, 10)]) rfl rfl ?_
  generalize hM2 : (mI M 114 (upd (M.1 114) 0 (nI 0))) = M1
  have hk3 := fI_up hM2 hg
  have hk4 := fI_ne hM2 (by decide) hu
  have hF5 := fr_sI hF hM2 (by decide)
  show Wn _ 137 _ (5, [(0, .ref 114), (1, .int x)], [], M1)
  refine Wn.run (tab := tb_m_told) rfl 3 (c' := (if (M1.1 114 38) = 0 then 30 else 12, [(0, .ref 114), (1, .int x)], [], M1)) (o := [shp 114 = (0, 10)]) rfl rfl ?_
  rw [if_pos (show (M1.1 114 38) = 0 by rw [show (M1.1 114 38) = (g 38) from (fr_eq hk3 (show (upd g 0 (nI 0)) 38 = (g 38) from ((pk_un (by decide)).trans rfl)))]; exact hf)]
  show Wn _ 137 _ (30, [(0, .ref 114), (1, .int x)], [], M1)
  refine Wn.run (tab := tb_m_told) rfl 1 (c' := (31, [(0, .ref 114), (1, .int x)], [.int (-1 : Int32)], M1)) (o := []) rfl trivial ?_
  exact Wn.iret rfl ⟨rfl, by rw [hk3]; exact pk_us, by rw [hk3]; exact (Gx_up (Gx_rf _ _) (by decide)), hF5⟩
set_option maxRecDepth 20000 in
theorem c_m_told (d : Nat) (M : Mm) (g : Nat → Int32) (hg : M.1 114 = g) (u : Nat → Int32) (hu : M.1 128 = u) (k : Nat) (hk : k < 4) (hf : ¬ g 38 = 0) : Wn (d + 1) 137 (PO M g (nI 0) (some (.int (u k)))) (0, lv_args 0 [.ref 114, .int (nI k)], [], M) := by
  have hF := fr_rf [114] M
  refine Wn.run (tab := tb_m_told) rfl 3 (c' := (5, [(0, .ref 114), (1, .int (nI k))], [], (mI M 114 (upd (M.1 114) 0 (nI 0))))) (o := [shp 114 = (0, 10)]) rfl rfl ?_
  generalize hM2 : (mI M 114 (upd (M.1 114) 0 (nI 0))) = M1
  have hk3 := fI_up hM2 hg
  have hk4 := fI_ne hM2 (by decide) hu
  have hF5 := fr_sI hF hM2 (by decide)
  show Wn _ 137 _ (5, [(0, .ref 114), (1, .int (nI k))], [], M1)
  refine Wn.run (tab := tb_m_told) rfl 3 (c' := (if (M1.1 114 38) = 0 then 30 else 12, [(0, .ref 114), (1, .int (nI k))], [], M1)) (o := [shp 114 = (0, 10)]) rfl rfl ?_
  rw [if_neg (show ¬ ((M1.1 114 38) = 0) by rw [show (M1.1 114 38) = (g 38) from (fr_eq hk3 (show (upd g 0 (nI 0)) 38 = (g 38) from ((pk_un (by decide)).trans rfl)))]; exact hf)]
  show Wn _ 137 _ (12, [(0, .ref 114), (1, .int (nI k))], [], M1)
  refine Wn.run (tab := tb_m_told) rfl 3 (c' := (15, [(0, .ref 114), (1, .int (nI k))], [.int (nI 3), .int (nI 0), .int (nI k)], M1)) (o := []) rfl trivial ?_
  refine Wn.callS (n := 3) (ix := 194) (fun r0 M0 => r0 = some (.int (b2 (0 ≤ k ∧ k ≤ 3))) ∧ M1 = M0) [.int (nI k), .int (nI 0), .int (nI 3)] [] rfl rfl rfl (Nat.le_of_ble_eq_true rfl) (Nat.le_of_ble_eq_true rfl) (w_m_isInN _ k 0 3 (by omega) (by omega) (by omega) M1 _ ⟨rfl, rfl⟩) ?_
  rintro _ _ ⟨rfl, rfl⟩
  show Wn _ 137 _ (18, [(0, .ref 114), (1, .int (nI k))], [.int (b2 (0 ≤ k ∧ k ≤ 3))], M1)
  refine Wn.run (tab := tb_m_told) rfl 1 (c' := (if (b2 (0 ≤ k ∧ k ≤ 3)) = 0 then 30 else 21, [(0, .ref 114), (1, .int (nI k))], [], M1)) (o := []) rfl trivial ?_
  rw [if_neg (b2_n0.mpr (by omega))]
  show Wn _ 137 _ (21, [(0, .ref 114), (1, .int (nI k))], [], M1)
  refine Wn.run (tab := tb_m_told) rfl 5 (c' := (31, [(0, .ref 114), (1, .int (nI k))], [.int (M1.1 128 ((nI k)).toNatClampNeg)], M1)) (o := [shp 114 = (0, 10), aok shp 128 0 (nI k)]) rfl ⟨rfl, (ak1 (n := 4) rfl rfl rfl (by omega))⟩ ?_
  rw [show (M1.1 128 ((nI k)).toNatClampNeg) = (u k) from (fr_rdx hk4 rfl (by omega))]
  exact Wn.iret rfl ⟨rfl, by rw [hk3]; exact pk_us, by rw [hk3]; exact (Gx_up (Gx_rf _ _) (by decide)), hF5⟩
set_option maxRecDepth 20000 in
theorem c_m_toldN (d : Nat) (M : Mm) (g : Nat → Int32) (hg : M.1 114 = g) (u : Nat → Int32) (hu : M.1 128 = u) (x : Int32) (hf : ¬ g 38 = 0) (hns : ¬ ((nI 0).toInt ≤ x.toInt ∧ x.toInt ≤ (nI 3).toInt)) : Wn (d + 1) 137 (PO M g (nI 0) (some (.int (-1)))) (0, lv_args 0 [.ref 114, .int x], [], M) := by
  have hF := fr_rf [114] M
  refine Wn.run (tab := tb_m_told) rfl 3 (c' := (5, [(0, .ref 114), (1, .int x)], [], (mI M 114 (upd (M.1 114) 0 (nI 0))))) (o := [shp 114 = (0, 10)]) rfl rfl ?_
  generalize hM2 : (mI M 114 (upd (M.1 114) 0 (nI 0))) = M1
  have hk3 := fI_up hM2 hg
  have hk4 := fI_ne hM2 (by decide) hu
  have hF5 := fr_sI hF hM2 (by decide)
  show Wn _ 137 _ (5, [(0, .ref 114), (1, .int x)], [], M1)
  refine Wn.run (tab := tb_m_told) rfl 3 (c' := (if (M1.1 114 38) = 0 then 30 else 12, [(0, .ref 114), (1, .int x)], [], M1)) (o := [shp 114 = (0, 10)]) rfl rfl ?_
  rw [if_neg (show ¬ ((M1.1 114 38) = 0) by rw [show (M1.1 114 38) = (g 38) from (fr_eq hk3 (show (upd g 0 (nI 0)) 38 = (g 38) from ((pk_un (by decide)).trans rfl)))]; exact hf)]
  show Wn _ 137 _ (12, [(0, .ref 114), (1, .int x)], [], M1)
  refine Wn.run (tab := tb_m_told) rfl 3 (c' := (15, [(0, .ref 114), (1, .int x)], [.int (nI 3), .int (nI 0), .int x], M1)) (o := []) rfl trivial ?_
  refine Wn.callS (n := 3) (ix := 194) (fun r0 M0 => r0 = some (.int (b2 ((nI 0).toInt ≤ x.toInt ∧ x.toInt ≤ (nI 3).toInt))) ∧ M1 = M0) [.int x, .int (nI 0), .int (nI 3)] [] rfl rfl rfl (Nat.le_of_ble_eq_true rfl) (Nat.le_of_ble_eq_true rfl) (w_m_isInT _ x (nI 0) (nI 3) M1 _ ⟨rfl, rfl⟩) ?_
  rintro _ _ ⟨rfl, rfl⟩
  show Wn _ 137 _ (18, [(0, .ref 114), (1, .int x)], [.int (b2 ((nI 0).toInt ≤ x.toInt ∧ x.toInt ≤ (nI 3).toInt))], M1)
  refine Wn.run (tab := tb_m_told) rfl 1 (c' := (if (b2 ((nI 0).toInt ≤ x.toInt ∧ x.toInt ≤ (nI 3).toInt)) = 0 then 30 else 21, [(0, .ref 114), (1, .int x)], [], M1)) (o := []) rfl trivial ?_
  rw [if_pos (show (b2 ((nI 0).toInt ≤ x.toInt ∧ x.toInt ≤ (nI 3).toInt)) = 0 by exact (b2_f hns))]
  show Wn _ 137 _ (30, [(0, .ref 114), (1, .int x)], [], M1)
  refine Wn.run (tab := tb_m_told) rfl 1 (c' := (31, [(0, .ref 114), (1, .int x)], [.int (-1 : Int32)], M1)) (o := []) rfl trivial ?_
  exact Wn.iret rfl ⟨rfl, by rw [hk3]; exact pk_us, by rw [hk3]; exact (Gx_up (Gx_rf _ _) (by decide)), hF5⟩
set_option maxRecDepth 20000 in
theorem c_i_told0 (d : Nat) (M : Mm) (g u : Nat → Int32) (hg : M.1 0 = g) (hu : M.1 87 = u) (x : Int32) (hf : g 14 = 0) : Wn (d + 0) 35 (PN M (some (.int (-1)))) (0, lv_args 0 [.ref 0, .int x], [], M) := by
  refine Wn.run (tab := tb_i_told) rfl 3 (c' := (if (M.1 0 14) = 0 then 25 else 7, [(0, .ref 0), (1, .int x)], [], M)) (o := [shp 0 = (0, 9)]) rfl rfl ?_
  rw [if_pos (show (M.1 0 14) = 0 by rw [show (M.1 0 14) = (g 14) from (fr_eq hg (show g 14 = (g 14) from rfl))]; exact hf)]
  show Wn _ 35 _ (25, [(0, .ref 0), (1, .int x)], [], M)
  refine Wn.run (tab := tb_i_told) rfl 1 (c' := (26, [(0, .ref 0), (1, .int x)], [.int (-1 : Int32)], M)) (o := []) rfl trivial ?_
  exact Wn.iret rfl ⟨rfl, rfl⟩
set_option maxRecDepth 20000 in
theorem c_i_told (d : Nat) (M : Mm) (g u : Nat → Int32) (hg : M.1 0 = g) (hu : M.1 87 = u) (k : Nat) (hk : k < 4) (hf : ¬ g 14 = 0) : Wn (d + 0) 35 (PN M (some (.int (u k)))) (0, lv_args 0 [.ref 0, .int (nI k)], [], M) := by
  refine Wn.run (tab := tb_i_told) rfl 3 (c' := (if (M.1 0 14) = 0 then 25 else 7, [(0, .ref 0), (1, .int (nI k))], [], M)) (o := [shp 0 = (0, 9)]) rfl rfl ?_
  rw [if_neg (show ¬ ((M.1 0 14) = 0) by rw [show (M.1 0 14) = (g 14) from (fr_eq hg (show g 14 = (g 14) from rfl))]; exact hf)]
  show Wn _ 35 _ (7, [(0, .ref 0), (1, .int (nI k))], [], M)
  refine Wn.run (tab := tb_i_told) rfl 2 (c' := (if (nI k) < 0 then 25 else 11, [(0, .ref 0), (1, .int (nI k))], [], M)) (o := []) rfl trivial ?_
  rw [if_neg (nI_nn (by omega))]
  show Wn _ 35 _ (11, [(0, .ref 0), (1, .int (nI k))], [], M)
  refine Wn.run (tab := tb_i_told) rfl 3 (c' := (if (nI 4) ≤ (nI k) then 25 else 16, [(0, .ref 0), (1, .int (nI k))], [], M)) (o := []) rfl trivial ?_
  rw [if_neg (mt (n_le rfl rfl (by omega) (by omega)).mp (by omega))]
  show Wn _ 35 _ (16, [(0, .ref 0), (1, .int (nI k))], [], M)
  refine Wn.run (tab := tb_i_told) rfl 5 (c' := (26, [(0, .ref 0), (1, .int (nI k))], [.int (M.1 87 ((nI k)).toNatClampNeg)], M)) (o := [shp 0 = (0, 9), aok shp 87 0 (nI k)]) rfl ⟨rfl, (ak1 (n := 4) rfl rfl rfl (by omega))⟩ ?_
  rw [show (M.1 87 ((nI k)).toNatClampNeg) = (u k) from (fr_rdx hu rfl (by omega))]
  exact Wn.iret rfl ⟨rfl, rfl⟩
set_option maxRecDepth 20000 in
theorem c_i_toldL (d : Nat) (M : Mm) (g u : Nat → Int32) (hg : M.1 0 = g) (hu : M.1 87 = u) (x : Int32) (hf : ¬ g 14 = 0) (hns : x < 0) : Wn (d + 0) 35 (PN M (some (.int (-1)))) (0, lv_args 0 [.ref 0, .int x], [], M) := by
  refine Wn.run (tab := tb_i_told) rfl 3 (c' := (if (M.1 0 14) = 0 then 25 else 7, [(0, .ref 0), (1, .int x)], [], M)) (o := [shp 0 = (0, 9)]) rfl rfl ?_
  rw [if_neg (show ¬ ((M.1 0 14) = 0) by rw [show (M.1 0 14) = (g 14) from (fr_eq hg (show g 14 = (g 14) from rfl))]; exact hf)]
  show Wn _ 35 _ (7, [(0, .ref 0), (1, .int x)], [], M)
  refine Wn.run (tab := tb_i_told) rfl 2 (c' := (if x < 0 then 25 else 11, [(0, .ref 0), (1, .int x)], [], M)) (o := []) rfl trivial ?_
  rw [if_pos (show x < 0 by exact hns)]
  show Wn _ 35 _ (25, [(0, .ref 0), (1, .int x)], [], M)
  refine Wn.run (tab := tb_i_told) rfl 1 (c' := (26, [(0, .ref 0), (1, .int x)], [.int (-1 : Int32)], M)) (o := []) rfl trivial ?_
  exact Wn.iret rfl ⟨rfl, rfl⟩
set_option maxRecDepth 20000 in
theorem c_i_toldH (d : Nat) (M : Mm) (g u : Nat → Int32) (hg : M.1 0 = g) (hu : M.1 87 = u) (x : Int32) (hf : ¬ g 14 = 0) (hns : ¬ x < 0) (hn2 : (nI 4) ≤ x) : Wn (d + 0) 35 (PN M (some (.int (-1)))) (0, lv_args 0 [.ref 0, .int x], [], M) := by
  refine Wn.run (tab := tb_i_told) rfl 3 (c' := (if (M.1 0 14) = 0 then 25 else 7, [(0, .ref 0), (1, .int x)], [], M)) (o := [shp 0 = (0, 9)]) rfl rfl ?_
  rw [if_neg (show ¬ ((M.1 0 14) = 0) by rw [show (M.1 0 14) = (g 14) from (fr_eq hg (show g 14 = (g 14) from rfl))]; exact hf)]
  show Wn _ 35 _ (7, [(0, .ref 0), (1, .int x)], [], M)
  refine Wn.run (tab := tb_i_told) rfl 2 (c' := (if x < 0 then 25 else 11, [(0, .ref 0), (1, .int x)], [], M)) (o := []) rfl trivial ?_
  rw [if_neg (show ¬ (x < 0) by exact hns)]
  show Wn _ 35 _ (11, [(0, .ref 0), (1, .int x)], [], M)
  refine Wn.run (tab := tb_i_told) rfl 3 (c' := (if (nI 4) ≤ x then 25 else 16, [(0, .ref 0), (1, .int x)], [], M)) (o := []) rfl trivial ?_
  rw [if_pos (show (nI 4) ≤ x by exact hn2)]
  show Wn _ 35 _ (25, [(0, .ref 0), (1, .int x)], [], M)
  refine Wn.run (tab := tb_i_told) rfl 1 (c' := (26, [(0, .ref 0), (1, .int x)], [.int (-1 : Int32)], M)) (o := []) rfl trivial ?_
  exact Wn.iret rfl ⟨rfl, rfl⟩
set_option maxRecDepth 20000 in
theorem c_wy_stepAt (d : Nat) (M : Mm) (g u : Nat → Int32) (n : Nat) (hg : M.1 83 = g) (hn : g 3 = nI n) (hn6 : n < 64) (hu : M.1 86 = u) (k : Nat) (hk : k < n) : Wn (d + 0) 235 (PN M (some (.int (u k)))) (0, lv_args 0 [.ref 83, .int (nI k)], [], M) := by
  refine Wn.run (tab := tb_wy_stepAt) rfl 2 (c' := (if (nI k) < 0 then 21 else 4, [(0, .ref 83), (1, .int (nI k))], [], M)) (o := []) rfl trivial ?_
  rw [if_neg (nI_nn (by omega))]
  show Wn _ 235 _ (4, [(0, .ref 83), (1, .int (nI k))], [], M)
  refine Wn.run (tab := tb_wy_stepAt) rfl 4 (c' := (if (M.1 83 3) ≤ (nI k) then 21 else 12, [(0, .ref 83), (1, .int (nI k))], [], M)) (o := [shp 83 = (0, 7)]) rfl rfl ?_
  rw [if_neg (show ¬ ((M.1 83 3) ≤ (nI k)) by rw [show (M.1 83 3) = (nI n) from (fr_eq hg (show g 3 = (nI n) from hn))]; exact (mt (n_le rfl rfl (by omega) (by omega)).mp (by omega)))]
  show Wn _ 235 _ (12, [(0, .ref 83), (1, .int (nI k))], [], M)
  refine Wn.run (tab := tb_wy_stepAt) rfl 5 (c' := (22, [(0, .ref 83), (1, .int (nI k))], [.int (M.1 86 ((nI k)).toNatClampNeg)], M)) (o := [shp 83 = (0, 7), aok shp 86 0 (nI k)]) rfl ⟨rfl, (ak1 (n := 64) rfl rfl rfl (by omega))⟩ ?_
  rw [show (M.1 86 ((nI k)).toNatClampNeg) = (u k) from (fr_rdx hu rfl (by omega))]
  exact Wn.iret rfl ⟨rfl, rfl⟩
set_option maxRecDepth 20000 in
theorem c_wy_stepAtL (d : Nat) (M : Mm) (g u : Nat → Int32) (n : Nat) (hg : M.1 83 = g) (hn : g 3 = nI n) (hn6 : n < 64) (hu : M.1 86 = u) (x : Int32) (hns : x < 0) : Wn (d + 0) 235 (PN M (some (.int (-1)))) (0, lv_args 0 [.ref 83, .int x], [], M) := by
  refine Wn.run (tab := tb_wy_stepAt) rfl 2 (c' := (if x < 0 then 21 else 4, [(0, .ref 83), (1, .int x)], [], M)) (o := []) rfl trivial ?_
  rw [if_pos (show x < 0 by exact hns)]
  show Wn _ 235 _ (21, [(0, .ref 83), (1, .int x)], [], M)
  refine Wn.run (tab := tb_wy_stepAt) rfl 1 (c' := (22, [(0, .ref 83), (1, .int x)], [.int (-1 : Int32)], M)) (o := []) rfl trivial ?_
  exact Wn.iret rfl ⟨rfl, rfl⟩
set_option maxRecDepth 20000 in
theorem c_wy_stepAtH (d : Nat) (M : Mm) (g u : Nat → Int32) (n : Nat) (hg : M.1 83 = g) (hn : g 3 = nI n) (hn6 : n < 64) (hu : M.1 86 = u) (x : Int32) (hns : ¬ x < 0) (hn2 : (nI n) ≤ x) : Wn (d + 0) 235 (PN M (some (.int (-1)))) (0, lv_args 0 [.ref 83, .int x], [], M) := by
  refine Wn.run (tab := tb_wy_stepAt) rfl 2 (c' := (if x < 0 then 21 else 4, [(0, .ref 83), (1, .int x)], [], M)) (o := []) rfl trivial ?_
  rw [if_neg (show ¬ (x < 0) by exact hns)]
  show Wn _ 235 _ (4, [(0, .ref 83), (1, .int x)], [], M)
  refine Wn.run (tab := tb_wy_stepAt) rfl 4 (c' := (if (M.1 83 3) ≤ x then 21 else 12, [(0, .ref 83), (1, .int x)], [], M)) (o := [shp 83 = (0, 7)]) rfl rfl ?_
  rw [if_pos (show (M.1 83 3) ≤ x by rw [show (M.1 83 3) = (nI n) from (fr_eq hg (show g 3 = (nI n) from hn))]; exact hn2)]
  show Wn _ 235 _ (21, [(0, .ref 83), (1, .int x)], [], M)
  refine Wn.run (tab := tb_wy_stepAt) rfl 1 (c' := (22, [(0, .ref 83), (1, .int x)], [.int (-1 : Int32)], M)) (o := []) rfl trivial ?_
  exact Wn.iret rfl ⟨rfl, rfl⟩
set_option maxRecDepth 20000 in
theorem c_m_wayAt (d : Nat) (M : Mm) (g : Nat → Int32) (hg : M.1 114 = g) (u : Nat → Int32) (hu : M.1 126 = u) (n k : Nat) (hn : g 30 = nI n) (hn6 : n < 64) (hk : k < n) : Wn (d + 1) 110 (PO M g (nI 0) (some (.int (u k)))) (0, lv_args 0 [.ref 114, .int (nI k)], [], M) := by
  have hF := fr_rf [114] M
  refine Wn.run (tab := tb_m_wayAt) rfl 3 (c' := (5, [(0, .ref 114), (1, .int (nI k))], [], (mI M 114 (upd (M.1 114) 0 (nI 0))))) (o := [shp 114 = (0, 10)]) rfl rfl ?_
  generalize hM2 : (mI M 114 (upd (M.1 114) 0 (nI 0))) = M1
  have hk3 := fI_up hM2 hg
  have hk4 := fI_ne hM2 (by decide) hu
  have hF5 := fr_sI hF hM2 (by decide)
  show Wn _ 110 _ (5, [(0, .ref 114), (1, .int (nI k))], [], M1)
  refine Wn.run (tab := tb_m_wayAt) rfl 6 (c' := (13, [(0, .ref 114), (1, .int (nI k))], [.int ((M1.1 114 30) - (nI 1)), .int (nI 0), .int (nI k)], M1)) (o := [shp 114 = (0, 10)]) rfl rfl ?_
  rw [show (M1.1 114 30) = (nI n) from (fr_eq hk3 (show (upd g 0 (nI 0)) 30 = (nI n) from ((pk_un (by decide)).trans hn)))]
  rw [show ((nI n) - (nI 1)) = (nI (n - 1)) from (n_sub rfl rfl (by omega))]
  refine Wn.callS (n := 3) (ix := 194) (fun r0 M0 => r0 = some (.int (b2 (0 ≤ k ∧ k ≤ (n - 1)))) ∧ M1 = M0) [.int (nI k), .int (nI 0), .int (nI (n - 1))] [] rfl rfl rfl (Nat.le_of_ble_eq_true rfl) (Nat.le_of_ble_eq_true rfl) (w_m_isInN _ k 0 (n - 1) (by omega) (by omega) (by omega) M1 _ ⟨rfl, rfl⟩) ?_
  rintro _ _ ⟨rfl, rfl⟩
  show Wn _ 110 _ (16, [(0, .ref 114), (1, .int (nI k))], [.int (b2 (0 ≤ k ∧ k ≤ (n - 1)))], M1)
  refine Wn.run (tab := tb_m_wayAt) rfl 1 (c' := (if (b2 (0 ≤ k ∧ k ≤ (n - 1))) = 0 then 28 else 19, [(0, .ref 114), (1, .int (nI k))], [], M1)) (o := []) rfl trivial ?_
  rw [if_neg (b2_n0.mpr (by omega))]
  show Wn _ 110 _ (19, [(0, .ref 114), (1, .int (nI k))], [], M1)
  refine Wn.run (tab := tb_m_wayAt) rfl 5 (c' := (29, [(0, .ref 114), (1, .int (nI k))], [.int (M1.1 126 ((nI k)).toNatClampNeg)], M1)) (o := [shp 114 = (0, 10), aok shp 126 0 (nI k)]) rfl ⟨rfl, (ak1 (n := 64) rfl rfl rfl (by omega))⟩ ?_
  rw [show (M1.1 126 ((nI k)).toNatClampNeg) = (u k) from (fr_rdx hk4 rfl (by omega))]
  exact Wn.iret rfl ⟨rfl, by rw [hk3]; exact pk_us, by rw [hk3]; exact (Gx_up (Gx_rf _ _) (by decide)), hF5⟩
