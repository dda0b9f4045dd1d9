set_option maxRecDepth 20000 in
theorem c_m_drawn (d : Nat) (M : Mm) (f0 g : Nat → Int32) (σ : Nat → Nat) (n : Nat) (H : Nat → Nat → Nat) (hR : Rs f0 (M.1 116) σ) (hV : Inv σ) (hg : M.1 114 = g) (hn : g 25 = nI n) (hn8 : n ≤ 8) (hH : HMr (M.1 121) n H) (z : Nat) (x : Int32) (h1z : 1 ≤ z) (h2z : z ≤ 60) (hp : ∀ r, r < 6 → σ (172 + r) + 6 < 1073741824) : Wn (d + 8) 132 (PA M f0 g [0, 22, 25, 35] [114, 116, 121] (dK σ x (mn z (400 - σ 90))).1 (if 0 < mn z (400 - σ 90) then hpn n else n) (if 0 < mn z (400 - σ 90) then hpH n H σ else H) (some (.int (nI (mn z (400 - σ 90)))))) (0, lv_args 0 [.ref 114, .int (nI z), .int x], [], M) := by
  have hF := fr_rf [114, 116, 121] M
  have hB := hV.1
  have hI := hV.2.1
  have c9_2 := Bd_2 hB
  have k90 := Bd_90 hB
  refine Wn.run (tab := tb_m_drawn) rfl 3 (c' := (5, [(0, .ref 114), (1, .int (nI z)), (2, .int x)], [], (mI M 114 (upd (M.1 114) 0 (nI 0))))) (o := [shp 114 = (0, 10)]) rfl rfl ?_
  generalize hM2 : (mI M 114 (upd (M.1 114) 0 (nI 0))) = M1
  have hk3 := rs_ne hM2 (by decide) hR
  have hk4 := fI_up hM2 hg
  have hH5 := HMr_fr (fr_1I hM2) (by decide) hH
  have hF6 := fr_sI hF hM2 (by decide)
  show Wn _ 132 _ (5, [(0, .ref 114), (1, .int (nI z)), (2, .int x)], [], M1)
  refine Wn.run (tab := tb_m_drawn) rfl 3 (c' := (9, [(0, .ref 114), (1, .int (nI z)), (2, .int x)], [.int (nI 60), .int (nI 1), .int (nI z)], M1)) (o := []) rfl trivial ?_
  refine Wn.callS (n := 3) (ix := 194) (fun r0 M0 => r0 = some (.int (b2 (1 ≤ z ∧ z ≤ 60))) ∧ M1 = M0) [.int (nI z), .int (nI 1), .int (nI 60)] [] rfl rfl rfl (Nat.le_of_ble_eq_true rfl) (Nat.le_of_ble_eq_true rfl) (w_m_isInN _ z 1 60 (by omega) (by omega) (by omega) M1 _ ⟨rfl, rfl⟩) ?_
  rintro _ _ ⟨rfl, rfl⟩
  show Wn _ 132 _ (12, [(0, .ref 114), (1, .int (nI z)), (2, .int x)], [.int (b2 (1 ≤ z ∧ z ≤ 60))], M1)
  refine Wn.run (tab := tb_m_drawn) rfl 1 (c' := (if ¬ (b2 (1 ≤ z ∧ z ≤ 60)) = 0 then 17 else 15, [(0, .ref 114), (1, .int (nI z)), (2, .int x)], [], M1)) (o := []) rfl trivial ?_
  rw [if_pos (b2_n0.mpr (by omega))]
  show Wn _ 132 _ (17, [(0, .ref 114), (1, .int (nI z)), (2, .int x)], [], M1)
  refine Wn.run (tab := tb_m_drawn) rfl 6 (c' := (if (nI 400) ≤ (M1.1 116 90) then 34 else 30, [(0, .ref 114), (1, .int (nI z)), (2, .int x)], [], M1)) (o := [shp 114 = (0, 10), aok shp 116 0 (nI 90)]) rfl ⟨rfl, ⟨rfl, vp_in_nI (by decide) (by decide)⟩⟩ ?_
  refine Wn.br (fun h1 => ?_) (fun h1 => ?_)
  · show Wn _ 132 _ (34, [(0, .ref 114), (1, .int (nI z)), (2, .int x)], [], M1)
    have c9_90 := Bd_90 hB
    have h1 := (n_le rfl (rd0 hk3.1 (by omega)) (by omega) (by omega)).mp h1
    refine Wn.run (tab := tb_m_drawn) rfl 3 (c' := (37, [(0, .ref 114), (1, .int (nI z)), (2, .int x)], [.int x, .int (nI z), .ref 114], M1)) (o := []) rfl trivial ?_
    refine Wn.callV (p := 114) (n := 3) (ix := 407) (ci := (10)) (PG M1 f0 (upd g 0 (nI 0)) [22, 35] (dK σ x (mn z (400 - σ 90))).1 (some (.int (nI (mn z (400 - σ 90)))))) [.int (nI z), .int x] [] rfl rfl rfl rfl (Nat.le_of_ble_eq_true rfl) (Nat.le_of_ble_eq_true rfl) (c_m_draws _ M1 f0 (upd g 0 (nI 0)) σ hk3 hV hk4 z (by omega) x hp) ?_
    rintro _ M8 ⟨rfl, hR9, hx10, hF11⟩
    show Wn _ 132 _ (40, [(0, .ref 114), (1, .int (nI z)), (2, .int x)], [.int (nI (mn z (400 - σ 90)))], M8)
    obtain ⟨g12, hg13⟩ : ∃ g9, M8.1 114 = g9 := ⟨_, rfl⟩
    have hx14 := hx10
    rw [hg13] at hx14
    have hf15 : g12 25 = (nI n) := (hx14 25 (by decide)).trans (show (upd g 0 (nI 0)) 25 = (nI n) from ((pk_un (by decide)).trans hn))
    have hf16 : g12 0 = (nI 0) := (hx14 0 (by decide)).trans (show (upd g 0 (nI 0)) 0 = (nI 0) from pk_us)
    have hH17 := HMr_fr hF11 (by decide) hH5
    have hF18 := fr_tr hF6 hF11 (by decide)
    have m9 : ¬ 0 < mn z (400 - σ 90) := by unfold mn; split <;> omega
    rw [if_neg m9, if_neg m9]
    exact Wn.iret rfl ⟨rfl, hR9, hH17, by rw [hg13]; exact hf15, by rw [hg13]; exact hf16, by rw [hg13]; exact (Gx_tr (Gx_up (Gx_rf _ _) (by decide)) (Gx_mono hx14 (by decide))), hF18⟩
  · show Wn _ 132 _ (30, [(0, .ref 114), (1, .int (nI z)), (2, .int x)], [], M1)
    have c9_90 := Bd_90 hB
    have h1 := mt (n_le rfl (rd0 hk3.1 (by omega)) (by omega) (by omega)).mpr h1
    refine Wn.run (tab := tb_m_drawn) rfl 1 (c' := (31, [(0, .ref 114), (1, .int (nI z)), (2, .int x)], [.ref 114], M1)) (o := []) rfl trivial ?_
    refine Wn.callV (p := 114) (n := 1) (ix := 321) (ci := (10)) (PK M1 (upd g 0 (nI 0)) n H σ) [] [] rfl rfl rfl rfl (Nat.le_of_ble_eq_true rfl) (Nat.le_of_ble_eq_true rfl) (c_m_keep _ M1 f0 (upd g 0 (nI 0)) σ n H hk3 hk4 ((pk_un (by decide)).trans hn) (by omega) hH5) ?_
    rintro _ M19 ⟨rfl, hH20, hg21, hF22⟩
    show Wn _ 132 _ (34, [(0, .ref 114), (1, .int (nI z)), (2, .int x)], [], M19)
    have hk23 := fr_rs hF22 (by decide) hk3
    have hF24 := fr_tr hF6 hF22 (by decide)
    refine Wn.run (tab := tb_m_drawn) rfl 3 (c' := (37, [(0, .ref 114), (1, .int (nI z)), (2, .int x)], [.int x, .int (nI z), .ref 114], M19)) (o := []) rfl trivial ?_
    refine Wn.callV (p := 114) (n := 3) (ix := 407) (ci := (10)) (PG M19 f0 (upd (upd g 0 (nI 0)) 25 (nI (hpn n))) [22, 35] (dK σ x (mn z (400 - σ 90))).1 (some (.int (nI (mn z (400 - σ 90)))))) [.int (nI z), .int x] [] rfl rfl rfl rfl (Nat.le_of_ble_eq_true rfl) (Nat.le_of_ble_eq_true rfl) (c_m_draws _ M19 f0 (upd (upd g 0 (nI 0)) 25 (nI (hpn n))) σ hk23 hV hg21 z (by omega) x hp) ?_
    rintro _ M25 ⟨rfl, hR26, hx27, hF28⟩
    show Wn _ 132 _ (40, [(0, .ref 114), (1, .int (nI z)), (2, .int x)], [.int (nI (mn z (400 - σ 90)))], M25)
    obtain ⟨g29, hg30⟩ : ∃ g9, M25.1 114 = g9 := ⟨_, rfl⟩
    have hx31 := hx27
    rw [hg30] at hx31
    have hf32 : g29 25 = (nI (hpn n)) := (hx31 25 (by decide)).trans (show (upd (upd g 0 (nI 0)) 25 (nI (hpn n))) 25 = (nI (hpn n)) from pk_us)
    have hf33 : g29 0 = (nI 0) := (hx31 0 (by decide)).trans (show (upd (upd g 0 (nI 0)) 25 (nI (hpn n))) 0 = (nI 0) from ((pk_un (by decide)).trans pk_us))
    have hH34 := HMr_fr hF28 (by decide) hH20
    have hF35 := fr_tr hF24 hF28 (by decide)
    have m9 : 0 < mn z (400 - σ 90) := by unfold mn; split <;> omega
    rw [if_pos m9, if_pos m9]
    exact Wn.iret rfl ⟨rfl, hR26, hH34, by rw [hg30]; exact hf32, by rw [hg30]; exact hf33, by rw [hg30]; exact (Gx_tr (Gx_up (Gx_up (Gx_rf _ _) (by decide)) (by decide)) (Gx_mono hx31 (by decide))), hF35⟩
set_option maxRecDepth 20000 in
theorem c_m_drawnN (d : Nat) (M : Mm) (f0 g : Nat → Int32) (σ : Nat → Nat) (n : Nat) (H : Nat → Nat → Nat) (hR : Rs f0 (M.1 116) σ) (hV : Inv σ) (hg : M.1 114 = g) (hn : g 25 = nI n) (hn8 : n ≤ 8) (hH : HMr (M.1 121) n H) (z x : Int32) (hns : ¬ ((nI 1).toInt ≤ z.toInt ∧ z.toInt ≤ (nI 60).toInt)) : Wn (d + 1) 132 (PA M f0 g [0, 22, 25, 35] [114, 116, 121] σ n H (some (.int (-1)))) (0, lv_args 0 [.ref 114, .int z, .int x], [], M) := by
  have hF := fr_rf [114, 116, 121] M
  have hB := hV.1
  have hI := hV.2.1
  have c9_2 := Bd_2 hB
  have k90 := Bd_90 hB
  refine Wn.run (tab := tb_m_drawn) rfl 3 (c' := (5, [(0, .ref 114), (1, .int z), (2, .int x)], [], (mI M 114 (upd (M.1 114) 0 (nI 0))))) (o := [shp 114 = (0, 10)]) rfl rfl ?_
  generalize hM2 : (mI M 114 (upd (M.1 114) 0 (nI 0))) = M1
  have hk3 := rs_ne hM2 (by decide) hR
  have hk4 := fI_up hM2 hg
  have hH5 := HMr_fr (fr_1I hM2) (by decide) hH
  have hF6 := fr_sI hF hM2 (by decide)
  show Wn _ 132 _ (5, [(0, .ref 114), (1, .int z), (2, .int x)], [], M1)
  refine Wn.run (tab := tb_m_drawn) rfl 3 (c' := (9, [(0, .ref 114), (1, .int z), (2, .int x)], [.int (nI 60), .int (nI 1), .int z], M1)) (o := []) rfl trivial ?_
  refine Wn.callS (n := 3) (ix := 194) (fun r0 M0 => r0 = some (.int (b2 ((nI 1).toInt ≤ z.toInt ∧ z.toInt ≤ (nI 60).toInt))) ∧ M1 = M0) [.int z, .int (nI 1), .int (nI 60)] [] rfl rfl rfl (Nat.le_of_ble_eq_true rfl) (Nat.le_of_ble_eq_true rfl) (w_m_isInT _ z (nI 1) (nI 60) M1 _ ⟨rfl, rfl⟩) ?_
  rintro _ _ ⟨rfl, rfl⟩
  show Wn _ 132 _ (12, [(0, .ref 114), (1, .int z), (2, .int x)], [.int (b2 ((nI 1).toInt ≤ z.toInt ∧ z.toInt ≤ (nI 60).toInt))], M1)
  refine Wn.run (tab := tb_m_drawn) rfl 1 (c' := (if ¬ (b2 ((nI 1).toInt ≤ z.toInt ∧ z.toInt ≤ (nI 60).toInt)) = 0 then 17 else 15, [(0, .ref 114), (1, .int z), (2, .int x)], [], M1)) (o := []) rfl trivial ?_
  rw [if_neg (by rw [b2_f hns]; decide)]
  show Wn _ 132 _ (15, [(0, .ref 114), (1, .int z), (2, .int x)], [], M1)
  refine Wn.run (tab := tb_m_drawn) rfl 1 (c' := (16, [(0, .ref 114), (1, .int z), (2, .int x)], [.int (-1 : Int32)], M1)) (o := []) rfl trivial ?_
  exact Wn.iret rfl ⟨rfl, hk3, hH5, by rw [hk4]; exact ((pk_un (by decide)).trans hn), by rw [hk4]; exact pk_us, by rw [hk4]; exact (Gx_up (Gx_rf _ _) (by decide)), hF6⟩
def PGL (M0 : Mm) (f0 g : Nat → Int32) (K L : List Nat) (σ : Nat → Nat) (r : Option Value) : Po := fun r0 M' => r0 = r ∧ Rs f0 (M'.1 116) σ ∧ Gx K g (M'.1 114) ∧ Fr L M0 M'
theorem Rs_back {f0 f : Nat → Int32} {σ : Nat → Nat} (h26 : σ 2 ≤ 6) (n : Nat) (h : Rs f0 f (mrg (hK σ n) σ)) : Rs f0 f σ := Rs_cg h (fun k hk => mrg_eq (fun k hk => hK_lo h26 (by omega) n) hk)
/-- in which hour from now q swears; falls -/
def swP (σ : Nat → Nat) (q : Nat) (k : Nat) : Bool := (swN (hK σ (k - 1)) (hK σ (k - 1) 2)).testBit q
def faP (σ : Nat → Nat) (q : Nat) (k : Nat) : Bool := fal (hK σ k) q
theorem til_n {P : Nat → Bool} {m z : Nat} {r : Option Nat} (h : til P (m + 1 - z) z = r) (hz : z ≤ m) (hp : ¬ P z = true) : til P (m + 1 - (z + 1)) (z + 1) = r := by
  rw [show m + 1 - z = (m + 1 - (z + 1)) + 1 by omega] at h
  unfold til at h
  rw [if_neg hp] at h
  exact h
theorem til_y {P : Nat → Bool} {m z : Nat} {r : Option Nat} (h : til P (m + 1 - z) z = r) (hz : z ≤ m) (hp : P z = true) : r = some z := by
  rw [show m + 1 - z = (m + 1 - (z + 1)) + 1 by omega] at h
  unfold til at h
  rw [if_pos hp] at h
  exact h.symm
theorem til_0 {P : Nat → Bool} {m z : Nat} {r : Option Nat} (h : til P (m + 1 - z) z = r) (hz : m < z) : r = none := by
  rw [show m + 1 - z = 0 by omega] at h
  exact h.symm
set_option maxRecDepth 20000 in
theorem c_m_tillS (d : Nat) (M : Mm) (f0 g : Nat → Int32) (σ : Nat → Nat) (hR : Rs f0 (M.1 116) σ) (hV : Inv σ) (hg : M.1 114 = g) (q : Nat) (hq : q < σ 2) : Wn (d + 7) 113 (PGL M f0 g [22] [114, 116, 122] σ (some (.int (oI (til (swP σ q) (mn 99 (400 - σ 90)) 1))))) (0, lv_args 0 [.ref 114, .int (nI q), .int (nI 0)], [], M) := by
  have hF := fr_rf [114, 116, 122] M
  have hB := hV.1
  have c9_2 := Bd_2 hB
  have k90 := Bd_90 hV.1
  have m9 := mn_le 99 (400 - σ 90)
  have m8 := mn_or 99 (400 - σ 90)
  refine Wn.run (tab := tb_m_hoursTill) rfl 1 (c' := (1, [(0, .ref 114), (1, .int (nI q)), (2, .int (nI 0))], [.ref 114], M)) (o := []) rfl trivial ?_
  refine Wn.callV (p := 114) (n := 1) (ix := 347) (ci := (10)) (PT M σ) [] [] rfl rfl rfl rfl (Nat.le_of_ble_eq_true rfl) (Nat.le_of_ble_eq_true rfl) (c_m_tries _ M f0 σ hR) ?_
  rintro _ M1 ⟨rfl, hb2, hF3⟩
  show Wn _ 113 _ (4, [(0, .ref 114), (1, .int (nI q)), (2, .int (nI 0))], [], M1)
  have hk4 := fr_rs hF3 (by decide) hR
  have hk5 := frI_fun hF3 (by decide) hg
  have hF6 := fr_tr hF hF3 (by decide)
  refine Wn.run (tab := tb_m_hoursTill) rfl 2 (c' := (if (nI 0) = 0 then 20 else 8, [(0, .ref 114), (1, .int (nI q)), (2, .int (nI 0))], [], M1)) (o := []) rfl trivial ?_
  rw [if_pos (show (nI 0) = 0 by decide)]
  show Wn _ 113 _ (20, [(0, .ref 114), (1, .int (nI q)), (2, .int (nI 0))], [], M1)
  refine Wn.run (tab := tb_m_hoursTill) rfl 4 (c' := (25, [(4, .int (nI 1)), (3, .int (-1 : Int32)), (0, .ref 114), (1, .int (nI q)), (2, .int (nI 0))], [], M1)) (o := []) rfl trivial ?_
  have loop : ∀ (m z : Nat) (N : Mm), (mn 99 (400 - σ 90) + 1) - z = m → z ≤ (mn 99 (400 - σ 90) + 1) → (Rs f0 (N.1 116) (hK σ (z - 1))) → (Gx [22] g (N.1 114)) → (Fr [114, 116, 122] M N) → (∀ k, k < 88 → N.1 122 k = nI ((sft σ) k)) → (1 ≤ z) → (til (swP σ q) (mn 99 (400 - σ 90) + 1 - z) z = til (swP σ q) (mn 99 (400 - σ 90)) 1) → Wn (d + 7) 113 (PGL M f0 g [22] [114, 116, 122] σ (some (.int (oI (til (swP σ q) (mn 99 (400 - σ 90)) 1))))) (25, [(4, .int (nI z)), (3, .int (-1 : Int32)), (0, .ref 114), (1, .int (nI q)), (2, .int (nI 0))], [], N) := by
    intro m
    induction m using Nat.strongRecOn with
    | _ m ih =>
      intro z N hm hz loop_0 loop_1 loop_2 loop_3 loop_x0 loop_x1
      have ht9 := hK_90 c9_2 (z - 1)
      have hl2 := hK_lo c9_2 (k := 2) (by omega) (z - 1)
      have hV9 := Inv_hK hV (z - 1) (by omega)
      obtain ⟨τ, hτ⟩ : ∃ τ, hK σ (z - 1) = τ := ⟨_, rfl⟩
      rw [hτ] at loop_0 ht9 hV9 hl2
      have hB := hV9.1
      have k90 := Bd_90 hB
      have ez : z = (z - 1) + 1 := by omega
      obtain ⟨g9, hg9⟩ : ∃ g9, N.1 114 = g9 := ⟨_, rfl⟩
      have hx9 := loop_1
      rw [hg9] at hx9
      refine Wn.run (tab := tb_m_hoursTill) rfl 3 (c' := (if (nI 99) < (nI z) then 88 else 32, [(4, .int (nI z)), (3, .int (-1 : Int32)), (0, .ref 114), (1, .int (nI q)), (2, .int (nI 0))], [], N)) (o := []) rfl trivial ?_
      refine Wn.br (fun h1 => ?_) (fun h1 => ?_)
      · show Wn _ 113 _ (88, [(4, .int (nI z)), (3, .int (-1 : Int32)), (0, .ref 114), (1, .int (nI q)), (2, .int (nI 0))], [], N)
        have h1 := (n_lt rfl rfl (by omega) (by omega)).mp h1
        refine Wn.run (tab := tb_m_hoursTill) rfl 1 (c' := (89, [(4, .int (nI z)), (3, .int (-1 : Int32)), (0, .ref 114), (1, .int (nI q)), (2, .int (nI 0))], [.ref 114], N)) (o := []) rfl trivial ?_
        refine Wn.callV (p := 114) (n := 1) (ix := 350) (ci := (10)) (PB N f0 (mrg τ σ)) [] [] rfl rfl rfl rfl (Nat.le_of_ble_eq_true rfl) (Nat.le_of_ble_eq_true rfl) (c_m_back _ N f0 τ σ loop_0 loop_3) ?_
        rintro _ M7 ⟨rfl, hR8, hF9⟩
        show Wn _ 113 _ (92, [(4, .int (nI z)), (3, .int (-1 : Int32)), (0, .ref 114), (1, .int (nI q)), (2, .int (nI 0))], [], M7)
        have hk10 := frI_fun hF9 (by decide) hg9
        have hF11 := fr_tr loop_2 hF9 (by decide)
        have hk12 := fr_row hF9 (by decide) loop_3
        refine Wn.run (tab := tb_m_hoursTill) rfl 1 (c' := (93, [(4, .int (nI z)), (3, .int (-1 : Int32)), (0, .ref 114), (1, .int (nI q)), (2, .int (nI 0))], [.int (-1 : Int32)], M7)) (o := []) rfl trivial ?_
        have e9 : til (swP σ q) (mn 99 (400 - σ 90)) 1 = none := til_0 loop_x1 (by omega)
        have hT9 : τ = hK σ (z - 1) := hτ.symm
        have hR9 := hR8
        rw [hT9] at hR9
        rw [e9]
        exact Wn.iret rfl ⟨rfl, Rs_back c9_2 (z - 1) hR9, (by rw [hk10]; exact hx9), hF11⟩
      · show Wn _ 113 _ (32, [(4, .int (nI z)), (3, .int (-1 : Int32)), (0, .ref 114), (1, .int (nI q)), (2, .int (nI 0))], [], N)
        have h1 := mt (n_lt rfl rfl (by omega) (by omega)).mpr h1
        refine Wn.run (tab := tb_m_hoursTill) rfl 6 (c' := (if (nI 400) ≤ (N.1 116 90) then 88 else 45, [(4, .int (nI z)), (3, .int (-1 : Int32)), (0, .ref 114), (1, .int (nI q)), (2, .int (nI 0))], [], N)) (o := [shp 114 = (0, 10), aok shp 116 0 (nI 90)]) rfl ⟨rfl, ⟨rfl, vp_in_nI (by decide) (by decide)⟩⟩ ?_
        refine Wn.br (fun h2 => ?_) (fun h2 => ?_)
        · show Wn _ 113 _ (88, [(4, .int (nI z)), (3, .int (-1 : Int32)), (0, .ref 114), (1, .int (nI q)), (2, .int (nI 0))], [], N)
          have c9_90 := Bd_90 hB
          have h2 := (n_le rfl (rd0 loop_0.1 (by omega)) (by omega) (by omega)).mp h2
          refine Wn.run (tab := tb_m_hoursTill) rfl 1 (c' := (89, [(4, .int (nI z)), (3, .int (-1 : Int32)), (0, .ref 114), (1, .int (nI q)), (2, .int (nI 0))], [.ref 114], N)) (o := []) rfl trivial ?_
          refine Wn.callV (p := 114) (n := 1) (ix := 350) (ci := (10)) (PB N f0 (mrg τ σ)) [] [] rfl rfl rfl rfl (Nat.le_of_ble_eq_true rfl) (Nat.le_of_ble_eq_true rfl) (c_m_back _ N f0 τ σ loop_0 loop_3) ?_
          rintro _ M13 ⟨rfl, hR14, hF15⟩
          show Wn _ 113 _ (92, [(4, .int (nI z)), (3, .int (-1 : Int32)), (0, .ref 114), (1, .int (nI q)), (2, .int (nI 0))], [], M13)
          have hk16 := frI_fun hF15 (by decide) hg9
          have hF17 := fr_tr loop_2 hF15 (by decide)
          have hk18 := fr_row hF15 (by decide) loop_3
          refine Wn.run (tab := tb_m_hoursTill) rfl 1 (c' := (93, [(4, .int (nI z)), (3, .int (-1 : Int32)), (0, .ref 114), (1, .int (nI q)), (2, .int (nI 0))], [.int (-1 : Int32)], M13)) (o := []) rfl trivial ?_
          have e9 : til (swP σ q) (mn 99 (400 - σ 90)) 1 = none := til_0 loop_x1 (by omega)
          have hT9 : τ = hK σ (z - 1) := hτ.symm
          have hR9 := hR14
          rw [hT9] at hR9
          rw [e9]
          exact Wn.iret rfl ⟨rfl, Rs_back c9_2 (z - 1) hR9, (by rw [hk16]; exact hx9), hF17⟩
        · show Wn _ 113 _ (45, [(4, .int (nI z)), (3, .int (-1 : Int32)), (0, .ref 114), (1, .int (nI q)), (2, .int (nI 0))], [], N)
          have c9_90 := Bd_90 hB
          have h2 := mt (n_le rfl (rd0 loop_0.1 (by omega)) (by omega) (by omega)).mpr h2
          refine Wn.run (tab := tb_m_hoursTill) rfl 2 (c' := (if 0 ≤ (-1 : Int32) then 88 else 49, [(4, .int (nI z)), (3, .int (-1 : Int32)), (0, .ref 114), (1, .int (nI q)), (2, .int (nI 0))], [], N)) (o := []) rfl trivial ?_
          rw [if_neg (show ¬ (0 ≤ (-1 : Int32)) by decide)]
          show Wn _ 113 _ (49, [(4, .int (nI z)), (3, .int (-1 : Int32)), (0, .ref 114), (1, .int (nI q)), (2, .int (nI 0))], [], N)
          refine Wn.run (tab := tb_m_hoursTill) rfl 1 (c' := (50, [(4, .int (nI z)), (3, .int (-1 : Int32)), (0, .ref 114), (1, .int (nI q)), (2, .int (nI 0))], [.ref 114], N)) (o := []) rfl trivial ?_
          refine Wn.callV (p := 114) (n := 1) (ix := 318) (ci := (10)) (PM N f0 (upd g9 22 (nI (swN τ (τ 2)))) (hour τ) none) [] [] rfl rfl rfl rfl (Nat.le_of_ble_eq_true rfl) (Nat.le_of_ble_eq_true rfl) (c_m_hour _ N f0 g9 τ loop_0 hB hg9 (by omega)) ?_
          rintro _ M19 ⟨rfl, hR20, hg21, hF22⟩
          show Wn _ 113 _ (53, [(4, .int (nI z)), (3, .int (-1 : Int32)), (0, .ref 114), (1, .int (nI q)), (2, .int (nI 0))], [], M19)
          have hF23 := fr_tr loop_2 hF22 (by decide)
          have hk24 := fr_row hF22 (by decide) loop_3
          refine Wn.run (tab := tb_m_hoursTill) rfl 2 (c' := (if (nI 0) = 0 then 68 else 57, [(4, .int (nI z)), (3, .int (-1 : Int32)), (0, .ref 114), (1, .int (nI q)), (2, .int (nI 0))], [], M19)) (o := []) rfl trivial ?_
          rw [if_pos (show (nI 0) = 0 by decide)]
          show Wn _ 113 _ (68, [(4, .int (nI z)), (3, .int (-1 : Int32)), (0, .ref 114), (1, .int (nI q)), (2, .int (nI 0))], [], M19)
          refine Wn.run (tab := tb_m_hoursTill) rfl 3 (c' := (73, [(4, .int (nI z)), (3, .int (-1 : Int32)), (0, .ref 114), (1, .int (nI q)), (2, .int (nI 0))], [.int (nI q), .int (M19.1 114 22)], M19)) (o := [shp 114 = (0, 10)]) rfl rfl ?_
          rw [show (M19.1 114 22) = (nI (swN τ (τ 2))) from (fr_eq hg21 (show (upd g9 22 (nI (swN τ (τ 2)))) 22 = (nI (swN τ (τ 2))) from pk_us))]
          refine Wn.callS (n := 2) (ix := 216) (fun r0 M0 => r0 = some (.int (b2 ((swN τ (τ 2)).testBit q = true))) ∧ M19 = M0) [.int (nI (swN τ (τ 2))), .int (nI q)] [] rfl rfl rfl (Nat.le_of_ble_eq_true rfl) (Nat.le_of_ble_eq_true rfl) (w_m_bitN _ (swN τ (τ 2)) q (Nat.lt_of_lt_of_le (swN_lt τ _) (Nat.pow_le_pow_right (by decide) (by omega : τ 2 ≤ 6))) (by omega) M19 _ ⟨rfl, rfl⟩) ?_
          rintro _ _ ⟨rfl, rfl⟩
          show Wn _ 113 _ (76, [(4, .int (nI z)), (3, .int (-1 : Int32)), (0, .ref 114), (1, .int (nI q)), (2, .int (nI 0))], [.int (b2 ((swN τ (τ 2)).testBit q = true))], M19)
          refine Wn.run (tab := tb_m_hoursTill) rfl 1 (c' := (if (b2 ((swN τ (τ 2)).testBit q = true)) = 0 then 82 else 79, [(4, .int (nI z)), (3, .int (-1 : Int32)), (0, .ref 114), (1, .int (nI q)), (2, .int (nI 0))], [], M19)) (o := []) rfl trivial ?_
          refine Wn.br (fun h3 => ?_) (fun h3 => ?_)
          · show Wn _ 113 _ (82, [(4, .int (nI z)), (3, .int (-1 : Int32)), (0, .ref 114), (1, .int (nI q)), (2, .int (nI 0))], [], M19)
            have h3 := b2_neg h3
            refine Wn.run (tab := tb_m_hoursTill) rfl 2 (c' := (25, [(4, .int ((nI z) + (nI 1))), (3, .int (-1 : Int32)), (0, .ref 114), (1, .int (nI q)), (2, .int (nI 0))], [], M19)) (o := []) rfl trivial ?_
            rw [show ((nI z) + (nI 1)) = (nI (z + 1)) from (n_add rfl rfl)]
            have hP9 : ¬ (swP σ q) z = true := by
              unfold swP; rw [hτ]; exact h3
            exact ih ((mn 99 (400 - σ 90) + 1) - (z + 1)) (by omega) (z + 1) M19 rfl (by omega) (show Rs f0 (M19.1 116) (hK σ (z + 1 - 1)) by rw [show z + 1 - 1 = (z - 1) + 1 by omega]; show Rs f0 _ (hour (hK σ (z - 1))); rw [hτ]; exact hR20) (by rw [hg21]; exact (Gx_up hx9 (by decide))) hF23 hk24 (by omega) (til_n loop_x1 (by omega) hP9)
          · show Wn _ 113 _ (79, [(4, .int (nI z)), (3, .int (-1 : Int32)), (0, .ref 114), (1, .int (nI q)), (2, .int (nI 0))], [], M19)
            have h3 := b2_pos h3
            refine Wn.run (tab := tb_m_hoursTill) rfl 4 (c' := (25, [(4, .int ((nI z) + (nI 1))), (3, .int (nI z)), (0, .ref 114), (1, .int (nI q)), (2, .int (nI 0))], [], M19)) (o := []) rfl trivial ?_
            rw [show ((nI z) + (nI 1)) = (nI (z + 1)) from (n_add rfl rfl)]
            have hP9 : (swP σ q) z = true := by
              unfold swP; rw [hτ]; exact h3
            have h90h := hour_90 (σ := τ) (by omega)
            refine Wn.run (tab := tb_m_hoursTill) rfl 3 (c' := (if (nI 99) < (nI (z + 1)) then 88 else 32, [(4, .int (nI (z + 1))), (3, .int (nI z)), (0, .ref 114), (1, .int (nI q)), (2, .int (nI 0))], [], M19)) (o := []) rfl trivial ?_
            refine Wn.br (fun h4 => ?_) (fun h4 => ?_)
            · show Wn _ 113 _ (88, [(4, .int (nI (z + 1))), (3, .int (nI z)), (0, .ref 114), (1, .int (nI q)), (2, .int (nI 0))], [], M19)
              have h4 := (n_lt rfl rfl (by omega) (by omega)).mp h4
              refine Wn.run (tab := tb_m_hoursTill) rfl 1 (c' := (89, [(4, .int (nI (z + 1))), (3, .int (nI z)), (0, .ref 114), (1, .int (nI q)), (2, .int (nI 0))], [.ref 114], M19)) (o := []) rfl trivial ?_
              refine Wn.callV (p := 114) (n := 1) (ix := 350) (ci := (10)) (PB M19 f0 (mrg (hour τ) σ)) [] [] rfl rfl rfl rfl (Nat.le_of_ble_eq_true rfl) (Nat.le_of_ble_eq_true rfl) (c_m_back _ M19 f0 (hour τ) σ hR20 hk24) ?_
              rintro _ M25 ⟨rfl, hR26, hF27⟩
              show Wn _ 113 _ (92, [(4, .int (nI (z + 1))), (3, .int (nI z)), (0, .ref 114), (1, .int (nI q)), (2, .int (nI 0))], [], M25)
              have hk28 := frI_fun hF27 (by decide) hg21
              have hF29 := fr_tr hF23 hF27 (by decide)
              have hk30 := fr_row hF27 (by decide) hk24
              refine Wn.run (tab := tb_m_hoursTill) rfl 1 (c' := (93, [(4, .int (nI (z + 1))), (3, .int (nI z)), (0, .ref 114), (1, .int (nI q)), (2, .int (nI 0))], [.int (nI z)], M25)) (o := []) rfl trivial ?_
              have e9 : til (swP σ q) (mn 99 (400 - σ 90)) 1 = some z := til_y loop_x1 (by omega) hP9
              have hT9 : hour τ = hK σ z := by rw [← hτ, ez]; rfl
              have hR9 := hR26
              rw [hT9] at hR9
              rw [e9]
              exact Wn.iret rfl ⟨rfl, Rs_back c9_2 z hR9, (by rw [hk28]; exact (Gx_up hx9 (by decide))), hF29⟩
            · show Wn _ 113 _ (32, [(4, .int (nI (z + 1))), (3, .int (nI z)), (0, .ref 114), (1, .int (nI q)), (2, .int (nI 0))], [], M19)
              have h4 := mt (n_lt rfl rfl (by omega) (by omega)).mpr h4
              refine Wn.run (tab := tb_m_hoursTill) rfl 6 (c' := (if (nI 400) ≤ (M19.1 116 90) then 88 else 45, [(4, .int (nI (z + 1))), (3, .int (nI z)), (0, .ref 114), (1, .int (nI q)), (2, .int (nI 0))], [], M19)) (o := [shp 114 = (0, 10), aok shp 116 0 (nI 90)]) rfl ⟨rfl, ⟨rfl, vp_in_nI (by decide) (by decide)⟩⟩ ?_
              refine Wn.br (fun h5 => ?_) (fun h5 => ?_)
              · show Wn _ 113 _ (88, [(4, .int (nI (z + 1))), (3, .int (nI z)), (0, .ref 114), (1, .int (nI q)), (2, .int (nI 0))], [], M19)
                have h5 := (n_le rfl (rd0 hR20.1 (by omega)) (by omega) (by omega)).mp h5
                refine Wn.run (tab := tb_m_hoursTill) rfl 1 (c' := (89, [(4, .int (nI (z + 1))), (3, .int (nI z)), (0, .ref 114), (1, .int (nI q)), (2, .int (nI 0))], [.ref 114], M19)) (o := []) rfl trivial ?_
                refine Wn.callV (p := 114) (n := 1) (ix := 350) (ci := (10)) (PB M19 f0 (mrg (hour τ) σ)) [] [] rfl rfl rfl rfl (Nat.le_of_ble_eq_true rfl) (Nat.le_of_ble_eq_true rfl) (c_m_back _ M19 f0 (hour τ) σ hR20 hk24) ?_
                rintro _ M31 ⟨rfl, hR32, hF33⟩
                show Wn _ 113 _ (92, [(4, .int (nI (z + 1))), (3, .int (nI z)), (0, .ref 114), (1, .int (nI q)), (2, .int (nI 0))], [], M31)
                have hk34 := frI_fun hF33 (by decide) hg21
                have hF35 := fr_tr hF23 hF33 (by decide)
                have hk36 := fr_row hF33 (by decide) hk24
                refine Wn.run (tab := tb_m_hoursTill) rfl 1 (c' := (93, [(4, .int (nI (z + 1))), (3, .int (nI z)), (0, .ref 114), (1, .int (nI q)), (2, .int (nI 0))], [.int (nI z)], M31)) (o := []) rfl trivial ?_
                have e9 : til (swP σ q) (mn 99 (400 - σ 90)) 1 = some z := til_y loop_x1 (by omega) hP9
                have hT9 : hour τ = hK σ z := by rw [← hτ, ez]; rfl
                have hR9 := hR32
                rw [hT9] at hR9
                rw [e9]
                exact Wn.iret rfl ⟨rfl, Rs_back c9_2 z hR9, (by rw [hk34]; exact (Gx_up hx9 (by decide))), hF35⟩
              · show Wn _ 113 _ (45, [(4, .int (nI (z + 1))), (3, .int (nI z)), (0, .ref 114), (1, .int (nI q)), (2, .int (nI 0))], [], M19)
                have h5 := mt (n_le rfl (rd0 hR20.1 (by omega)) (by omega) (by omega)).mpr h5
                refine Wn.run (tab := tb_m_hoursTill) rfl 2 (c' := (if 0 ≤ (nI z) then 88 else 49, [(4, .int (nI (z + 1))), (3, .int (nI z)), (0, .ref 114), (1, .int (nI q)), (2, .int (nI 0))], [], M19)) (o := []) rfl trivial ?_
                rw [if_pos (nI_ge0 (by omega))]
                show Wn _ 113 _ (88, [(4, .int (nI (z + 1))), (3, .int (nI z)), (0, .ref 114), (1, .int (nI q)), (2, .int (nI 0))], [], M19)
                refine Wn.run (tab := tb_m_hoursTill) rfl 1 (c' := (89, [(4, .int (nI (z + 1))), (3, .int (nI z)), (0, .ref 114), (1, .int (nI q)), (2, .int (nI 0))], [.ref 114], M19)) (o := []) rfl trivial ?_
                refine Wn.callV (p := 114) (n := 1) (ix := 350) (ci := (10)) (PB M19 f0 (mrg (hour τ) σ)) [] [] rfl rfl rfl rfl (Nat.le_of_ble_eq_true rfl) (Nat.le_of_ble_eq_true rfl) (c_m_back _ M19 f0 (hour τ) σ hR20 hk24) ?_
                rintro _ M37 ⟨rfl, hR38, hF39⟩
                show Wn _ 113 _ (92, [(4, .int (nI (z + 1))), (3, .int (nI z)), (0, .ref 114), (1, .int (nI q)), (2, .int (nI 0))], [], M37)
                have hk40 := frI_fun hF39 (by decide) hg21
                have hF41 := fr_tr hF23 hF39 (by decide)
                have hk42 := fr_row hF39 (by decide) hk24
                refine Wn.run (tab := tb_m_hoursTill) rfl 1 (c' := (93, [(4, .int (nI (z + 1))), (3, .int (nI z)), (0, .ref 114), (1, .int (nI q)), (2, .int (nI 0))], [.int (nI z)], M37)) (o := []) rfl trivial ?_
                have e9 : til (swP σ q) (mn 99 (400 - σ 90)) 1 = some z := til_y loop_x1 (by omega) hP9
                have hT9 : hour τ = hK σ z := by rw [← hτ, ez]; rfl
                have hR9 := hR38
                rw [hT9] at hR9
                rw [e9]
                exact Wn.iret rfl ⟨rfl, Rs_back c9_2 z hR9, (by rw [hk40]; exact (Gx_up hx9 (by decide))), hF41⟩
  exact loop ((mn 99 (400 - σ 90) + 1) - 1) 1 M1 rfl (by omega) hk4 (by rw [hk5]; exact Gx_rf _ _) hF6 hb2 (Nat.le_refl _) rfl
set_option maxRecDepth 20000 in
theorem c_m_tillF (d : Nat) (M : Mm) (f0 g : Nat → Int32) (σ : Nat → Nat) (hR : Rs f0 (M.1 116) σ) (hV : Inv σ) (hg : M.1 114 = g) (q : Nat) (hq : q < σ 2) : Wn (d + 7) 113 (PGL M f0 g [22] [114, 116, 122] σ (some (.int (if fal σ q = true then nI 0 else (oI (til (faP σ q) (mn 99 (400 - σ 90)) 1)))))) (0, lv_args 0 [.ref 114, .int (nI q), .int (nI 1)], [], M) := by
  have hF := fr_rf [114, 116, 122] M
  have hB := hV.1
  have c9_2 := Bd_2 hB
  have k90 := Bd_90 hV.1
  have m9 := mn_le 99 (400 - σ 90)
  have m8 := mn_or 99 (400 - σ 90)
  refine Wn.run (tab := tb_m_hoursTill) rfl 1 (c' := (1, [(0, .ref 114), (1, .int (nI q)), (2, .int (nI 1))], [.ref 114], M)) (o := []) rfl trivial ?_
  refine Wn.callV (p := 114) (n := 1) (ix := 347) (ci := (10)) (PT M σ) [] [] rfl rfl rfl rfl (Nat.le_of_ble_eq_true rfl) (Nat.le_of_ble_eq_true rfl) (c_m_tries _ M f0 σ hR) ?_
  rintro _ M1 ⟨rfl, hb2, hF3⟩
  show Wn _ 113 _ (4, [(0, .ref 114), (1, .int (nI q)), (2, .int (nI 1))], [], M1)
  have hk4 := fr_rs hF3 (by decide) hR
  have hk5 := frI_fun hF3 (by decide) hg
  have hF6 := fr_tr hF hF3 (by decide)
  refine Wn.run (tab := tb_m_hoursTill) rfl 2 (c' := (if (nI 1) = 0 then 20 else 8, [(0, .ref 114), (1, .int (nI q)), (2, .int (nI 1))], [], M1)) (o := []) rfl trivial ?_
  rw [if_neg (show ¬ ((nI 1) = 0) by decide)]
  show Wn _ 113 _ (8, [(0, .ref 114), (1, .int (nI q)), (2, .int (nI 1))], [], M1)
  refine Wn.run (tab := tb_m_hoursTill) rfl 2 (c' := (10, [(0, .ref 114), (1, .int (nI q)), (2, .int (nI 1))], [.int (nI q), .ref 114], M1)) (o := []) rfl trivial ?_
  refine Wn.callV (p := 114) (n := 2) (ix := 260) (ci := (10)) (fun r0 M0 => r0 = some (.int (b2 (fal σ q = true))) ∧ M1 = M0) [.int (nI q)] [] rfl rfl rfl rfl (Nat.le_of_ble_eq_true rfl) (Nat.le_of_ble_eq_true rfl) (w_m_hasFallen _ q (by omega) M1 σ ⟨hk4.1, hB⟩ _ ⟨rfl, rfl⟩) ?_
  rintro _ _ ⟨rfl, rfl⟩
  show Wn _ 113 _ (13, [(0, .ref 114), (1, .int (nI q)), (2, .int (nI 1))], [.int (b2 (fal σ q = true))], M1)
  refine Wn.run (tab := tb_m_hoursTill) rfl 1 (c' := (if (b2 (fal σ q = true)) = 0 then 20 else 16, [(0, .ref 114), (1, .int (nI q)), (2, .int (nI 1))], [], M1)) (o := []) rfl trivial ?_
  refine Wn.br (fun h1 => ?_) (fun h1 => ?_)
  · show Wn _ 113 _ (20, [(0, .ref 114), (1, .int (nI q)), (2, .int (nI 1))], [], M1)
    have h1 := b2_neg h1
    refine Wn.run (tab := tb_m_hoursTill) rfl 4 (c' := (25, [(4, .int (nI 1)), (3, .int (-1 : Int32)), (0, .ref 114), (1, .int (nI q)), (2, .int (nI 1))], [], M1)) (o := []) rfl trivial ?_
    have hnf := h1
    have loop : ∀ (m z : Nat) (N : Mm), (mn 99 (400 - σ 90) + 1) - z = m → z ≤ (mn 99 (400 - σ 90) + 1) → (Rs f0 (N.1 116) (hK σ (z - 1))) → (Gx [22] g (N.1 114)) → (Fr [114, 116, 122] M N) → (∀ k, k < 88 → N.1 122 k = nI ((sft σ) k)) → (1 ≤ z) → (til (faP σ q) (mn 99 (400 - σ 90) + 1 - z) z = til (faP σ q) (mn 99 (400 - σ 90)) 1) → Wn (d + 7) 113 (PGL M f0 g [22] [114, 116, 122] σ (some (.int (if fal σ q = true then nI 0 else (oI (til (faP σ q) (mn 99 (400 - σ 90)) 1)))))) (25, [(4, .int (nI z)), (3, .int (-1 : Int32)), (0, .ref 114), (1, .int (nI q)), (2, .int (nI 1))], [], N) := by
      intro m
      induction m using Nat.strongRecOn with
      | _ m ih =>
        intro z N hm hz loop_0 loop_1 loop_2 loop_3 loop_x0 loop_x1
        have ht9 := hK_90 c9_2 (z - 1)
        have hl2 := hK_lo c9_2 (k := 2) (by omega) (z - 1)
        have hV9 := Inv_hK hV (z - 1) (by omega)
        obtain ⟨τ, hτ⟩ : ∃ τ, hK σ (z - 1) = τ := ⟨_, rfl⟩
        rw [hτ] at loop_0 ht9 hV9 hl2
        have hB := hV9.1
        have k90 := Bd_90 hB
        have ez : z = (z - 1) + 1 := by omega
        obtain ⟨g9, hg9⟩ : ∃ g9, N.1 114 = g9 := ⟨_, rfl⟩
        have hx9 := loop_1
        rw [hg9] at hx9
        refine Wn.run (tab := tb_m_hoursTill) rfl 3 (c' := (if (nI 99) < (nI z) then 88 else 32, [(4, .int (nI z)), (3, .int (-1 : Int32)), (0, .ref 114), (1, .int (nI q)), (2, .int (nI 1))], [], N)) (o := []) rfl trivial ?_
        refine Wn.br (fun h2 => ?_) (fun h2 => ?_)
        · show Wn _ 113 _ (88, [(4, .int (nI z)), (3, .int (-1 : Int32)), (0, .ref 114), (1, .int (nI q)), (2, .int (nI 1))], [], N)
          have h2 := (n_lt rfl rfl (by omega) (by omega)).mp h2
          refine Wn.run (tab := tb_m_hoursTill) rfl 1 (c' := (89, [(4, .int (nI z)), (3, .int (-1 : Int32)), (0, .ref 114), (1, .int (nI q)), (2, .int (nI 1))], [.ref 114], N)) (o := []) rfl trivial ?_
          refine Wn.callV (p := 114) (n := 1) (ix := 350) (ci := (10)) (PB N f0 (mrg τ σ)) [] [] rfl rfl rfl rfl (Nat.le_of_ble_eq_true rfl) (Nat.le_of_ble_eq_true rfl) (c_m_back _ N f0 τ σ loop_0 loop_3) ?_
          rintro _ M7 ⟨rfl, hR8, hF9⟩
          show Wn _ 113 _ (92, [(4, .int (nI z)), (3, .int (-1 : Int32)), (0, .ref 114), (1, .int (nI q)), (2, .int (nI 1))], [], M7)
          have hk10 := frI_fun hF9 (by decide) hg9
          have hF11 := fr_tr loop_2 hF9 (by decide)
          have hk12 := fr_row hF9 (by decide) loop_3
          refine Wn.run (tab := tb_m_hoursTill) rfl 1 (c' := (93, [(4, .int (nI z)), (3, .int (-1 : Int32)), (0, .ref 114), (1, .int (nI q)), (2, .int (nI 1))], [.int (-1 : Int32)], M7)) (o := []) rfl trivial ?_
          have e9 : til (faP σ q) (mn 99 (400 - σ 90)) 1 = none := til_0 loop_x1 (by omega)
          have hT9 : τ = hK σ (z - 1) := hτ.symm
          have hR9 := hR8
          rw [hT9] at hR9
          rw [if_neg hnf, e9]
          exact Wn.iret rfl ⟨rfl, Rs_back c9_2 (z - 1) hR9, (by rw [hk10]; exact hx9), hF11⟩
        · show Wn _ 113 _ (32, [(4, .int (nI z)), (3, .int (-1 : Int32)), (0, .ref 114), (1, .int (nI q)), (2, .int (nI 1))], [], N)
          have h2 := mt (n_lt rfl rfl (by omega) (by omega)).mpr h2
          refine Wn.run (tab := tb_m_hoursTill) rfl 6 (c' := (if (nI 400) ≤ (N.1 116 90) then 88 else 45, [(4, .int (nI z)), (3, .int (-1 : Int32)), (0, .ref 114), (1, .int (nI q)), (2, .int (nI 1))], [], N)) (o := [shp 114 = (0, 10), aok shp 116 0 (nI 90)]) rfl ⟨rfl, ⟨rfl, vp_in_nI (by decide) (by decide)⟩⟩ ?_
          refine Wn.br (fun h3 => ?_) (fun h3 => ?_)
          · show Wn _ 113 _ (88, [(4, .int (nI z)), (3, .int (-1 : Int32)), (0, .ref 114), (1, .int (nI q)), (2, .int (nI 1))], [], N)
            have c9_90 := Bd_90 hB
            have h3 := (n_le rfl (rd0 loop_0.1 (by omega)) (by omega) (by omega)).mp h3
            refine Wn.run (tab := tb_m_hoursTill) rfl 1 (c' := (89, [(4, .int (nI z)), (3, .int (-1 : Int32)), (0, .ref 114), (1, .int (nI q)), (2, .int (nI 1))], [.ref 114], N)) (o := []) rfl trivial ?_
            refine Wn.callV (p := 114) (n := 1) (ix := 350) (ci := (10)) (PB N f0 (mrg τ σ)) [] [] rfl rfl rfl rfl (Nat.le_of_ble_eq_true rfl) (Nat.le_of_ble_eq_true rfl) (c_m_back _ N f0 τ σ loop_0 loop_3) ?_
            rintro _ M13 ⟨rfl, hR14, hF15⟩
            show Wn _ 113 _ (92, [(4, .int (nI z)), (3, .int (-1 : Int32)), (0, .ref 114), (1, .int (nI q)), (2, .int (nI 1))], [], M13)
            have hk16 := frI_fun hF15 (by decide) hg9
            have hF17 := fr_tr loop_2 hF15 (by decide)
            have hk18 := fr_row hF15 (by decide) loop_3
            refine Wn.run (tab := tb_m_hoursTill) rfl 1 (c' := (93, [(4, .int (nI z)), (3, .int (-1 : Int32)), (0, .ref 114), (1, .int (nI q)), (2, .int (nI 1))], [.int (-1 : Int32)], M13)) (o := []) rfl trivial ?_
            have e9 : til (faP σ q) (mn 99 (400 - σ 90)) 1 = none := til_0 loop_x1 (by omega)
            have hT9 : τ = hK σ (z - 1) := hτ.symm
            have hR9 := hR14
            rw [hT9] at hR9
            rw [if_neg hnf, e9]
            exact Wn.iret rfl ⟨rfl, Rs_back c9_2 (z - 1) hR9, (by rw [hk16]; exact hx9), hF17⟩
          · show Wn _ 113 _ (45, [(4, .int (nI z)), (3, .int (-1 : Int32)), (0, .ref 114), (1, .int (nI q)), (2, .int (nI 1))], [], N)
            have c9_90 := Bd_90 hB
            have h3 := mt (n_le rfl (rd0 loop_0.1 (by omega)) (by omega) (by omega)).mpr h3
            refine Wn.run (tab := tb_m_hoursTill) rfl 2 (c' := (if 0 ≤ (-1 : Int32) then 88 else 49, [(4, .int (nI z)), (3, .int (-1 : Int32)), (0, .ref 114), (1, .int (nI q)), (2, .int (nI 1))], [], N)) (o := []) rfl trivial ?_
            rw [if_neg (show ¬ (0 ≤ (-1 : Int32)) by decide)]
            show Wn _ 113 _ (49, [(4, .int (nI z)), (3, .int (-1 : Int32)), (0, .ref 114), (1, .int (nI q)), (2, .int (nI 1))], [], N)
            refine Wn.run (tab := tb_m_hoursTill) rfl 1 (c' := (50, [(4, .int (nI z)), (3, .int (-1 : Int32)), (0, .ref 114), (1, .int (nI q)), (2, .int (nI 1))], [.ref 114], N)) (o := []) rfl trivial ?_
            refine Wn.callV (p := 114) (n := 1) (ix := 318) (ci := (10)) (PM N f0 (upd g9 22 (nI (swN τ (τ 2)))) (hour τ) none) [] [] rfl rfl rfl rfl (Nat.le_of_ble_eq_true rfl) (Nat.le_of_ble_eq_true rfl) (c_m_hour _ N f0 g9 τ loop_0 hB hg9 (by omega)) ?_
            rintro _ M19 ⟨rfl, hR20, hg21, hF22⟩
            show Wn _ 113 _ (53, [(4, .int (nI z)), (3, .int (-1 : Int32)), (0, .ref 114), (1, .int (nI q)), (2, .int (nI 1))], [], M19)
            have hF23 := fr_tr loop_2 hF22 (by decide)
            have hk24 := fr_row hF22 (by decide) loop_3
            refine Wn.run (tab := tb_m_hoursTill) rfl 2 (c' := (if (nI 1) = 0 then 68 else 57, [(4, .int (nI z)), (3, .int (-1 : Int32)), (0, .ref 114), (1, .int (nI q)), (2, .int (nI 1))], [], M19)) (o := []) rfl trivial ?_
            rw [if_neg (show ¬ ((nI 1) = 0) by decide)]
            show Wn _ 113 _ (57, [(4, .int (nI z)), (3, .int (-1 : Int32)), (0, .ref 114), (1, .int (nI q)), (2, .int (nI 1))], [], M19)
            refine Wn.run (tab := tb_m_hoursTill) rfl 2 (c' := (59, [(4, .int (nI z)), (3, .int (-1 : Int32)), (0, .ref 114), (1, .int (nI q)), (2, .int (nI 1))], [.int (nI q), .ref 114], M19)) (o := []) rfl trivial ?_
            refine Wn.callV (p := 114) (n := 2) (ix := 260) (ci := (10)) (fun r0 M0 => r0 = some (.int (b2 (fal (hour τ) q = true))) ∧ M19 = M0) [.int (nI q)] [] rfl rfl rfl rfl (Nat.le_of_ble_eq_true rfl) (Nat.le_of_ble_eq_true rfl) (w_m_hasFallen _ q (by omega) M19 (hour τ) ⟨hR20.1, (Inv_hour hV9 (by omega)).1⟩ _ ⟨rfl, rfl⟩) ?_
            rintro _ _ ⟨rfl, rfl⟩
            show Wn _ 113 _ (62, [(4, .int (nI z)), (3, .int (-1 : Int32)), (0, .ref 114), (1, .int (nI q)), (2, .int (nI 1))], [.int (b2 (fal (hour τ) q = true))], M19)
            refine Wn.run (tab := tb_m_hoursTill) rfl 1 (c' := (if (b2 (fal (hour τ) q = true)) = 0 then 82 else 65, [(4, .int (nI z)), (3, .int (-1 : Int32)), (0, .ref 114), (1, .int (nI q)), (2, .int (nI 1))], [], M19)) (o := []) rfl trivial ?_
            refine Wn.br (fun h4 => ?_) (fun h4 => ?_)
            · show Wn _ 113 _ (82, [(4, .int (nI z)), (3, .int (-1 : Int32)), (0, .ref 114), (1, .int (nI q)), (2, .int (nI 1))], [], M19)
              have h4 := b2_neg h4
              refine Wn.run (tab := tb_m_hoursTill) rfl 2 (c' := (25, [(4, .int ((nI z) + (nI 1))), (3, .int (-1 : Int32)), (0, .ref 114), (1, .int (nI q)), (2, .int (nI 1))], [], M19)) (o := []) rfl trivial ?_
              rw [show ((nI z) + (nI 1)) = (nI (z + 1)) from (n_add rfl rfl)]
              have hP9 : ¬ (faP σ q) z = true := by
                unfold faP; rw [ez]; show ¬ fal (hour (hK σ (z - 1))) q = true; rw [hτ]; exact h4
              exact ih ((mn 99 (400 - σ 90) + 1) - (z + 1)) (by omega) (z + 1) M19 rfl (by omega) (show Rs f0 (M19.1 116) (hK σ (z + 1 - 1)) by rw [show z + 1 - 1 = (z - 1) + 1 by omega]; show Rs f0 _ (hour (hK σ (z - 1))); rw [hτ]; exact hR20) (by rw [hg21]; exact (Gx_up hx9 (by decide))) hF23 hk24 (by omega) (til_n loop_x1 (by omega) hP9)
            · show Wn _ 113 _ (65, [(4, .int (nI z)), (3, .int (-1 : Int32)), (0, .ref 114), (1, .int (nI q)), (2, .int (nI 1))], [], M19)
              have h4 := b2_pos h4
              refine Wn.run (tab := tb_m_hoursTill) rfl 5 (c' := (25, [(4, .int ((nI z) + (nI 1))), (3, .int (nI z)), (0, .ref 114), (1, .int (nI q)), (2, .int (nI 1))], [], M19)) (o := []) rfl trivial ?_
              rw [show ((nI z) + (nI 1)) = (nI (z + 1)) from (n_add rfl rfl)]
              have hP9 : (faP σ q) z = true := by
                unfold faP; rw [ez]; show fal (hour (hK σ (z - 1))) q = true; rw [hτ]; exact h4
              have h90h := hour_90 (σ := τ) (by omega)
              refine Wn.run (tab := tb_m_hoursTill) rfl 3 (c' := (if (nI 99) < (nI (z + 1)) then 88 else 32, [(4, .int (nI (z + 1))), (3, .int (nI z)), (0, .ref 114), (1, .int (nI q)), (2, .int (nI 1))], [], M19)) (o := []) rfl trivial ?_
              refine Wn.br (fun h5 => ?_) (fun h5 => ?_)
              · show Wn _ 113 _ (88, [(4, .int (nI (z + 1))), (3, .int (nI z)), (0, .ref 114), (1, .int (nI q)), (2, .int (nI 1))], [], M19)
                have h5 := (n_lt rfl rfl (by omega) (by omega)).mp h5
                refine Wn.run (tab := tb_m_hoursTill) rfl 1 (c' := (89, [(4, .int (nI (z + 1))), (3, .int (nI z)), (0, .ref 114), (1, .int (nI q)), (2, .int (nI 1))], [.ref 114], M19)) (o := []) rfl trivial ?_
                refine Wn.callV (p := 114) (n := 1) (ix := 350) (ci := (10)) (PB M19 f0 (mrg (hour τ) σ)) [] [] rfl rfl rfl rfl (Nat.le_of_ble_eq_true rfl) (Nat.le_of_ble_eq_true rfl) (c_m_back _ M19 f0 (hour τ) σ hR20 hk24) ?_
                rintro _ M25 ⟨rfl, hR26, hF27⟩
                show Wn _ 113 _ (92, [(4, .int (nI (z + 1))), (3, .int (nI z)), (0, .ref 114), (1, .int (nI q)), (2, .int (nI 1))], [], M25)
                have hk28 := frI_fun hF27 (by decide) hg21
                have hF29 := fr_tr hF23 hF27 (by decide)
                have hk30 := fr_row hF27 (by decide) hk24
                refine Wn.run (tab := tb_m_hoursTill) rfl 1 (c' := (93, [(4, .int (nI (z + 1))), (3, .int (nI z)), (0, .ref 114), (1, .int (nI q)), (2, .int (nI 1))], [.int (nI z)], M25)) (o := []) rfl trivial ?_
                have e9 : til (faP σ q) (mn 99 (400 - σ 90)) 1 = some z := til_y loop_x1 (by omega) hP9
                have hT9 : hour τ = hK σ z := by rw [← hτ, ez]; rfl
                have hR9 := hR26
                rw [hT9] at hR9
                rw [if_neg hnf, e9]
                exact Wn.iret rfl ⟨rfl, Rs_back c9_2 z hR9, (by rw [hk28]; exact (Gx_up hx9 (by decide))), hF29⟩
              · show Wn _ 113 _ (32, [(4, .int (nI (z + 1))), (3, .int (nI z)), (0, .ref 114), (1, .int (nI q)), (2, .int (nI 1))], [], M19)
                have h5 := mt (n_lt rfl rfl (by omega) (by omega)).mpr h5
                refine Wn.run (tab := tb_m_hoursTill) rfl 6 (c' := (if (nI 400) ≤ (M19.1 116 90) then 88 else 45, [(4, .int (nI (z + 1))), (3, .int (nI z)), (0, .ref 114), (1, .int (nI q)), (2, .int (nI 1))], [], M19)) (o := [shp 114 = (0, 10), aok shp 116 0 (nI 90)]) rfl ⟨rfl, ⟨rfl, vp_in_nI (by decide) (by decide)⟩⟩ ?_
                refine Wn.br (fun h6 => ?_) (fun h6 => ?_)
                · show Wn _ 113 _ (88, [(4, .int (nI (z + 1))), (3, .int (nI z)), (0, .ref 114), (1, .int (nI q)), (2, .int (nI 1))], [], M19)
                  have h6 := (n_le rfl (rd0 hR20.1 (by omega)) (by omega) (by omega)).mp h6
                  refine Wn.run (tab := tb_m_hoursTill) rfl 1 (c' := (89, [(4, .int (nI (z + 1))), (3, .int (nI z)), (0, .ref 114), (1, .int (nI q)), (2, .int (nI 1))], [.ref 114], M19)) (o := []) rfl trivial ?_
                  refine Wn.callV (p := 114) (n := 1) (ix := 350) (ci := (10)) (PB M19 f0 (mrg (hour τ) σ)) [] [] rfl rfl rfl rfl (Nat.le_of_ble_eq_true rfl) (Nat.le_of_ble_eq_true rfl) (c_m_back _ M19 f0 (hour τ) σ hR20 hk24) ?_
                  rintro _ M31 ⟨rfl, hR32, hF33⟩
                  show Wn _ 113 _ (92, [(4, .int (nI (z + 1))), (3, .int (nI z)), (0, .ref 114), (1, .int (nI q)), (2, .int (nI 1))], [], M31)
                  have hk34 := frI_fun hF33 (by decide) hg21
                  have hF35 := fr_tr hF23 hF33 (by decide)
                  have hk36 := fr_row hF33 (by decide) hk24
                  refine Wn.run (tab := tb_m_hoursTill) rfl 1 (c' := (93, [(4, .int (nI (z + 1))), (3, .int (nI z)), (0, .ref 114), (1, .int (nI q)), (2, .int (nI 1))], [.int (nI z)], M31)) (o := []) rfl trivial ?_
                  have e9 : til (faP σ q) (mn 99 (400 - σ 90)) 1 = some z := til_y loop_x1 (by omega) hP9
                  have hT9 : hour τ = hK σ z := by rw [← hτ, ez]; rfl
                  have hR9 := hR32
                  rw [hT9] at hR9
                  rw [if_neg hnf, e9]
                  exact Wn.iret rfl ⟨rfl, Rs_back c9_2 z hR9, (by rw [hk34]; exact (Gx_up hx9 (by decide))), hF35⟩
                · show Wn _ 113 _ (45, [(4, .int (nI (z + 1))), (3, .int (nI z)), (0, .ref 114), (1, .int (nI q)), (2, .int (nI 1))], [], M19)
                  have h6 := mt (n_le rfl (rd0 hR20.1 (by omega)) (by omega) (by omega)).mpr h6
                  refine Wn.run (tab := tb_m_hoursTill) rfl 2 (c' := (if 0 ≤ (nI z) then 88 else 49, [(4, .int (nI (z + 1))), (3, .int (nI z)), (0, .ref 114), (1, .int (nI q)), (2, .int (nI 1))], [], M19)) (o := []) rfl trivial ?_
                  rw [if_pos (nI_ge0 (by omega))]
                  show Wn _ 113 _ (88, [(4, .int (nI (z + 1))), (3, .int (nI z)), (0, .ref 114), (1, .int (nI q)), (2, .int (nI 1))], [], M19)
                  refine Wn.run (tab := tb_m_hoursTill) rfl 1 (c' := (89, [(4, .int (nI (z + 1))), (3, .int (nI z)), (0, .ref 114), (1, .int (nI q)), (2, .int (nI 1))], [.ref 114], M19)) (o := []) rfl trivial ?_
                  refine Wn.callV (p := 114) (n := 1) (ix := 350) (ci := (10)) (PB M19 f0 (mrg (hour τ) σ)) [] [] rfl rfl rfl rfl (Nat.le_of_ble_eq_true rfl) (Nat.le_of_ble_eq_true rfl) (c_m_back _ M19 f0 (hour τ) σ hR20 hk24) ?_
                  rintro _ M37 ⟨rfl, hR38, hF39⟩
                  show Wn _ 113 _ (92, [(4, .int (nI (z + 1))), (3, .int (nI z)), (0, .ref 114), (1, .int (nI q)), (2, .int (nI 1))], [], M37)
                  have hk40 := frI_fun hF39 (by decide) hg21
                  have hF41 := fr_tr hF23 hF39 (by decide)
                  have hk42 := fr_row hF39 (by decide) hk24
                  refine Wn.run (tab := tb_m_hoursTill) rfl 1 (c' := (93, [(4, .int (nI (z + 1))), (3, .int (nI z)), (0, .ref 114), (1, .int (nI q)), (2, .int (nI 1))], [.int (nI z)], M37)) (o := []) rfl trivial ?_
                  have e9 : til (faP σ q) (mn 99 (400 - σ 90)) 1 = some z := til_y loop_x1 (by omega) hP9
                  have hT9 : hour τ = hK σ z := by rw [← hτ, ez]; rfl
                  have hR9 := hR38
                  rw [hT9] at hR9
                  rw [if_neg hnf, e9]
                  exact Wn.iret rfl ⟨rfl, Rs_back c9_2 z hR9, (by rw [hk40]; exact (Gx_up hx9 (by decide))), hF41⟩
    exact loop ((mn 99 (400 - σ 90) + 1) - 1) 1 M1 rfl (by omega) hk4 (by rw [hk5]; exact Gx_rf _ _) hF6 hb2 (Nat.le_refl _) rfl
  · show Wn _ 113 _ (16, [(0, .ref 114), (1, .int (nI q)), (2, .int (nI 1))], [], M1)
    have h1 := b2_pos h1
    refine Wn.run (tab := tb_m_hoursTill) rfl 5 (c' := (25, [(4, .int (nI 1)), (3, .int (nI 0)), (0, .ref 114), (1, .int (nI q)), (2, .int (nI 1))], [], M1)) (o := []) rfl trivial ?_
    refine Wn.run (tab := tb_m_hoursTill) rfl 3 (c' := (if (nI 99) < (nI 1) then 88 else 32, [(4, .int (nI 1)), (3, .int (nI 0)), (0, .ref 114), (1, .int (nI q)), (2, .int (nI 1))], [], M1)) (o := []) rfl trivial ?_
    rw [if_neg (show ¬ ((nI 99) < (nI 1)) by decide)]
    show Wn _ 113 _ (32, [(4, .int (nI 1)), (3, .int (nI 0)), (0, .ref 114), (1, .int (nI q)), (2, .int (nI 1))], [], M1)
    refine Wn.run (tab := tb_m_hoursTill) rfl 6 (c' := (if (nI 400) ≤ (M1.1 116 90) then 88 else 45, [(4, .int (nI 1)), (3, .int (nI 0)), (0, .ref 114), (1, .int (nI q)), (2, .int (nI 1))], [], M1)) (o := [shp 114 = (0, 10), aok shp 116 0 (nI 90)]) rfl ⟨rfl, ⟨rfl, vp_in_nI (by decide) (by decide)⟩⟩ ?_
    refine Wn.br (fun h7 => ?_) (fun h7 => ?_)
    · show Wn _ 113 _ (88, [(4, .int (nI 1)), (3, .int (nI 0)), (0, .ref 114), (1, .int (nI q)), (2, .int (nI 1))], [], M1)
      have c9_90 := Bd_90 hB
      have h7 := (n_le rfl (rd0 hk4.1 (by omega)) (by omega) (by omega)).mp h7
      refine Wn.run (tab := tb_m_hoursTill) rfl 1 (c' := (89, [(4, .int (nI 1)), (3, .int (nI 0)), (0, .ref 114), (1, .int (nI q)), (2, .int (nI 1))], [.ref 114], M1)) (o := []) rfl trivial ?_
      refine Wn.callV (p := 114) (n := 1) (ix := 350) (ci := (10)) (PB M1 f0 (mrg σ σ)) [] [] rfl rfl rfl rfl (Nat.le_of_ble_eq_true rfl) (Nat.le_of_ble_eq_true rfl) (c_m_back _ M1 f0 σ σ hk4 hb2) ?_
      rintro _ M43 ⟨rfl, hR44, hF45⟩
      show Wn _ 113 _ (92, [(4, .int (nI 1)), (3, .int (nI 0)), (0, .ref 114), (1, .int (nI q)), (2, .int (nI 1))], [], M43)
      have hk46 := frI_fun hF45 (by decide) hk5
      have hF47 := fr_tr hF6 hF45 (by decide)
      have hk48 := fr_row hF45 (by decide) hb2
      refine Wn.run (tab := tb_m_hoursTill) rfl 1 (c' := (93, [(4, .int (nI 1)), (3, .int (nI 0)), (0, .ref 114), (1, .int (nI q)), (2, .int (nI 1))], [.int (nI 0)], M43)) (o := []) rfl trivial ?_
      have hR9 := hR44
      rw [if_pos h1]
      exact Wn.iret rfl ⟨rfl, Rs_back c9_2 0 hR9, by rw [hk46]; exact Gx_rf _ _, hF47⟩
    · show Wn _ 113 _ (45, [(4, .int (nI 1)), (3, .int (nI 0)), (0, .ref 114), (1, .int (nI q)), (2, .int (nI 1))], [], M1)
      have c9_90 := Bd_90 hB
      have h7 := mt (n_le rfl (rd0 hk4.1 (by omega)) (by omega) (by omega)).mpr h7
      refine Wn.run (tab := tb_m_hoursTill) rfl 2 (c' := (if 0 ≤ (nI 0) then 88 else 49, [(4, .int (nI 1)), (3, .int (nI 0)), (0, .ref 114), (1, .int (nI q)), (2, .int (nI 1))], [], M1)) (o := []) rfl trivial ?_
      rw [if_pos (show 0 ≤ (nI 0) by decide)]
      show Wn _ 113 _ (88, [(4, .int (nI 1)), (3, .int (nI 0)), (0, .ref 114), (1, .int (nI q)), (2, .int (nI 1))], [], M1)
      refine Wn.run (tab := tb_m_hoursTill) rfl 1 (c' := (89, [(4, .int (nI 1)), (3, .int (nI 0)), (0, .ref 114), (1, .int (nI q)), (2, .int (nI 1))], [.ref 114], M1)) (o := []) rfl trivial ?_
      refine Wn.callV (p := 114) (n := 1) (ix := 350) (ci := (10)) (PB M1 f0 (mrg σ σ)) [] [] rfl rfl rfl rfl (Nat.le_of_ble_eq_true rfl) (Nat.le_of_ble_eq_true rfl) (c_m_back _ M1 f0 σ σ hk4 hb2) ?_
      rintro _ M49 ⟨rfl, hR50, hF51⟩
      show Wn _ 113 _ (92, [(4, .int (nI 1)), (3, .int (nI 0)), (0, .ref 114), (1, .int (nI q)), (2, .int (nI 1))], [], M49)
      have hk52 := frI_fun hF51 (by decide) hk5
      have hF53 := fr_tr hF6 hF51 (by decide)
      have hk54 := fr_row hF51 (by decide) hb2
      refine Wn.run (tab := tb_m_hoursTill) rfl 1 (c' := (93, [(4, .int (nI 1)), (3, .int (nI 0)), (0, .ref 114), (1, .int (nI q)), (2, .int (nI 1))], [.int (nI 0)], M49)) (o := []) rfl trivial ?_
      have hR9 := hR50
      rw [if_pos h1]
      exact Wn.iret rfl ⟨rfl, Rs_back c9_2 0 hR9, by rw [hk52]; exact Gx_rf _ _, hF53⟩
set_option maxRecDepth 20000 in
theorem c_m_swears (d : Nat) (M : Mm) (f0 g : Nat → Int32) (σ : Nat → Nat) (hR : Rs f0 (M.1 116) σ) (hV : Inv σ) (hg : M.1 114 = g) (q : Nat) (hq : q < σ 2) : Wn (d + 8) 114 (PGL M f0 g [0, 22] [114, 116, 122] σ (some (.int (oI (til (swP σ q) (mn 99 (400 - σ 90)) 1))))) (0, lv_args 0 [.ref 114, .int (nI q)], [], M) := by
  have hF := fr_rf [114, 116, 122] M
  have hB := hV.1
  have c9_2 := Bd_2 hB
  have k90 := Bd_90 hB
  refine Wn.run (tab := tb_m_swears) rfl 3 (c' := (5, [(0, .ref 114), (1, .int (nI q))], [], (mI M 114 (upd (M.1 114) 0 (nI 0))))) (o := [shp 114 = (0, 10)]) rfl rfl ?_
  generalize hM2 : (mI M 114 (upd (M.1 114) 0 (nI 0))) = M1
  have hk3 := rs_ne hM2 (by decide) hR
  have hk4 := fI_up hM2 hg
  have hF5 := fr_sI hF hM2 (by decide)
  show Wn _ 114 _ (5, [(0, .ref 114), (1, .int (nI q))], [], M1)
  refine Wn.run (tab := tb_m_swears) rfl 2 (c' := (7, [(0, .ref 114), (1, .int (nI q))], [.int (nI q), .ref 114], M1)) (o := []) rfl trivial ?_
  refine Wn.callV (p := 114) (n := 2) (ix := 290) (ci := (10)) (fun r0 M0 => r0 = some (.int (nI 1)) ∧ M1 = M0) [.int (nI q)] [] rfl rfl rfl rfl (Nat.le_of_ble_eq_true rfl) (Nat.le_of_ble_eq_true rfl) (w_m_isPersonT _ q (by omega) M1 σ ⟨hk3.1, hB⟩ _ ⟨rfl, rfl⟩) ?_
  rintro _ _ ⟨rfl, rfl⟩
  show Wn _ 114 _ (10, [(0, .ref 114), (1, .int (nI q))], [.int (nI 1)], M1)
  refine Wn.run (tab := tb_m_swears) rfl 1 (c' := (if (nI 1) = 0 then 22 else 13, [(0, .ref 114), (1, .int (nI q))], [], M1)) (o := []) rfl trivial ?_
  rw [if_neg (show ¬ ((nI 1) = 0) by decide)]
  show Wn _ 114 _ (13, [(0, .ref 114), (1, .int (nI q))], [], M1)
  refine Wn.run (tab := tb_m_swears) rfl 3 (c' := (16, [(0, .ref 114), (1, .int (nI q))], [.int (nI 0), .int (nI q), .ref 114], M1)) (o := []) rfl trivial ?_
  refine Wn.callV (p := 114) (n := 3) (ix := 353) (ci := (10)) (PGL M1 f0 (upd g 0 (nI 0)) [22] [114, 116, 122] σ (some (.int (oI (til (swP σ q) (mn 99 (400 - σ 90)) 1))))) [.int (nI q), .int (nI 0)] [] rfl rfl rfl rfl (Nat.le_of_ble_eq_true rfl) (Nat.le_of_ble_eq_true rfl) (c_m_tillS _ M1 f0 (upd g 0 (nI 0)) σ hk3 hV hk4 q (by omega)) ?_
  rintro _ M6 ⟨rfl, hR7, hx8, hF9⟩
  show Wn _ 114 _ (19, [(0, .ref 114), (1, .int (nI q))], [.int (oI (til (swP σ q) (mn 99 (400 - σ 90)) 1))], M6)
  obtain ⟨g10, hg11⟩ : ∃ g9, M6.1 114 = g9 := ⟨_, rfl⟩
  have hx12 := hx8
  rw [hg11] at hx12
  have hF13 := fr_tr hF5 hF9 (by decide)
  refine Wn.run (tab := tb_m_swears) rfl 1 (c' := (23, [(0, .ref 114), (1, .int (nI q))], [.int (oI (til (swP σ q) (mn 99 (400 - σ 90)) 1))], M6)) (o := []) rfl trivial ?_
  exact Wn.iret rfl ⟨rfl, hR7, by rw [hg11]; exact (Gx_tr (Gx_up (Gx_rf _ _) (by decide)) (Gx_mono hx12 (by decide))), hF13⟩
set_option maxRecDepth 20000 in
theorem c_m_swearsP (d : Nat) (M : Mm) (f0 g : Nat → Int32) (σ : Nat → Nat) (hR : Rs f0 (M.1 116) σ) (hV : Inv σ) (hg : M.1 114 = g) (q : Int32) (hnp : ¬ pI σ q) : Wn (d + 2) 114 (PGL M f0 g [0, 22] [114, 116, 122] σ (some (.int (-1)))) (0, lv_args 0 [.ref 114, .int q], [], M) := by
  have hF := fr_rf [114, 116, 122] M
  have hB := hV.1
  have c9_2 := Bd_2 hB
  have k90 := Bd_90 hB
  refine Wn.run (tab := tb_m_swears) rfl 3 (c' := (5, [(0, .ref 114), (1, .int q)], [], (mI M 114 (upd (M.1 114) 0 (nI 0))))) (o := [shp 114 = (0, 10)]) rfl rfl ?_
  generalize hM2 : (mI M 114 (upd (M.1 114) 0 (nI 0))) = M1
  have hk3 := rs_ne hM2 (by decide) hR
  have hk4 := fI_up hM2 hg
  have hF5 := fr_sI hF hM2 (by decide)
  show Wn _ 114 _ (5, [(0, .ref 114), (1, .int q)], [], M1)
  refine Wn.run (tab := tb_m_swears) rfl 2 (c' := (7, [(0, .ref 114), (1, .int q)], [.int q, .ref 114], M1)) (o := []) rfl trivial ?_
  refine Wn.callV (p := 114) (n := 2) (ix := 290) (ci := (10)) (fun r0 M0 => r0 = some (.int (nI 0)) ∧ M1 = M0) [.int q] [] rfl rfl rfl rfl (Nat.le_of_ble_eq_true rfl) (Nat.le_of_ble_eq_true rfl) (w_m_isPersonF _ q hnp M1 σ ⟨hk3.1, hB⟩ _ ⟨rfl, rfl⟩) ?_
  rintro _ _ ⟨rfl, rfl⟩
  show Wn _ 114 _ (10, [(0, .ref 114), (1, .int q)], [.int (nI 0)], M1)
  refine Wn.run (tab := tb_m_swears) rfl 1 (c' := (if (nI 0) = 0 then 22 else 13, [(0, .ref 114), (1, .int q)], [], M1)) (o := []) rfl trivial ?_
  rw [if_pos (show (nI 0) = 0 by decide)]
  show Wn _ 114 _ (22, [(0, .ref 114), (1, .int q)], [], M1)
  refine Wn.run (tab := tb_m_swears) rfl 1 (c' := (23, [(0, .ref 114), (1, .int q)], [.int (-1 : Int32)], M1)) (o := []) rfl trivial ?_
  exact Wn.iret rfl ⟨rfl, hk3, by rw [hk4]; exact (Gx_up (Gx_rf _ _) (by decide)), hF5⟩
set_option maxRecDepth 20000 in
theorem c_m_falls (d : Nat) (M : Mm) (f0 g : Nat → Int32) (σ : Nat → Nat) (hR : Rs f0 (M.1 116) σ) (hV : Inv σ) (hg : M.1 114 = g) (q : Nat) (hq : q < σ 2) : Wn (d + 8) 115 (PGL M f0 g [0, 22] [114, 116, 122] σ (some (.int (if fal σ q = true then nI 0 else (oI (til (faP σ q) (mn 99 (400 - σ 90)) 1)))))) (0, lv_args 0 [.ref 114, .int (nI q)], [], M) := by
  have hF := fr_rf [114, 116, 122] M
  have hB := hV.1
  have c9_2 := Bd_2 hB
  have k90 := Bd_90 hB
  refine Wn.run (tab := tb_m_falls) rfl 3 (c' := (5, [(0, .ref 114), (1, .int (nI q))], [], (mI M 114 (upd (M.1 114) 0 (nI 0))))) (o := [shp 114 = (0, 10)]) rfl rfl ?_
  generalize hM2 : (mI M 114 (upd (M.1 114) 0 (nI 0))) = M1
  have hk3 := rs_ne hM2 (by decide) hR
  have hk4 := fI_up hM2 hg
  have hF5 := fr_sI hF hM2 (by decide)
  show Wn _ 115 _ (5, [(0, .ref 114), (1, .int (nI q))], [], M1)
  refine Wn.run (tab := tb_m_falls) rfl 2 (c' := (7, [(0, .ref 114), (1, .int (nI q))], [.int (nI q), .ref 114], M1)) (o := []) rfl trivial ?_
  refine Wn.callV (p := 114) (n := 2) (ix := 290) (ci := (10)) (fun r0 M0 => r0 = some (.int (nI 1)) ∧ M1 = M0) [.int (nI q)] [] rfl rfl rfl rfl (Nat.le_of_ble_eq_true rfl) (Nat.le_of_ble_eq_true rfl) (w_m_isPersonT _ q (by omega) M1 σ ⟨hk3.1, hB⟩ _ ⟨rfl, rfl⟩) ?_
  rintro _ _ ⟨rfl, rfl⟩
  show Wn _ 115 _ (10, [(0, .ref 114), (1, .int (nI q))], [.int (nI 1)], M1)
  refine Wn.run (tab := tb_m_falls) rfl 1 (c' := (if (nI 1) = 0 then 22 else 13, [(0, .ref 114), (1, .int (nI q))], [], M1)) (o := []) rfl trivial ?_
  rw [if_neg (show ¬ ((nI 1) = 0) by decide)]
  show Wn _ 115 _ (13, [(0, .ref 114), (1, .int (nI q))], [], M1)
  refine Wn.run (tab := tb_m_falls) rfl 3 (c' := (16, [(0, .ref 114), (1, .int (nI q))], [.int (nI 1), .int (nI q), .ref 114], M1)) (o := []) rfl trivial ?_
  refine Wn.callV (p := 114) (n := 3) (ix := 353) (ci := (10)) (PGL M1 f0 (upd g 0 (nI 0)) [22] [114, 116, 122] σ (some (.int (if fal σ q = true then nI 0 else (oI (til (faP σ q) (mn 99 (400 - σ 90)) 1)))))) [.int (nI q), .int (nI 1)] [] rfl rfl rfl rfl (Nat.le_of_ble_eq_true rfl) (Nat.le_of_ble_eq_true rfl) (c_m_tillF _ M1 f0 (upd g 0 (nI 0)) σ hk3 hV hk4 q (by omega)) ?_
  rintro _ M6 ⟨rfl, hR7, hx8, hF9⟩
  show Wn _ 115 _ (19, [(0, .ref 114), (1, .int (nI q))], [.int (if fal σ q = true then nI 0 else (oI (til (faP σ q) (mn 99 (400 - σ 90)) 1)))], M6)
  obtain ⟨g10, hg11⟩ : ∃ g9, M6.1 114 = g9 := ⟨_, rfl⟩
  have hx12 := hx8
  rw [hg11] at hx12
  have hF13 := fr_tr hF5 hF9 (by decide)
  refine Wn.run (tab := tb_m_falls) rfl 1 (c' := (23, [(0, .ref 114), (1, .int (nI q))], [.int (if fal σ q = true then nI 0 else (oI (til (faP σ q) (mn 99 (400 - σ 90)) 1)))], M6)) (o := []) rfl trivial ?_
  exact Wn.iret rfl ⟨rfl, hR7, by rw [hg11]; exact (Gx_tr (Gx_up (Gx_rf _ _) (by decide)) (Gx_mono hx12 (by decide))), hF13⟩
set_option maxRecDepth 20000 in
theorem c_m_fallsP (d : Nat) (M : Mm) (f0 g : Nat → Int32) (σ : Nat → Nat) (hR : Rs f0 (M.1 116) σ) (hV : Inv σ) (hg : M.1 114 = g) (q : Int32) (hnp : ¬ pI σ q) : Wn (d + 2) 115 (PGL M f0 g [0, 22] [114, 116, 122] σ (some (.int (-1)))) (0, lv_args 0 [.ref 114, .int q], [], M) := by
  have hF := fr_rf [114, 116, 122] M
  have hB := hV.1
  have c9_2 := Bd_2 hB
  have k90 := Bd_90 hB
  refine Wn.run (tab := tb_m_falls) rfl 3 (c' := (5, [(0, .ref 114), (1, .int q)], [], (mI M 114 (upd (M.1 114) 0 (nI 0))))) (o := [shp 114 = (0, 10)]) rfl rfl ?_
  generalize hM2 : (mI M 114 (upd (M.1 114) 0 (nI 0))) = M1
  have hk3 := rs_ne hM2 (by decide) hR
  have hk4 := fI_up hM2 hg
  have hF5 := fr_sI hF hM2 (by decide)
  show Wn _ 115 _ (5, [(0, .ref 114), (1, .int q)], [], M1)
  refine Wn.run (tab := tb_m_falls) rfl 2 (c' := (7, [(0, .ref 114), (1, .int q)], [.int q, .ref 114], M1)) (o := []) rfl trivial ?_
  refine Wn.callV (p := 114) (n := 2) (ix := 290) (ci := (10)) (fun r0 M0 => r0 = some (.int (nI 0)) ∧ M1 = M0) [.int q] [] rfl rfl rfl rfl (Nat.le_of_ble_eq_true rfl) (Nat.le_of_ble_eq_true rfl) (w_m_isPersonF _ q hnp M1 σ ⟨hk3.1, hB⟩ _ ⟨rfl, rfl⟩) ?_
  rintro _ _ ⟨rfl, rfl⟩
  show Wn _ 115 _ (10, [(0, .ref 114), (1, .int q)], [.int (nI 0)], M1)
  refine Wn.run (tab := tb_m_falls) rfl 1 (c' := (if (nI 0) = 0 then 22 else 13, [(0, .ref 114), (1, .int q)], [], M1)) (o := []) rfl trivial ?_
  rw [if_pos (show (nI 0) = 0 by decide)]
  show Wn _ 115 _ (22, [(0, .ref 114), (1, .int q)], [], M1)
  refine Wn.run (tab := tb_m_falls) rfl 1 (c' := (23, [(0, .ref 114), (1, .int q)], [.int (-1 : Int32)], M1)) (o := []) rfl trivial ?_
  exact Wn.iret rfl ⟨rfl, hk3, by rw [hk4]; exact (Gx_up (Gx_rf _ _) (by decide)), hF5⟩
