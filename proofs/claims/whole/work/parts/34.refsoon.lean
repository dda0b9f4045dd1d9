/-! Hours by draws; what would be. -/
/-- k hours by draws -/
def dK (σ : Nat → Nat) (x : Int32) : Nat → (Nat → Nat) × Int32
  | 0 => (σ, x)
  | k + 1 => (hour (dhN (dK σ x k).1 (dK σ x k).2 ((dK σ x k).1 2)).1, (dhN (dK σ x k).1 (dK σ x k).2 ((dK σ x k).1 2)).2)
theorem dK_s (σ : Nat → Nat) (x : Int32) (k : Nat) : dK σ x (k + 1) = (hour (dhN (dK σ x k).1 (dK σ x k).2 ((dK σ x k).1 2)).1, (dhN (dK σ x k).1 (dK σ x k).2 ((dK σ x k).1 2)).2) := rfl
theorem prz_0 {σ : Nat → Nat} {r : Nat} : ∀ n, r < n → przN σ n (172 + r) = 0
  | 0, h => absurd h (by omega)
  | n + 1, h => by
    unfold przN
    by_cases e : r = n
    · rw [e, su_eq rfl]
    · rw [su_ne (by omega)]; exact prz_0 n (by omega)
theorem hour_pr {σ : Nat → Nat} {r : Nat} (hr : r < 6) : hour σ (172 + r) = 0 := by
  unfold hour htl
  rw [hend_lo (by omega)]
  exact prz_0 6 hr
theorem dK_ok {σ : Nat → Nat} (h : Inv σ) {x : Int32} (hp : ∀ r, r < 6 → σ (172 + r) + 6 < 1073741824) : ∀ n, σ 90 + n ≤ 400 → Inv (dK σ x n).1 ∧ (dK σ x n).1 2 = σ 2 ∧ (dK σ x n).1 90 = σ 90 + n ∧ ∀ r, r < 6 → (dK σ x n).1 (172 + r) + 6 < 1073741824
  | 0, _ => ⟨h, rfl, rfl, hp⟩
  | n + 1, hn => by
    obtain ⟨i1, i2, i3, i4⟩ := dK_ok h (x := x) hp n (by omega)
    obtain ⟨τ, hτ⟩ : ∃ τ, (dK σ x n).1 = τ := ⟨_, rfl⟩
    obtain ⟨y, hy⟩ : ∃ y, (dK σ x n).2 = y := ⟨_, rfl⟩
    have e : (dK σ x (n + 1)).1 = hour (dhN τ y (τ 2)).1 := by rw [dK_s, hτ, hy]
    rw [hτ] at i1 i2 i3 i4
    have h26 := Bd_2 i1.1
    obtain ⟨j1, j2, j3, j4⟩ := dhN_ok i1 (x := y) i4 (τ 2) (Nat.le_refl _)
    rw [e]
    have h90 : (dhN τ y (τ 2)).1 90 < 400 := by rw [j3, i3]; omega
    have h27 : (dhN τ y (τ 2)).1 2 ≤ 6 := by rw [j2]; exact h26
    refine ⟨Inv_hour j1 h90, ?_, ?_, fun r hr => ?_⟩
    · rw [hour_lo h27 (by omega), j2, i2]
    · rw [hour_90 h27, j3, i3]; omega
    · rw [hour_pr hr]; omega
set_option maxRecDepth 20000 in
theorem c_m_draws (d : Nat) (M : Mm) (f0 g : Nat → Int32) (σ : Nat → Nat) (hR : Rs f0 (M.1 116) σ) (hV : Inv σ) (hg : M.1 114 = g) (n : Nat) (hn : n < 1000) (x : Int32) (hp : ∀ r, r < 6 → σ (172 + r) + 6 < 1073741824) : Wn (d + 7) 131 (PG M f0 g [22, 35] (dK σ x (mn n (400 - σ 90))).1 (some (.int (nI (mn n (400 - σ 90)))))) (0, lv_args 0 [.ref 114, .int (nI n), .int x], [], M) := by
  have hF := fr_rf [114, 116] M
  have c9_2 := Bd_2 hV.1
  have k90 := Bd_90 hV.1
  have m9 := mn_le n (400 - σ 90)
  have m8 := mn_or n (400 - σ 90)
  have hV0 := hV
  refine Wn.run (tab := tb_m_draws) rfl 3 (c' := (5, [(0, .ref 114), (1, .int (nI n)), (2, .int x)], [], (mI M 114 (upd (M.1 114) 35 x)))) (o := [shp 114 = (0, 10)]) rfl rfl ?_
  generalize hM2 : (mI M 114 (upd (M.1 114) 35 x)) = M1
  have hk3 := rs_ne hM2 (by decide) hR
  have hk4 := fI_up hM2 hg
  have hF5 := fr_sI hF hM2 (by decide)
  show Wn _ 131 _ (5, [(0, .ref 114), (1, .int (nI n)), (2, .int x)], [], M1)
  refine Wn.run (tab := tb_m_draws) rfl 2 (c' := (7, [(3, .int (nI 0)), (0, .ref 114), (1, .int (nI n)), (2, .int x)], [], M1)) (o := []) rfl trivial ?_
  have loop : ∀ (m z : Nat) (N : Mm), mn n (400 - σ 90) - z = m → z ≤ mn n (400 - σ 90) → (Rs f0 (N.1 116) (dK σ x z).1) → (Gx [22, 35] g (N.1 114)) → (N.1 114 35 = (dK σ x z).2) → (Fr [114, 116] M N) → Wn (d + 7) 131 (PG M f0 g [22, 35] (dK σ x (mn n (400 - σ 90))).1 (some (.int (nI (mn n (400 - σ 90)))))) (7, [(3, .int (nI z)), (0, .ref 114), (1, .int (nI n)), (2, .int x)], [], N) := by
    intro m
    induction m using Nat.strongRecOn with
    | _ m ih =>
      intro z N hm hz loop_0 loop_1 loop_2 loop_3
      obtain ⟨i1, i2, i3, i4⟩ := dK_ok hV0 (x := x) hp z (by omega)
      obtain ⟨τ, hτ⟩ : ∃ τ, (dK σ x z).1 = τ := ⟨_, rfl⟩
      obtain ⟨y, hy⟩ : ∃ y, (dK σ x z).2 = y := ⟨_, rfl⟩
      rw [hτ] at loop_0 i1 i2 i3 i4
      rw [hy] at loop_2
      have hV := i1
      have hB := hV.1
      have k90 := Bd_90 hB
      have c9_2 := Bd_2 hB
      obtain ⟨g9, hg9⟩ : ∃ g9, N.1 114 = g9 := ⟨_, rfl⟩
      have hx9 := loop_1
      rw [hg9] at hx9
      have hy9 : g9 35 = y := by rw [← hg9]; exact loop_2
      have hf9 := loop_3
      refine Wn.run (tab := tb_m_draws) rfl 3 (c' := (if (nI n) ≤ (nI z) then 61 else 12, [(3, .int (nI z)), (0, .ref 114), (1, .int (nI n)), (2, .int x)], [], N)) (o := []) rfl trivial ?_
      refine Wn.br (fun h1 => ?_) (fun h1 => ?_)
      · show Wn _ 131 _ (61, [(3, .int (nI z)), (0, .ref 114), (1, .int (nI n)), (2, .int x)], [], N)
        have h1 := (n_le rfl rfl (by omega) (by omega)).mp h1
        refine Wn.run (tab := tb_m_draws) rfl 1 (c' := (62, [(3, .int (nI z)), (0, .ref 114), (1, .int (nI n)), (2, .int x)], [.int (nI z)], N)) (o := []) rfl trivial ?_
        have e9 : mn n (400 - σ 90) = z := by unfold mn; split <;> omega
        rw [e9, hτ]
        exact Wn.iret rfl ⟨rfl, loop_0, by rw [hg9]; exact hx9, loop_3⟩
      · show Wn _ 131 _ (12, [(3, .int (nI z)), (0, .ref 114), (1, .int (nI n)), (2, .int x)], [], N)
        have h1 := mt (n_le rfl rfl (by omega) (by omega)).mpr h1
        refine Wn.run (tab := tb_m_draws) rfl 6 (c' := (if (nI 400) ≤ (N.1 116 90) then 61 else 25, [(3, .int (nI z)), (0, .ref 114), (1, .int (nI n)), (2, .int x)], [], N)) (o := [shp 114 = (0, 10), aok shp 116 0 (nI 90)]) rfl ⟨rfl, ⟨rfl, vp_in_nI (by decide) (by decide)⟩⟩ ?_
        refine Wn.br (fun h2 => ?_) (fun h2 => ?_)
        · show Wn _ 131 _ (61, [(3, .int (nI z)), (0, .ref 114), (1, .int (nI n)), (2, .int x)], [], N)
          have c9_90 := Bd_90 hB
          have h2 := (n_le rfl (rd0 loop_0.1 (by omega)) (by omega) (by omega)).mp h2
          refine Wn.run (tab := tb_m_draws) rfl 1 (c' := (62, [(3, .int (nI z)), (0, .ref 114), (1, .int (nI n)), (2, .int x)], [.int (nI z)], N)) (o := []) rfl trivial ?_
          have e9 : mn n (400 - σ 90) = z := by unfold mn; split <;> omega
          rw [e9, hτ]
          exact Wn.iret rfl ⟨rfl, loop_0, by rw [hg9]; exact hx9, loop_3⟩
        · show Wn _ 131 _ (25, [(3, .int (nI z)), (0, .ref 114), (1, .int (nI n)), (2, .int x)], [], N)
          have c9_90 := Bd_90 hB
          have h2 := mt (n_le rfl (rd0 loop_0.1 (by omega)) (by omega) (by omega)).mpr h2
          refine Wn.run (tab := tb_m_draws) rfl 2 (c' := (28, [(4, .int (nI 0)), (3, .int (nI z)), (0, .ref 114), (1, .int (nI n)), (2, .int x)], [], N)) (o := []) rfl trivial ?_
          have inn : ∀ (m q : Nat) (N : Mm), τ 2 - q = m → q ≤ τ 2 → (Rs f0 (N.1 116) (dhN τ y q).1) → (Gx [22, 35] g (N.1 114)) → (N.1 114 35 = (dhN τ y q).2) → (Fr [114, 116] M N) → Wn (d + 7) 131 (PG M f0 g [22, 35] (dK σ x (mn n (400 - σ 90))).1 (some (.int (nI (mn n (400 - σ 90)))))) (28, [(4, .int (nI q)), (3, .int (nI z)), (0, .ref 114), (1, .int (nI n)), (2, .int x)], [], N) := by
            intro m
            induction m using Nat.strongRecOn with
            | _ m_inn ih_inn =>
              intro q N hm_inn hq inn_0 inn_1 inn_2 inn_3
              obtain ⟨j1, j2, j3, j4⟩ := dhN_ok i1 (x := y) i4 q (by omega)
              obtain ⟨τ2, hτ2⟩ : ∃ τ2, (dhN τ y q).1 = τ2 := ⟨_, rfl⟩
              obtain ⟨y2, hy2⟩ : ∃ y2, (dhN τ y q).2 = y2 := ⟨_, rfl⟩
              rw [hτ2] at inn_0 j1 j2 j3 j4
              rw [hy2] at inn_2
              have hV := j1
              have hB := hV.1
              have c8_2 := Bd_2 hB
              obtain ⟨g8, hg8⟩ : ∃ g9, N.1 114 = g9 := ⟨_, rfl⟩
              have hx8 := inn_1
              rw [hg8] at hx8
              have hy8 : g8 35 = y2 := by rw [← hg8]; exact inn_2
              refine Wn.run (tab := tb_m_draws) rfl 6 (c' := (if (N.1 116 2) ≤ (nI q) then 51 else 39, [(4, .int (nI q)), (3, .int (nI z)), (0, .ref 114), (1, .int (nI n)), (2, .int x)], [], N)) (o := [shp 114 = (0, 10), aok shp 116 0 (nI 2)]) rfl ⟨rfl, ⟨rfl, vp_in_nI (by decide) (by decide)⟩⟩ ?_
              refine Wn.br (fun h3 => ?_) (fun h3 => ?_)
              · show Wn _ 131 _ (51, [(4, .int (nI q)), (3, .int (nI z)), (0, .ref 114), (1, .int (nI n)), (2, .int x)], [], N)
                have c9_2 := Bd_2 hB
                have h3 := (n_le (rd0 inn_0.1 (by omega)) rfl (by omega) (by omega)).mp h3
                have e8 : q = τ 2 := by omega
                have inn_y : g8 35 = (dhN τ y (τ 2)).2 := by rw [hy8, ← e8, hy2]
                have inn_g := hx8
                have h90 : τ2 90 < 400 := by omega
                have hR8 := inn_0
                rw [← hτ2, e8] at hR8 hB hV h90
                refine Wn.run (tab := tb_m_draws) rfl 1 (c' := (52, [(4, .int (nI q)), (3, .int (nI z)), (0, .ref 114), (1, .int (nI n)), (2, .int x)], [.ref 114], N)) (o := []) rfl trivial ?_
                refine Wn.callV (p := 114) (n := 1) (ix := 318) (ci := (10)) (PM N f0 (upd g8 22 (nI (swN (dhN τ y (τ 2)).1 ((dhN τ y (τ 2)).1 2)))) (hour (dhN τ y (τ 2)).1) none) [] [] rfl rfl rfl rfl (Nat.le_of_ble_eq_true rfl) (Nat.le_of_ble_eq_true rfl) (c_m_hour _ N f0 g8 (dhN τ y (τ 2)).1 hR8 hB hg8 (by omega)) ?_
                rintro _ M6 ⟨rfl, hR7, hg8, hF9⟩
                show Wn _ 131 _ (55, [(4, .int (nI q)), (3, .int (nI z)), (0, .ref 114), (1, .int (nI n)), (2, .int x)], [], M6)
                have hF10 := fr_tr inn_3 hF9 (by decide)
                refine Wn.run (tab := tb_m_draws) rfl 2 (c' := (7, [(3, .int ((nI z) + (nI 1))), (4, .int (nI q)), (0, .ref 114), (1, .int (nI n)), (2, .int x)], [], M6)) (o := []) rfl trivial ?_
                rw [show ((nI z) + (nI 1)) = (nI (z + 1)) from (n_add rfl rfl)]
                refine Wn.lvp [0, 2, 3, 4] (lv' := [(3, .int (nI (z + 1))), (0, .ref 114), (1, .int (nI n)), (2, .int x)]) rfl ?_
                exact ih (mn n (400 - σ 90) - (z + 1)) (by omega) (z + 1) M6 rfl (by omega) (show Rs f0 (M6.1 116) (dK σ x (z + 1)).1 by rw [dK_s, hτ, hy]; exact hR7) (by rw [hg8]; exact (Gx_up inn_g (by decide))) (show M6.1 114 35 = (dK σ x (z + 1)).2 by rw [dK_s, hτ, hy, hg8]; exact (pk_un (by decide)).trans inn_y) hF10
              · show Wn _ 131 _ (39, [(4, .int (nI q)), (3, .int (nI z)), (0, .ref 114), (1, .int (nI n)), (2, .int x)], [], N)
                have c9_2 := Bd_2 hB
                have h3 := mt (n_le (rd0 inn_0.1 (by omega)) rfl (by omega) (by omega)).mpr h3
                refine Wn.run (tab := tb_m_draws) rfl 2 (c' := (42, [(4, .int (nI q)), (3, .int (nI z)), (0, .ref 114), (1, .int (nI n)), (2, .int x)], [.int (nI q), .ref 114], N)) (o := []) rfl trivial ?_
                refine Wn.callV (p := 114) (n := 2) (ix := 404) (ci := (10)) (PD N f0 g8 [35] (daS τ2 y2 q) (daX y2) none) [.int (nI q)] [] rfl rfl rfl rfl (Nat.le_of_ble_eq_true rfl) (Nat.le_of_ble_eq_true rfl) (c_m_drawPerson _ N f0 g8 τ2 inn_0 hV hg8 y2 hy8 q (by omega) (fun r hr => by have := j4 r hr; have := i4 r hr; omega)) ?_
                rintro _ M11 ⟨rfl, hR12, hy14, hx13, hF15⟩
                show Wn _ 131 _ (45, [(4, .int (nI q)), (3, .int (nI z)), (0, .ref 114), (1, .int (nI n)), (2, .int x)], [], M11)
                obtain ⟨g16, hg17⟩ : ∃ g9, M11.1 114 = g9 := ⟨_, rfl⟩
                rw [hg17] at hx13 hy14
                have hF18 := fr_tr inn_3 hF15 (by decide)
                refine Wn.run (tab := tb_m_draws) rfl 2 (c' := (28, [(4, .int ((nI q) + (nI 1))), (3, .int (nI z)), (0, .ref 114), (1, .int (nI n)), (2, .int x)], [], M11)) (o := []) rfl trivial ?_
                rw [show ((nI q) + (nI 1)) = (nI (q + 1)) from (n_add rfl rfl)]
                exact ih_inn (τ 2 - (q + 1)) (by omega) (q + 1) M11 rfl (by omega) (show Rs f0 (M11.1 116) (daS (dhN τ y q).1 (dhN τ y q).2 q) by rw [hτ2, hy2]; exact hR12) (by rw [hg17]; exact Gx_tr hx8 (Gx_mono hx13 (by decide))) (show M11.1 114 35 = daX (dhN τ y q).2 by rw [hy2, hg17]; exact hy14) hF18
          exact inn (τ 2 - 0) 0 N rfl (by omega) loop_0 (by rw [hg9]; exact hx9) (by rw [hg9]; exact hy9) loop_3
  exact loop (mn n (400 - σ 90) - 0) 0 M1 rfl (by omega) hk3 (by rw [hk4]; exact Gx_up (Gx_rf _ _) (by decide)) (by rw [hk4]; exact pk_us) hF5
