theorem rlp_W {T : Nat → Nat} {L : Nat} : ∀ n s i, i < rlp T L n s → isW T L (s + i)
  | 0, _, i, h => absurd h (by unfold rlp; omega)
  | n + 1, s, i, h => by
    unfold rlp at h
    split at h
    · rename_i h1
      rcases i with _ | i
      · exact h1
      · rw [show s + (i + 1) = s + 1 + i by omega]
        exact rlp_W n (s + 1) i (by omega)
    · exact absurd h (by omega)
theorem rl_W {T : Nat → Nat} {L s : Nat} : ∀ i, i < rl T L s → isW T L (s + i) := rlp_W _ s
theorem rl_le {T : Nat → Nat} {L s : Nat} (h : s ≤ L) : s + rl T L s ≤ L := by
  rcases Nat.eq_zero_or_pos (rl T L s) with h1 | h1
  · omega
  · have := (rl_W (T := T) (L := L) (s := s) (rl T L s - 1) (by omega)).1
    omega
theorem rl_sum (T : Nat → Nat) (L s : Nat) : nLt T s (rl T L s) + nDg T s (rl T L s) = rl T L s := nLD _ rl_W
theorem nDg_S {T : Nat → Nat} {s : Nat} : ∀ z, nDg T s z = 0 → ∀ i, i < z → ¬ isD (T (s + i))
  | 0, _, i, h => absurd h (by omega)
  | z + 1, h, i, hi => by
    unfold nDg at h
    by_cases e : i = z
    · rw [e]; intro h9; rw [if_pos h9] at h; omega
    · exact nDg_S z (by omega) i (by omega)
theorem word_S {T : Nat → Nat} {L s : Nat} (h : nDg T s (rl T L s) = 0) : ∀ i, i < rl T L s → isS (T (s + i)) := fun i hi => by
  have h1 := rl_W i hi
  have h2 := nDg_S _ h i hi
  omega
theorem tok_word {T : Nat → Nat} {L s : Nat} (h0 : ¬ rl T L s = 0) (hd : nDg T s (rl T L s) = 0) (hl : nLt T s (rl T L s) ≤ 7) : kc (nNm T s (rl T L s)) 3 = 3 ∨ 10 ≤ kc (nNm T s (rl T L s)) 3 := by
  have hs := rl_sum T L s
  have hw := word_S hd
  rw [nNm_nat _ (by omega) hw]
  have h1 := wN_lt (T := T) (s := s) (rl T L s) (fun i hi => by have := hw i hi; omega)
  have h2 : 256 ^ rl T L s ≤ 256 ^ 7 := Nat.pow_le_pow_right (by decide) (by omega)
  refine kc_word ?_ (by omega)
  rw [show rl T L s = (rl T L s - 1) + 1 by omega]
  exact wN_ge _ (hw _ (by omega))
theorem tok_sign {T : Nat → Nat} {s : Nat} (h : T s < 256) : kc (nI (T s)).toInt64 1 = 1 ∨ (4 ≤ kc (nI (T s)).toInt64 1 ∧ kc (nI (T s)).toInt64 1 ≤ 9) := by
  rw [nI_64 (by omega)]
  exact kc_sign h
theorem mn_B {a B : Nat} (h : B ≤ a) : mn a B = B := by unfold mn; rw [if_neg (by omega)]
theorem isK_kc (n : Int64) (d : Nat) (hd : d < 36) : isK (100000 + kc n d) := ⟨by omega, by have := kc_lt n d hd; omega⟩
set_option maxRecDepth 20000 in
theorem c_rd_advance (d : Nat) (M : Mm) (g u : Nat → Int32) (T : Nat → Nat) (L mo p st fk fp : Nat) (hg : M.1 77 = g) (hL : g 1 = nI L) (hmo : g 2 = nI mo) (hp : g 3 = nI p) (hst : g 4 = nI st) (hfk : g 11 = nI fk) (hfp : g 12 = nI fp) (hu : M.1 1 = u) (hT : TB u T L) (hL9 : L ≤ 940) (hm9 : mo ≤ 940) (hpL : p ≤ L) : Wn (d + 1) 176 (PAd M T L mo p st fk fp) (0, lv_args 0 [.ref 77], [], M) := by
  have hF := fr_rf [77] M
  obtain ⟨rr, hr⟩ : ∃ rr, M.2.2 77 = rr := ⟨_, rfl⟩
  obtain ⟨jj, hj⟩ : ∃ jj, M.2.1 77 = jj := ⟨_, rfl⟩
  have m9 := mn_le L mo
  have m8 := mn_or L mo
  refine Wn.run (tab := tb_rd_advance) rfl 4 (c' := (8, [(0, .ref 77)], [], (mI M 77 (upd (M.1 77) 5 (M.1 77 4))))) (o := [shp 77 = (0, 3), shp 77 = (0, 3)]) rfl ⟨rfl, rfl⟩ ?_
  rw [show (M.1 77 4) = (nI st) from (fr_eq hg (show g 4 = (nI st) from hst))]
  generalize hM2 : (mI M 77 (upd (M.1 77) 5 (nI st))) = M1
  have hk3 := fI_up hM2 hg
  have hk4 := fR_oI hM2 hr
  have hk5 := fJ_oI hM2 hj
  have hu6 := fI_ne hM2 (by decide) hu
  have hF7 := fr_sI hF hM2 (by decide)
  show Wn _ 176 _ (8, [(0, .ref 77)], [], M1)
  refine Wn.run (tab := tb_rd_advance) rfl 6 (c' := (20, [(1, .int (if (M1.1 77 2) < (M1.1 77 1) then (M1.1 77 2) else (M1.1 77 1))), (0, .ref 77)], [], M1)) (o := [shp 77 = (0, 3), shp 77 = (0, 3), ct [] ≤ 8]) rfl ⟨rfl, rfl, (Nat.le_of_ble_eq_true rfl)⟩ ?_
  rw [show (M1.1 77 1) = (nI L) from (fr_eq hk3 (show (upd g 5 (nI st)) 1 = (nI L) from ((pk_un (by decide)).trans hL)))]
  rw [show (M1.1 77 2) = (nI mo) from (fr_eq hk3 (show (upd g 5 (nI st)) 2 = (nI mo) from ((pk_un (by decide)).trans hmo)))]
  rw [show (if (nI mo) < (nI L) then (nI mo) else (nI L)) = (nI (mn L mo)) from (n_minM rfl rfl (by omega) (by omega))]
  have loop : ∀ (m z : Nat) (N : Mm), L - z = m → z ≤ L → (N.1 77 3 = (nI z)) → (N.1 77 5 = (nI st)) → (Gx [3, 5] g (N.1 77)) → (N.2.2 77 = rr) → (N.2.1 77 = jj) → (N.1 1 = u) → (Fr [77] M N) → (∀ i, p ≤ i → i < z → isB T L i) → (p ≤ z) → Wn (d + 1) 176 (PAd M T L mo p st fk fp) (20, [(1, .int (nI (mn L mo))), (0, .ref 77)], [], N) := by
    intro m
    induction m using Nat.strongRecOn with
    | _ m ih =>
      intro z N hm hz loop_0 loop_1 loop_2 loop_3 loop_4 loop_5 loop_6 loop_x0 loop_x1
      have t9 : z < L → T z < 256 := fun h => (hT _ h).2
      obtain ⟨go, hgo⟩ : ∃ g9, N.1 77 = g9 := ⟨_, rfl⟩
      have hfo_3 : go 3 = (nI z) := by rw [← hgo]; exact loop_0
      have hfo_5 : go 5 = (nI st) := by rw [← hgo]; exact loop_1
      have hxo : Gx [3, 5] g go := by rw [← hgo]; exact loop_2
      have hfo_1 : go 1 = (nI L) := (hxo 1 (by decide)).trans hL
      have hfo_2 : go 2 = (nI mo) := (hxo 2 (by decide)).trans hmo
      have hfo_4 : go 4 = (nI st) := (hxo 4 (by decide)).trans hst
      have hfo_11 : go 11 = (nI fk) := (hxo 11 (by decide)).trans hfk
      have hfo_12 : go 12 = (nI fp) := (hxo 12 (by decide)).trans hfp
      refine Wn.run (tab := tb_rd_advance) rfl 4 (c' := (if (nI (mn L mo)) ≤ (N.1 77 3) then 69 else 28, [(1, .int (nI (mn L mo))), (0, .ref 77)], [], N)) (o := [shp 77 = (0, 3)]) rfl rfl ?_
      refine Wn.br (fun h1 => ?_) (fun h1 => ?_)
      · show Wn _ 176 _ (69, [(1, .int (nI (mn L mo))), (0, .ref 77)], [], N)
        have h1 := (n_le rfl (fr_eq hgo (show go 3 = (nI z) from hfo_3)) (by omega) (by omega)).mp h1
        have sk9 : (mn L mo) ≤ sk T L p := sk_B (by omega) (fun i hi hi2 => loop_x0 i hi (by omega))
        refine Wn.run (tab := tb_rd_advance) rfl 6 (c' := (81, [(1, .int (nI (mn L mo))), (0, .ref 77)], [], (mI N 77 (upd (N.1 77) 4 (if (nI (mn L mo)) < (N.1 77 3) then (nI (mn L mo)) else (N.1 77 3)))))) (o := [shp 77 = (0, 3), ct [.ref 77] ≤ 8, shp 77 = (0, 3)]) rfl ⟨rfl, (Nat.le_of_ble_eq_true rfl), rfl⟩ ?_
        rw [show (N.1 77 3) = (nI z) from (fr_eq hgo (show go 3 = (nI z) from hfo_3))]
        rw [show (if (nI (mn L mo)) < (nI z) then (nI (mn L mo)) else (nI z)) = (nI (mn z (mn L mo))) from (n_minM rfl rfl (by omega) (by omega))]
        generalize hM9 : (mI N 77 (upd (N.1 77) 4 (nI (mn z (mn L mo))))) = M8
        have hk10 := fI_up hM9 hgo
        have hk11 := fR_oI hM9 loop_3
        have hk12 := fJ_oI hM9 loop_4
        have hu13 := fI_ne hM9 (by decide) loop_5
        have hF14 := fr_sI loop_6 hM9 (by decide)
        show Wn _ 176 _ (81, [(1, .int (nI (mn L mo))), (0, .ref 77)], [], M8)
        refine Wn.run (tab := tb_rd_advance) rfl 4 (c' := (if (M8.1 77 3) < (nI (mn L mo)) then 97 else 89, [(1, .int (nI (mn L mo))), (0, .ref 77)], [], M8)) (o := [shp 77 = (0, 3)]) rfl rfl ?_
        refine Wn.br (fun h2 => ?_) (fun h2 => ?_)
        · show Wn _ 176 _ (97, [(1, .int (nI (mn L mo))), (0, .ref 77)], [], M8)
          have h2 := (n_lt (fr_eq hk10 (show (upd go 4 (nI (mn z (mn L mo)))) 3 = (nI z) from ((pk_un (by decide)).trans hfo_3))) rfl (by omega) (by omega)).mp h2
          exact absurd h2 (by omega)
        · show Wn _ 176 _ (89, [(1, .int (nI (mn L mo))), (0, .ref 77)], [], M8)
          have h2 := mt (n_lt (fr_eq hk10 (show (upd go 4 (nI (mn z (mn L mo)))) 3 = (nI z) from ((pk_un (by decide)).trans hfo_3))) rfl (by omega) (by omega)).mpr h2
          refine Wn.run (tab := tb_rd_advance) rfl 3 (c' := (96, [(1, .int (nI (mn L mo))), (0, .ref 77)], [], (mR M8 77 (va_up (M8.2.2 77) 10 100000)))) (o := [shp 77 = (0, 3), isK 100000]) rfl ⟨rfl, ⟨by decide, by decide⟩⟩ ?_
          generalize hM16 : (mR M8 77 (va_up (M8.2.2 77) 10 100000)) = M15
          have hk17 := fI_oR hM16 hk10
          have hk18 := fR_up hM16 hk11
          have hk19 := fJ_oR hM16 hk12
          have hu20 := fI_oR hM16 hu13
          have hF21 := fr_sR hF14 hM16 (by decide)
          show Wn _ 176 _ (96, [(1, .int (nI (mn L mo))), (0, .ref 77)], [], M15)
          have ks9 : True := trivial
          have e1 : (mn L mo) ≤ sk T L p := sk9
          have e2 : tKd T L mo p = (if mo < L then 36 else 0) := by unfold tKd; rw [if_pos e1]
          have e3 : tAt T L mo p = mn z (mn L mo) := by unfold tAt; rw [mn_B e1, mn_B (a := z) (B := mn L mo) (by omega)]
          have e4 : (if tKd T L mo p = 36 then 0 else tKd T L mo p) = 0 := by rw [e2]; split <;> split <;> omega
          have e5 : tKd T L mo p = 0 ∨ tKd T L mo p = 36 := by rw [e2]; split <;> omega
          refine Wn.vret rfl ⟨rfl, ⟨by rw [hk17]; exact ((pk_un (by decide)).trans hfo_1), by rw [hk17]; exact ((pk_un (by decide)).trans hfo_2), by rw [hk17, e3]; exact pk_us, by rw [hk17]; exact ((pk_un (by decide)).trans hfo_5), by rw [hk17]; exact ((pk_un (by decide)).trans hfo_11), by rw [hk17]; exact ((pk_un (by decide)).trans hfo_12), by rw [hk18, e4]; exact (va_up_self _ _ _), fun q1 q2 => ?_, fun q1 => ?_, fun q1 => ?_⟩, hF21⟩ <;> omega
      · show Wn _ 176 _ (28, [(1, .int (nI (mn L mo))), (0, .ref 77)], [], N)
        have h1 := mt (n_le rfl (fr_eq hgo (show go 3 = (nI z) from hfo_3)) (by omega) (by omega)).mpr h1
        refine Wn.run (tab := tb_rd_advance) rfl 7 (c' := (if (N.1 1 ((N.1 77 3)).toNatClampNeg) = (nI 32) then 56 else 42, [(1, .int (nI (mn L mo))), (0, .ref 77)], [], N)) (o := [shp 77 = (0, 3), shp 77 = (0, 3), aok shp 1 0 (N.1 77 3)]) rfl ⟨rfl, rfl, (ak1 (n := 940) rfl rfl (fr_eq hgo (show go 3 = (nI z) from hfo_3)) (by omega))⟩ ?_
        refine Wn.br (fun h3 => ?_) (fun h3 => ?_)
        · show Wn _ 176 _ (56, [(1, .int (nI (mn L mo))), (0, .ref 77)], [], N)
          have h3 := (n_eq (tb_rd loop_5 hT (fr_eq hgo (show go 3 = (nI z) from hfo_3)) (by omega) (by omega)) rfl (by omega) (by omega)).mp h3
          refine Wn.run (tab := tb_rd_advance) rfl 6 (c' := (66, [(1, .int (nI (mn L mo))), (0, .ref 77)], [], (mI N 77 (upd (N.1 77) 3 ((N.1 77 3) + (nI 1)))))) (o := [shp 77 = (0, 3), shp 77 = (0, 3)]) rfl ⟨rfl, rfl⟩ ?_
          rw [show (N.1 77 3) = (nI z) from (fr_eq hgo (show go 3 = (nI z) from hfo_3))]
          rw [show ((nI z) + (nI 1)) = (nI (z + 1)) from (n_add rfl rfl)]
          generalize hM23 : (mI N 77 (upd (N.1 77) 3 (nI (z + 1)))) = M22
          have hk24 := fI_up hM23 hgo
          have hk25 := fR_oI hM23 loop_3
          have hk26 := fJ_oI hM23 loop_4
          have hu27 := fI_ne hM23 (by decide) loop_5
          have hF28 := fr_sI loop_6 hM23 (by decide)
          show Wn _ 176 _ (66, [(1, .int (nI (mn L mo))), (0, .ref 77)], [], M22)
          refine Wn.run (tab := tb_rd_advance) rfl 1 (c' := (20, [(1, .int (nI (mn L mo))), (0, .ref 77)], [], M22)) (o := []) rfl trivial ?_
          exact ih (L - (z + 1)) (by omega) (z + 1) M22 rfl (by omega) (by rw [hk24]; exact pk_us) (by rw [hk24]; exact ((pk_un (by decide)).trans hfo_5)) (by rw [hk24]; exact (Gx_up hxo (by decide))) hk25 hk26 hu27 hF28 (fun i hi hi2 => if e : i = z then (by rw [e]; exact ⟨by omega, by omega⟩) else loop_x0 i hi (by omega)) (by omega)
        · show Wn _ 176 _ (42, [(1, .int (nI (mn L mo))), (0, .ref 77)], [], N)
          have h3 := mt (n_eq (tb_rd loop_5 hT (fr_eq hgo (show go 3 = (nI z) from hfo_3)) (by omega) (by omega)) rfl (by omega) (by omega)).mpr h3
          refine Wn.run (tab := tb_rd_advance) rfl 7 (c' := (if ¬ (N.1 1 ((N.1 77 3)).toNatClampNeg) = (nI 10) then 69 else 56, [(1, .int (nI (mn L mo))), (0, .ref 77)], [], N)) (o := [shp 77 = (0, 3), shp 77 = (0, 3), aok shp 1 0 (N.1 77 3)]) rfl ⟨rfl, rfl, (ak1 (n := 940) rfl rfl (fr_eq hgo (show go 3 = (nI z) from hfo_3)) (by omega))⟩ ?_
          refine Wn.br (fun h4 => ?_) (fun h4 => ?_)
          · show Wn _ 176 _ (69, [(1, .int (nI (mn L mo))), (0, .ref 77)], [], N)
            have h4 := mt (n_eq (tb_rd loop_5 hT (fr_eq hgo (show go 3 = (nI z) from hfo_3)) (by omega) (by omega)) rfl (by omega) (by omega)).mpr h4
            have sk9 : sk T L p = z := sk_at loop_x0 (by omega) (by unfold isB; omega)
            refine Wn.run (tab := tb_rd_advance) rfl 6 (c' := (81, [(1, .int (nI (mn L mo))), (0, .ref 77)], [], (mI N 77 (upd (N.1 77) 4 (if (nI (mn L mo)) < (N.1 77 3) then (nI (mn L mo)) else (N.1 77 3)))))) (o := [shp 77 = (0, 3), ct [.ref 77] ≤ 8, shp 77 = (0, 3)]) rfl ⟨rfl, (Nat.le_of_ble_eq_true rfl), rfl⟩ ?_
            rw [show (N.1 77 3) = (nI z) from (fr_eq hgo (show go 3 = (nI z) from hfo_3))]
            rw [show (if (nI (mn L mo)) < (nI z) then (nI (mn L mo)) else (nI z)) = (nI (mn z (mn L mo))) from (n_minM rfl rfl (by omega) (by omega))]
            generalize hM30 : (mI N 77 (upd (N.1 77) 4 (nI (mn z (mn L mo))))) = M29
            have hk31 := fI_up hM30 hgo
            have hk32 := fR_oI hM30 loop_3
            have hk33 := fJ_oI hM30 loop_4
            have hu34 := fI_ne hM30 (by decide) loop_5
            have hF35 := fr_sI loop_6 hM30 (by decide)
            show Wn _ 176 _ (81, [(1, .int (nI (mn L mo))), (0, .ref 77)], [], M29)
            refine Wn.run (tab := tb_rd_advance) rfl 4 (c' := (if (M29.1 77 3) < (nI (mn L mo)) then 97 else 89, [(1, .int (nI (mn L mo))), (0, .ref 77)], [], M29)) (o := [shp 77 = (0, 3)]) rfl rfl ?_
            refine Wn.br (fun h5 => ?_) (fun h5 => ?_)
            · show Wn _ 176 _ (97, [(1, .int (nI (mn L mo))), (0, .ref 77)], [], M29)
              have h5 := (n_lt (fr_eq hk31 (show (upd go 4 (nI (mn z (mn L mo)))) 3 = (nI z) from ((pk_un (by decide)).trans hfo_3))) rfl (by omega) (by omega)).mp h5
              refine Wn.run (tab := tb_rd_advance) rfl 1 (c' := (98, [(1, .int (nI (mn L mo))), (0, .ref 77)], [.ref 77], M29)) (o := []) rfl trivial ?_
              refine Wn.callV (p := 77) (n := 1) (ix := 59) (ci := (3)) (PRR M29 (upd go 4 (nI (mn z (mn L mo)))) T z (rl T L z)) [] [] rfl rfl rfl rfl (Nat.le_of_ble_eq_true rfl) (Nat.le_of_ble_eq_true rfl) (c_rd_readRun _ M29 (upd go 4 (nI (mn z (mn L mo)))) u T L z hk31 ((pk_un (by decide)).trans hfo_1) ((pk_un (by decide)).trans hfo_3) hu34 hT (by omega) (by omega)) ?_
              rintro _ M36 ⟨rfl, h837, h938, h639, h340, h741, hx42, hr43, hF44⟩
              show Wn _ 176 _ (101, [(1, .int (nI (mn L mo))), (0, .ref 77)], [], M36)
              obtain ⟨g45, hg46⟩ : ∃ g9, M36.1 77 = g9 := ⟨_, rfl⟩
              rw [hg46] at h837 h938 h639 h340 hx42
              have hf47 : g45 1 = (nI L) := (hx42 1 (by decide)).trans ((pk_un (by decide)).trans hfo_1)
              have hf48 : g45 2 = (nI mo) := (hx42 2 (by decide)).trans ((pk_un (by decide)).trans hfo_2)
              have hf49 : g45 4 = (nI (mn z (mn L mo))) := (hx42 4 (by decide)).trans pk_us
              have hf50 : g45 5 = (nI st) := (hx42 5 (by decide)).trans ((pk_un (by decide)).trans hfo_5)
              have hf51 : g45 11 = (nI fk) := (hx42 11 (by decide)).trans ((pk_un (by decide)).trans hfo_11)
              have hf52 : g45 12 = (nI fp) := (hx42 12 (by decide)).trans ((pk_un (by decide)).trans hfo_12)
              have hr53 := hr43.trans hk32
              have hu54 := frI_fun hF44 (by decide) hu34
              have hF55 := fr_tr hF35 hF44 (by decide)
              have rs9 := rl_sum T L z
              have rle := rl_le (T := T) (show z ≤ L by omega)
              refine Wn.run (tab := tb_rd_advance) rfl 6 (c' := (if ¬ ((M36.1 77 8) + (M36.1 77 9)) = 0 then 146 else 113, [(1, .int (nI (mn L mo))), (0, .ref 77)], [], M36)) (o := [shp 77 = (0, 3), shp 77 = (0, 3)]) rfl ⟨rfl, rfl⟩ ?_
              refine Wn.br (fun h6 => ?_) (fun h6 => ?_)
              · show Wn _ 176 _ (146, [(1, .int (nI (mn L mo))), (0, .ref 77)], [], M36)
                have h6 := mt (n_eq (n_add (fr_eq hg46 (show g45 8 = (nI (nLt T z (rl T L z))) from h837)) (fr_eq hg46 (show g45 9 = (nI (nDg T z (rl T L z))) from h938))) nI_0.symm (by omega) (by omega)).mpr h6
                refine Wn.run (tab := tb_rd_advance) rfl 3 (c' := (if ¬ (M36.1 77 9) = 0 then 179 else 153, [(1, .int (nI (mn L mo))), (0, .ref 77)], [], M36)) (o := [shp 77 = (0, 3)]) rfl rfl ?_
                refine Wn.br (fun h7 => ?_) (fun h7 => ?_)
                · show Wn _ 176 _ (179, [(1, .int (nI (mn L mo))), (0, .ref 77)], [], M36)
                  have h7 := mt (n_eq (fr_eq hg46 (show g45 9 = (nI (nDg T z (rl T L z))) from h938)) nI_0.symm (by omega) (by omega)).mpr h7
                  refine Wn.run (tab := tb_rd_advance) rfl 4 (c' := (if ¬ (M36.1 77 8) = 0 then 201 else 187, [(1, .int (nI (mn L mo))), (0, .ref 77)], [.ref 77], M36)) (o := [shp 77 = (0, 3)]) rfl rfl ?_
                  refine Wn.br (fun h8 => ?_) (fun h8 => ?_)
                  · show Wn _ 176 _ (201, [(1, .int (nI (mn L mo))), (0, .ref 77)], [.ref 77], M36)
                    have h8 := mt (n_eq (fr_eq hg46 (show g45 8 = (nI (nLt T z (rl T L z))) from h837)) nI_0.symm (by omega) (by omega)).mpr h8
                    refine Wn.run (tab := tb_rd_advance) rfl 2 (c' := (207, [(1, .int (nI (mn L mo))), (0, .ref 77)], [], (mR M36 77 (va_up (M36.2.2 77) 10 100001)))) (o := [shp 77 = (0, 3), isK 100001]) rfl ⟨rfl, ⟨by decide, by decide⟩⟩ ?_
                    generalize hM57 : (mR M36 77 (va_up (M36.2.2 77) 10 100001)) = M56
                    have hk58 := fI_oR hM57 hg46
                    have hk59 := fR_up hM57 hr53
                    have hu60 := fI_oR hM57 hu54
                    have hF61 := fr_sR hF55 hM57 (by decide)
                    have hj62 := jc_oR hM57 h741
                    show Wn _ 176 _ (207, [(1, .int (nI (mn L mo))), (0, .ref 77)], [], M56)
                    have ks9 : True := trivial
                    have e1 : ¬ (mn L mo) ≤ sk T L p := by omega
                    have e3 : tAt T L mo p = mn z (mn L mo) := by unfold tAt; rw [sk9]
                    have er : tRl T L p = rl T L z := by unfold tRl; rw [sk9]
                    have t9 := (hT z (by omega)).2
                    have e2 : tKd T L mo p = 1 := by unfold tKd; rw [if_neg e1, if_neg (by omega), er, sk9, if_neg (by omega), if_neg (by omega)]
                    have e4 : 100000 + (if tKd T L mo p = 36 then 0 else tKd T L mo p) = 100001 := by rw [if_neg (by omega), e2]
                    refine Wn.vret rfl ⟨rfl, ⟨by rw [hk58]; exact hf47, by rw [hk58]; exact hf48, by rw [hk58, e3]; exact hf49, by rw [hk58]; exact hf50, by rw [hk58]; exact hf51, by rw [hk58]; exact hf52, by rw [hk59, e4]; exact (va_up_self _ _ _), fun q1 q2 => ?_, fun q1 => ?_, fun q1 => ?_⟩, hF61⟩
                    · exact (by rw [hk58, show tNx T L p = z + rl T L z from by unfold tNx; rw [if_neg (by omega), er, sk9]]; exact h340)
                    · exact absurd q1 (by omega)
                    · exact absurd q1 (by omega)
                  · show Wn _ 176 _ (187, [(1, .int (nI (mn L mo))), (0, .ref 77)], [.ref 77], M36)
                    have h8 := (n_eq (fr_eq hg46 (show g45 8 = (nI (nLt T z (rl T L z))) from h837)) nI_0.symm (by omega) (by omega)).mp (Classical.not_not.mp h8)
                    refine Wn.run (tab := tb_rd_advance) rfl 4 (c' := (if (nI 3) < (M36.1 77 9) then 201 else 195, [(1, .int (nI (mn L mo))), (0, .ref 77)], [.ref 77], M36)) (o := [shp 77 = (0, 3)]) rfl rfl ?_
                    refine Wn.br (fun h9 => ?_) (fun h9 => ?_)
                    · show Wn _ 176 _ (201, [(1, .int (nI (mn L mo))), (0, .ref 77)], [.ref 77], M36)
                      have h9 := (n_lt rfl (fr_eq hg46 (show g45 9 = (nI (nDg T z (rl T L z))) from h938)) (by omega) (by omega)).mp h9
                      refine Wn.run (tab := tb_rd_advance) rfl 2 (c' := (207, [(1, .int (nI (mn L mo))), (0, .ref 77)], [], (mR M36 77 (va_up (M36.2.2 77) 10 100001)))) (o := [shp 77 = (0, 3), isK 100001]) rfl ⟨rfl, ⟨by decide, by decide⟩⟩ ?_
                      generalize hM64 : (mR M36 77 (va_up (M36.2.2 77) 10 100001)) = M63
                      have hk65 := fI_oR hM64 hg46
                      have hk66 := fR_up hM64 hr53
                      have hu67 := fI_oR hM64 hu54
                      have hF68 := fr_sR hF55 hM64 (by decide)
                      have hj69 := jc_oR hM64 h741
                      show Wn _ 176 _ (207, [(1, .int (nI (mn L mo))), (0, .ref 77)], [], M63)
                      have ks9 : True := trivial
                      have e1 : ¬ (mn L mo) ≤ sk T L p := by omega
                      have e3 : tAt T L mo p = mn z (mn L mo) := by unfold tAt; rw [sk9]
                      have er : tRl T L p = rl T L z := by unfold tRl; rw [sk9]
                      have t9 := (hT z (by omega)).2
                      have e2 : tKd T L mo p = 1 := by unfold tKd; rw [if_neg e1, if_neg (by omega), er, sk9, if_neg (by omega), if_neg (by omega)]
                      have e4 : 100000 + (if tKd T L mo p = 36 then 0 else tKd T L mo p) = 100001 := by rw [if_neg (by omega), e2]
                      refine Wn.vret rfl ⟨rfl, ⟨by rw [hk65]; exact hf47, by rw [hk65]; exact hf48, by rw [hk65, e3]; exact hf49, by rw [hk65]; exact hf50, by rw [hk65]; exact hf51, by rw [hk65]; exact hf52, by rw [hk66, e4]; exact (va_up_self _ _ _), fun q1 q2 => ?_, fun q1 => ?_, fun q1 => ?_⟩, hF68⟩
                      · exact (by rw [hk65, show tNx T L p = z + rl T L z from by unfold tNx; rw [if_neg (by omega), er, sk9]]; exact h340)
                      · exact absurd q1 (by omega)
                      · exact absurd q1 (by omega)
                    · show Wn _ 176 _ (195, [(1, .int (nI (mn L mo))), (0, .ref 77)], [.ref 77], M36)
                      have h9 := mt (n_lt rfl (fr_eq hg46 (show g45 9 = (nI (nDg T z (rl T L z))) from h938)) (by omega) (by omega)).mpr h9
                      refine Wn.run (tab := tb_rd_advance) rfl 3 (c' := (207, [(1, .int (nI (mn L mo))), (0, .ref 77)], [], (mR M36 77 (va_up (M36.2.2 77) 10 100002)))) (o := [shp 77 = (0, 3), isK 100002]) rfl ⟨rfl, ⟨by decide, by decide⟩⟩ ?_
                      generalize hM71 : (mR M36 77 (va_up (M36.2.2 77) 10 100002)) = M70
                      have hk72 := fI_oR hM71 hg46
                      have hk73 := fR_up hM71 hr53
                      have hu74 := fI_oR hM71 hu54
                      have hF75 := fr_sR hF55 hM71 (by decide)
                      have hj76 := jc_oR hM71 h741
                      show Wn _ 176 _ (207, [(1, .int (nI (mn L mo))), (0, .ref 77)], [], M70)
                      have ks9 : True := trivial
                      have e1 : ¬ (mn L mo) ≤ sk T L p := by omega
                      have e3 : tAt T L mo p = mn z (mn L mo) := by unfold tAt; rw [sk9]
                      have er : tRl T L p = rl T L z := by unfold tRl; rw [sk9]
                      have t9 := (hT z (by omega)).2
                      have e2 : tKd T L mo p = 2 := by unfold tKd; rw [if_neg e1, if_neg (by omega), er, sk9, if_neg (by omega), if_pos (by omega)]
                      have e4 : 100000 + (if tKd T L mo p = 36 then 0 else tKd T L mo p) = 100002 := by rw [if_neg (by omega), e2]
                      refine Wn.vret rfl ⟨rfl, ⟨by rw [hk72]; exact hf47, by rw [hk72]; exact hf48, by rw [hk72, e3]; exact hf49, by rw [hk72]; exact hf50, by rw [hk72]; exact hf51, by rw [hk72]; exact hf52, by rw [hk73, e4]; exact (va_up_self _ _ _), fun q1 q2 => ?_, fun q1 => ?_, fun q1 => ?_⟩, hF75⟩
                      · exact (by rw [hk72, show tNx T L p = z + rl T L z from by unfold tNx; rw [if_neg (by omega), er, sk9]]; exact h340)
                      · rw [hk72, show tVl T L p = nVl T z (rl T L z) from by unfold tVl; rw [er, sk9]]; exact h639
                      · exact absurd q1 (by omega)
                · show Wn _ 176 _ (153, [(1, .int (nI (mn L mo))), (0, .ref 77)], [], M36)
                  have h7 := (n_eq (fr_eq hg46 (show g45 9 = (nI (nDg T z (rl T L z))) from h938)) nI_0.symm (by omega) (by omega)).mp (Classical.not_not.mp h7)
                  refine Wn.run (tab := tb_rd_advance) rfl 4 (c' := (if (nI 7) < (M36.1 77 8) then 179 else 162, [(1, .int (nI (mn L mo))), (0, .ref 77)], [], M36)) (o := [shp 77 = (0, 3)]) rfl rfl ?_
                  refine Wn.br (fun h10 => ?_) (fun h10 => ?_)
                  · show Wn _ 176 _ (179, [(1, .int (nI (mn L mo))), (0, .ref 77)], [], M36)
                    have h10 := (n_lt rfl (fr_eq hg46 (show g45 8 = (nI (nLt T z (rl T L z))) from h837)) (by omega) (by omega)).mp h10
                    refine Wn.run (tab := tb_rd_advance) rfl 4 (c' := (if ¬ (M36.1 77 8) = 0 then 201 else 187, [(1, .int (nI (mn L mo))), (0, .ref 77)], [.ref 77], M36)) (o := [shp 77 = (0, 3)]) rfl rfl ?_
                    refine Wn.br (fun h11 => ?_) (fun h11 => ?_)
                    · show Wn _ 176 _ (201, [(1, .int (nI (mn L mo))), (0, .ref 77)], [.ref 77], M36)
                      have h11 := mt (n_eq (fr_eq hg46 (show g45 8 = (nI (nLt T z (rl T L z))) from h837)) nI_0.symm (by omega) (by omega)).mpr h11
                      refine Wn.run (tab := tb_rd_advance) rfl 2 (c' := (207, [(1, .int (nI (mn L mo))), (0, .ref 77)], [], (mR M36 77 (va_up (M36.2.2 77) 10 100001)))) (o := [shp 77 = (0, 3), isK 100001]) rfl ⟨rfl, ⟨by decide, by decide⟩⟩ ?_
                      generalize hM78 : (mR M36 77 (va_up (M36.2.2 77) 10 100001)) = M77
                      have hk79 := fI_oR hM78 hg46
                      have hk80 := fR_up hM78 hr53
                      have hu81 := fI_oR hM78 hu54
                      have hF82 := fr_sR hF55 hM78 (by decide)
                      have hj83 := jc_oR hM78 h741
                      show Wn _ 176 _ (207, [(1, .int (nI (mn L mo))), (0, .ref 77)], [], M77)
                      have ks9 : True := trivial
                      have e1 : ¬ (mn L mo) ≤ sk T L p := by omega
                      have e3 : tAt T L mo p = mn z (mn L mo) := by unfold tAt; rw [sk9]
                      have er : tRl T L p = rl T L z := by unfold tRl; rw [sk9]
                      have t9 := (hT z (by omega)).2
                      have e2 : tKd T L mo p = 1 := by unfold tKd; rw [if_neg e1, if_neg (by omega), er, sk9, if_neg (by omega), if_neg (by omega)]
                      have e4 : 100000 + (if tKd T L mo p = 36 then 0 else tKd T L mo p) = 100001 := by rw [if_neg (by omega), e2]
                      refine Wn.vret rfl ⟨rfl, ⟨by rw [hk79]; exact hf47, by rw [hk79]; exact hf48, by rw [hk79, e3]; exact hf49, by rw [hk79]; exact hf50, by rw [hk79]; exact hf51, by rw [hk79]; exact hf52, by rw [hk80, e4]; exact (va_up_self _ _ _), fun q1 q2 => ?_, fun q1 => ?_, fun q1 => ?_⟩, hF82⟩
                      · exact (by rw [hk79, show tNx T L p = z + rl T L z from by unfold tNx; rw [if_neg (by omega), er, sk9]]; exact h340)
                      · exact absurd q1 (by omega)
                      · exact absurd q1 (by omega)
                    · show Wn _ 176 _ (187, [(1, .int (nI (mn L mo))), (0, .ref 77)], [.ref 77], M36)
                      have h11 := (n_eq (fr_eq hg46 (show g45 8 = (nI (nLt T z (rl T L z))) from h837)) nI_0.symm (by omega) (by omega)).mp (Classical.not_not.mp h11)
                      refine Wn.run (tab := tb_rd_advance) rfl 4 (c' := (if (nI 3) < (M36.1 77 9) then 201 else 195, [(1, .int (nI (mn L mo))), (0, .ref 77)], [.ref 77], M36)) (o := [shp 77 = (0, 3)]) rfl rfl ?_
                      refine Wn.br (fun h12 => ?_) (fun h12 => ?_)
                      · show Wn _ 176 _ (201, [(1, .int (nI (mn L mo))), (0, .ref 77)], [.ref 77], M36)
                        have h12 := (n_lt rfl (fr_eq hg46 (show g45 9 = (nI (nDg T z (rl T L z))) from h938)) (by omega) (by omega)).mp h12
                        refine Wn.run (tab := tb_rd_advance) rfl 2 (c' := (207, [(1, .int (nI (mn L mo))), (0, .ref 77)], [], (mR M36 77 (va_up (M36.2.2 77) 10 100001)))) (o := [shp 77 = (0, 3), isK 100001]) rfl ⟨rfl, ⟨by decide, by decide⟩⟩ ?_
                        generalize hM85 : (mR M36 77 (va_up (M36.2.2 77) 10 100001)) = M84
                        have hk86 := fI_oR hM85 hg46
                        have hk87 := fR_up hM85 hr53
                        have hu88 := fI_oR hM85 hu54
                        have hF89 := fr_sR hF55 hM85 (by decide)
                        have hj90 := jc_oR hM85 h741
                        show Wn _ 176 _ (207, [(1, .int (nI (mn L mo))), (0, .ref 77)], [], M84)
                        have ks9 : True := trivial
                        have e1 : ¬ (mn L mo) ≤ sk T L p := by omega
                        have e3 : tAt T L mo p = mn z (mn L mo) := by unfold tAt; rw [sk9]
                        have er : tRl T L p = rl T L z := by unfold tRl; rw [sk9]
                        have t9 := (hT z (by omega)).2
                        have e2 : tKd T L mo p = 1 := by unfold tKd; rw [if_neg e1, if_neg (by omega), er, sk9, if_neg (by omega), if_neg (by omega)]
                        have e4 : 100000 + (if tKd T L mo p = 36 then 0 else tKd T L mo p) = 100001 := by rw [if_neg (by omega), e2]
                        refine Wn.vret rfl ⟨rfl, ⟨by rw [hk86]; exact hf47, by rw [hk86]; exact hf48, by rw [hk86, e3]; exact hf49, by rw [hk86]; exact hf50, by rw [hk86]; exact hf51, by rw [hk86]; exact hf52, by rw [hk87, e4]; exact (va_up_self _ _ _), fun q1 q2 => ?_, fun q1 => ?_, fun q1 => ?_⟩, hF89⟩
                        · exact (by rw [hk86, show tNx T L p = z + rl T L z from by unfold tNx; rw [if_neg (by omega), er, sk9]]; exact h340)
                        · exact absurd q1 (by omega)
                        · exact absurd q1 (by omega)
                      · show Wn _ 176 _ (195, [(1, .int (nI (mn L mo))), (0, .ref 77)], [.ref 77], M36)
                        have h12 := mt (n_lt rfl (fr_eq hg46 (show g45 9 = (nI (nDg T z (rl T L z))) from h938)) (by omega) (by omega)).mpr h12
                        refine Wn.run (tab := tb_rd_advance) rfl 3 (c' := (207, [(1, .int (nI (mn L mo))), (0, .ref 77)], [], (mR M36 77 (va_up (M36.2.2 77) 10 100002)))) (o := [shp 77 = (0, 3), isK 100002]) rfl ⟨rfl, ⟨by decide, by decide⟩⟩ ?_
                        generalize hM92 : (mR M36 77 (va_up (M36.2.2 77) 10 100002)) = M91
                        have hk93 := fI_oR hM92 hg46
                        have hk94 := fR_up hM92 hr53
                        have hu95 := fI_oR hM92 hu54
                        have hF96 := fr_sR hF55 hM92 (by decide)
                        have hj97 := jc_oR hM92 h741
                        show Wn _ 176 _ (207, [(1, .int (nI (mn L mo))), (0, .ref 77)], [], M91)
                        have ks9 : True := trivial
                        have e1 : ¬ (mn L mo) ≤ sk T L p := by omega
                        have e3 : tAt T L mo p = mn z (mn L mo) := by unfold tAt; rw [sk9]
                        have er : tRl T L p = rl T L z := by unfold tRl; rw [sk9]
                        have t9 := (hT z (by omega)).2
                        have e2 : tKd T L mo p = 2 := by unfold tKd; rw [if_neg e1, if_neg (by omega), er, sk9, if_neg (by omega), if_pos (by omega)]
                        have e4 : 100000 + (if tKd T L mo p = 36 then 0 else tKd T L mo p) = 100002 := by rw [if_neg (by omega), e2]
                        refine Wn.vret rfl ⟨rfl, ⟨by rw [hk93]; exact hf47, by rw [hk93]; exact hf48, by rw [hk93, e3]; exact hf49, by rw [hk93]; exact hf50, by rw [hk93]; exact hf51, by rw [hk93]; exact hf52, by rw [hk94, e4]; exact (va_up_self _ _ _), fun q1 q2 => ?_, fun q1 => ?_, fun q1 => ?_⟩, hF96⟩
                        · exact (by rw [hk93, show tNx T L p = z + rl T L z from by unfold tNx; rw [if_neg (by omega), er, sk9]]; exact h340)
                        · rw [hk93, show tVl T L p = nVl T z (rl T L z) from by unfold tVl; rw [er, sk9]]; exact h639
                        · exact absurd q1 (by omega)
                  · show Wn _ 176 _ (162, [(1, .int (nI (mn L mo))), (0, .ref 77)], [], M36)
                    have h10 := mt (n_lt rfl (fr_eq hg46 (show g45 8 = (nI (nLt T z (rl T L z))) from h837)) (by omega) (by omega)).mpr h10
                    refine Wn.run (tab := tb_rd_advance) rfl 4 (c' := (170, [(1, .int (nI (mn L mo))), (0, .ref 77)], [.ref 100003, .long (M36.2.1 77 7), .ref 77], M36)) (o := [shp 77 = (0, 3)]) rfl rfl ?_
                    rw [show (M36.2.1 77 7) = (nNm T z (rl T L z)) from h741]
                    refine Wn.callS (n := 2) (ix := 71) (fun r0 M0 => r0 = some (.ref (100000 + kc (nNm T z (rl T L z)) 3)) ∧ M36 = M0) [.long (nNm T z (rl T L z)), .ref 100003] [.ref 77] rfl rfl rfl (Nat.le_of_ble_eq_true rfl) (Nat.le_of_ble_eq_true rfl) (w_kd_byCode _ (nNm T z (rl T L z)) 3 M36 _ ⟨rfl, rfl⟩) ?_
                    rintro _ _ ⟨rfl, rfl⟩
                    show Wn _ 176 _ (173, [(1, .int (nI (mn L mo))), (0, .ref 77)], [.ref (100000 + kc (nNm T z (rl T L z)) 3), .ref 77], M36)
                    refine Wn.run (tab := tb_rd_advance) rfl 1 (c' := (176, [(1, .int (nI (mn L mo))), (0, .ref 77)], [], (mR M36 77 (va_up (M36.2.2 77) 10 (100000 + kc (nNm T z (rl T L z)) 3))))) (o := [shp 77 = (0, 3), isK (100000 + kc (nNm T z (rl T L z)) 3)]) rfl ⟨rfl, (isK_kc _ _ (by decide))⟩ ?_
                    generalize hM99 : (mR M36 77 (va_up (M36.2.2 77) 10 (100000 + kc (nNm T z (rl T L z)) 3))) = M98
                    have hk100 := fI_oR hM99 hg46
                    have hk101 := fR_up hM99 hr53
                    have hu102 := fI_oR hM99 hu54
                    have hF103 := fr_sR hF55 hM99 (by decide)
                    have hj104 := jc_oR hM99 h741
                    show Wn _ 176 _ (176, [(1, .int (nI (mn L mo))), (0, .ref 77)], [], M98)
                    refine Wn.run (tab := tb_rd_advance) rfl 1 (c' := (207, [(1, .int (nI (mn L mo))), (0, .ref 77)], [], M98)) (o := []) rfl trivial ?_
                    have ks9 : True := trivial
                    have e1 : ¬ (mn L mo) ≤ sk T L p := by omega
                    have e3 : tAt T L mo p = mn z (mn L mo) := by unfold tAt; rw [sk9]
                    have er : tRl T L p = rl T L z := by unfold tRl; rw [sk9]
                    have t9 := (hT z (by omega)).2
                    have e2 : tKd T L mo p = kc (nNm T z (rl T L z)) 3 := by unfold tKd; rw [if_neg e1, if_neg (by omega), er, sk9, if_pos ⟨by omega, by omega⟩]; unfold tNm; rw [er, sk9]
                    have kl := tok_word (T := T) (L := L) (s := z) (by omega) (by omega) (by omega)
                    have kl2 := kc_lt (nNm T z (rl T L z)) 3 (by decide)
                    have e4 : 100000 + (if tKd T L mo p = 36 then 0 else tKd T L mo p) = (100000 + kc (nNm T z (rl T L z)) 3) := by rw [if_neg (by omega), e2]
                    refine Wn.vret rfl ⟨rfl, ⟨by rw [hk100]; exact hf47, by rw [hk100]; exact hf48, by rw [hk100, e3]; exact hf49, by rw [hk100]; exact hf50, by rw [hk100]; exact hf51, by rw [hk100]; exact hf52, by rw [hk101, e4]; exact (va_up_self _ _ _), fun q1 q2 => ?_, fun q1 => ?_, fun q1 => ?_⟩, hF103⟩
                    · exact (by rw [hk100, show tNx T L p = z + rl T L z from by unfold tNx; rw [if_neg (by omega), er, sk9]]; exact h340)
                    · exact absurd q1 (by omega)
                    · rw [show tNm T L p = nNm T z (rl T L z) from by unfold tNm; rw [er, sk9]]; exact hj104
              · show Wn _ 176 _ (113, [(1, .int (nI (mn L mo))), (0, .ref 77)], [], M36)
                have h6 := (n_eq (n_add (fr_eq hg46 (show g45 8 = (nI (nLt T z (rl T L z))) from h837)) (fr_eq hg46 (show g45 9 = (nI (nDg T z (rl T L z))) from h938))) nI_0.symm (by omega) (by omega)).mp (Classical.not_not.mp h6)
                refine Wn.run (tab := tb_rd_advance) rfl 8 (c' := (127, [(1, .int (nI (mn L mo))), (0, .ref 77)], [.ref 100001, .long ((M36.1 1 ((M36.1 77 3)).toNatClampNeg)).toInt64, .ref 77], M36)) (o := [shp 77 = (0, 3), shp 77 = (0, 3), aok shp 1 0 (M36.1 77 3)]) rfl ⟨rfl, rfl, (ak1 (n := 940) rfl rfl (fr_eq hg46 (show g45 3 = (nI (z + rl T L z)) from h340)) (by omega))⟩ ?_
                rw [show (M36.1 77 3) = (nI (z + rl T L z)) from (fr_eq hg46 (show g45 3 = (nI (z + rl T L z)) from h340))]
                rw [show (M36.1 1 ((nI (z + rl T L z))).toNatClampNeg) = (nI (T (z + rl T L z))) from (tb_rd hu54 hT rfl (by omega) (by omega))]
                refine Wn.callS (n := 2) (ix := 71) (fun r0 M0 => r0 = some (.ref (100000 + kc (((nI (T (z + rl T L z)))).toInt64) 1)) ∧ M36 = M0) [.long ((nI (T (z + rl T L z)))).toInt64, .ref 100001] [.ref 77] rfl rfl rfl (Nat.le_of_ble_eq_true rfl) (Nat.le_of_ble_eq_true rfl) (w_kd_byCode _ (((nI (T (z + rl T L z)))).toInt64) 1 M36 _ ⟨rfl, rfl⟩) ?_
                rintro _ _ ⟨rfl, rfl⟩
                show Wn _ 176 _ (130, [(1, .int (nI (mn L mo))), (0, .ref 77)], [.ref (100000 + kc (((nI (T (z + rl T L z)))).toInt64) 1), .ref 77], M36)
                refine Wn.run (tab := tb_rd_advance) rfl 1 (c' := (133, [(1, .int (nI (mn L mo))), (0, .ref 77)], [], (mR M36 77 (va_up (M36.2.2 77) 10 (100000 + kc (((nI (T (z + rl T L z)))).toInt64) 1))))) (o := [shp 77 = (0, 3), isK (100000 + kc (((nI (T (z + rl T L z)))).toInt64) 1)]) rfl ⟨rfl, (isK_kc _ _ (by decide))⟩ ?_
                generalize hM106 : (mR M36 77 (va_up (M36.2.2 77) 10 (100000 + kc (((nI (T (z + rl T L z)))).toInt64) 1))) = M105
                have hk107 := fI_oR hM106 hg46
                have hk108 := fR_up hM106 hr53
                have hu109 := fI_oR hM106 hu54
                have hF110 := fr_sR hF55 hM106 (by decide)
                have hj111 := jc_oR hM106 h741
                show Wn _ 176 _ (133, [(1, .int (nI (mn L mo))), (0, .ref 77)], [], M105)
                refine Wn.run (tab := tb_rd_advance) rfl 6 (c' := (143, [(1, .int (nI (mn L mo))), (0, .ref 77)], [], (mI M105 77 (upd (M105.1 77) 3 ((M105.1 77 3) + (nI 1)))))) (o := [shp 77 = (0, 3), shp 77 = (0, 3)]) rfl ⟨rfl, rfl⟩ ?_
                rw [show (M105.1 77 3) = (nI (z + rl T L z)) from (fr_eq hk107 (show g45 3 = (nI (z + rl T L z)) from h340))]
                rw [show ((nI (z + rl T L z)) + (nI 1)) = (nI ((z + rl T L z) + 1)) from (n_add rfl rfl)]
                generalize hM113 : (mI M105 77 (upd (M105.1 77) 3 (nI ((z + rl T L z) + 1)))) = M112
                have hk114 := fI_up hM113 hk107
                have hk115 := fR_oI hM113 hk108
                have hu116 := fI_ne hM113 (by decide) hu109
                have hF117 := fr_sI hF110 hM113 (by decide)
                have hj118 := jc_oI hM113 hj111
                show Wn _ 176 _ (143, [(1, .int (nI (mn L mo))), (0, .ref 77)], [], M112)
                refine Wn.run (tab := tb_rd_advance) rfl 1 (c' := (207, [(1, .int (nI (mn L mo))), (0, .ref 77)], [], M112)) (o := []) rfl trivial ?_
                have ks9 : True := trivial
                have e1 : ¬ (mn L mo) ≤ sk T L p := by omega
                have e3 : tAt T L mo p = mn z (mn L mo) := by unfold tAt; rw [sk9]
                have er : tRl T L p = rl T L z := by unfold tRl; rw [sk9]
                have t9 := (hT z (by omega)).2
                have e2 : tKd T L mo p = kc (nI (T z)).toInt64 1 := by unfold tKd; rw [if_neg e1, if_pos (by omega), sk9]
                have kl := tok_sign t9
                have kl2 := kc_lt (nI (T z)).toInt64 1 (by decide)
                have e4 : 100000 + (if tKd T L mo p = 36 then 0 else tKd T L mo p) = (100000 + kc (((nI (T (z + rl T L z)))).toInt64) 1) := by rw [if_neg (by omega), e2, show z + rl T L z = z by omega]
                refine Wn.vret rfl ⟨rfl, ⟨by rw [hk114]; exact ((pk_un (by decide)).trans hf47), by rw [hk114]; exact ((pk_un (by decide)).trans hf48), by rw [hk114, e3]; exact ((pk_un (by decide)).trans hf49), by rw [hk114]; exact ((pk_un (by decide)).trans hf50), by rw [hk114]; exact ((pk_un (by decide)).trans hf51), by rw [hk114]; exact ((pk_un (by decide)).trans hf52), by rw [hk115, e4]; exact (va_up_self _ _ _), fun q1 q2 => ?_, fun q1 => ?_, fun q1 => ?_⟩, hF117⟩
                · exact (by rw [hk114, show tNx T L p = z + rl T L z + 1 from by unfold tNx; rw [if_pos (by omega), sk9]; omega]; exact pk_us)
                · exact absurd q1 (by omega)
                · exact absurd q1 (by omega)
            · show Wn _ 176 _ (89, [(1, .int (nI (mn L mo))), (0, .ref 77)], [], M29)
              have h5 := mt (n_lt (fr_eq hk31 (show (upd go 4 (nI (mn z (mn L mo)))) 3 = (nI z) from ((pk_un (by decide)).trans hfo_3))) rfl (by omega) (by omega)).mpr h5
              exact absurd h5 (by omega)
          · show Wn _ 176 _ (56, [(1, .int (nI (mn L mo))), (0, .ref 77)], [], N)
            have h4 := (n_eq (tb_rd loop_5 hT (fr_eq hgo (show go 3 = (nI z) from hfo_3)) (by omega) (by omega)) rfl (by omega) (by omega)).mp (Classical.not_not.mp h4)
            refine Wn.run (tab := tb_rd_advance) rfl 6 (c' := (66, [(1, .int (nI (mn L mo))), (0, .ref 77)], [], (mI N 77 (upd (N.1 77) 3 ((N.1 77 3) + (nI 1)))))) (o := [shp 77 = (0, 3), shp 77 = (0, 3)]) rfl ⟨rfl, rfl⟩ ?_
            rw [show (N.1 77 3) = (nI z) from (fr_eq hgo (show go 3 = (nI z) from hfo_3))]
            rw [show ((nI z) + (nI 1)) = (nI (z + 1)) from (n_add rfl rfl)]
            generalize hM120 : (mI N 77 (upd (N.1 77) 3 (nI (z + 1)))) = M119
            have hk121 := fI_up hM120 hgo
            have hk122 := fR_oI hM120 loop_3
            have hk123 := fJ_oI hM120 loop_4
            have hu124 := fI_ne hM120 (by decide) loop_5
            have hF125 := fr_sI loop_6 hM120 (by decide)
            show Wn _ 176 _ (66, [(1, .int (nI (mn L mo))), (0, .ref 77)], [], M119)
            refine Wn.run (tab := tb_rd_advance) rfl 1 (c' := (20, [(1, .int (nI (mn L mo))), (0, .ref 77)], [], M119)) (o := []) rfl trivial ?_
            exact ih (L - (z + 1)) (by omega) (z + 1) M119 rfl (by omega) (by rw [hk121]; exact pk_us) (by rw [hk121]; exact ((pk_un (by decide)).trans hfo_5)) (by rw [hk121]; exact (Gx_up hxo (by decide))) hk122 hk123 hu124 hF125 (fun i hi hi2 => if e : i = z then (by rw [e]; exact ⟨by omega, by omega⟩) else loop_x0 i hi (by omega)) (by omega)
  exact loop (L - p) p M1 rfl (by omega) (by rw [hk3]; exact ((pk_un (by decide)).trans hp)) (by rw [hk3]; exact pk_us) (by rw [hk3]; exact (Gx_up (Gx_rf _ _) (by decide))) hk4 hk5 hu6 hF7 (fun i hi hi2 => absurd hi (by omega)) (Nat.le_refl _)
