/-! The class's reader. -/
theorem isK_cl {z : Nat} (h : z < 36) : isK (100000 + (nI z).toNatClampNeg) := by
  rw [nI_clamp (by omega)]
  exact ⟨by omega, by omega⟩
theorem kz {z : Nat} {n : Int64} (hz : z < 36) : lg_cmp (Int64.ofInt (kcodes.getD ((100000 + (nI z).toNatClampNeg) - 100000) 0)) n = 0 ↔ Int64.ofInt (kcodes.getD z 0) = n := by
  rw [lg_cmp_eq, nI_clamp (by omega), Nat.add_sub_cancel_left]
set_option maxRecDepth 20000 in
theorem w_kd_byCode (d : Nat) (n : Int64) (d0 : Nat) (M : Mm) (Q : Po) (hQ : Q (some (.ref (100000 + kc n d0))) M) : Wn (d + 0) 160 Q (0, lv_args 0 [.long n, .ref (100000 + d0)], [], M) := by
  refine Wn.run (tab := tb_kd_byCode) rfl 2 (c' := (2, [(3, .int (nI 0)), (0, .long n), (2, .ref (100000 + d0))], [], M)) (o := []) rfl trivial ?_
  have loop : ∀ (m : Nat) (z : Nat), 36 - z = m → (z ≤ 36) → (∀ i, i < z → ¬ Int64.ofInt (kcodes.getD i 0) = n) → Wn (d + 0) 160 Q (2, [(3, .int (nI z)), (0, .long n), (2, .ref (100000 + d0))], [], M) := by
    intro m
    induction m using Nat.strongRecOn with
    | _ m ih =>
      intro z hm loop_0 loop_1
      refine Wn.run (tab := tb_kd_byCode) rfl 4 (c' := (if (nI 36) ≤ (nI z) then 35 else 10, [(3, .int (nI z)), (0, .long n), (2, .ref (100000 + d0))], [], M)) (o := [200002 = 200002]) rfl rfl ?_
      refine Wn.br (fun h1 => ?_) (fun h1 => ?_)
      · show Wn _ 160 _ (35, [(3, .int (nI z)), (0, .long n), (2, .ref (100000 + d0))], [], M)
        have h1 := (n_le rfl rfl (by omega) (by omega)).mp h1
        refine Wn.run (tab := tb_kd_byCode) rfl 1 (c' := (36, [(3, .int (nI z)), (0, .long n), (2, .ref (100000 + d0))], [.ref (100000 + d0)], M)) (o := []) rfl trivial ?_
        exact Wn.aret rfl (by rw [show kc n d0 = d0 from kc_none kcodes 0 (fun i hi => loop_1 i (by have := (show kcodes.length = 36 by decide); omega))] at hQ; exact hQ)
      · show Wn _ 160 _ (10, [(3, .int (nI z)), (0, .long n), (2, .ref (100000 + d0))], [], M)
        have h1 := mt (n_le rfl rfl (by omega) (by omega)).mpr h1
        refine Wn.run (tab := tb_kd_byCode) rfl 7 (c' := (if ¬ (lg_cmp (Int64.ofInt (kcodes.getD ((100000 + ((nI z)).toNatClampNeg) - 100000) 0)) n) = 0 then 29 else 23, [(3, .int (nI z)), (0, .long n), (2, .ref (100000 + d0))], [], M)) (o := [200002 = 200002, vp_in (nI z) 36, isK (100000 + ((nI z)).toNatClampNeg)]) rfl ⟨rfl, (vp_in_e rfl (by omega) (by decide)), (isK_cl (by omega))⟩ ?_
        refine Wn.br (fun h2 => ?_) (fun h2 => ?_)
        · show Wn _ 160 _ (29, [(3, .int (nI z)), (0, .long n), (2, .ref (100000 + d0))], [], M)
          have h2 := mt (kz (by omega)).mpr h2
          refine Wn.run (tab := tb_kd_byCode) rfl 2 (c' := (2, [(3, .int ((nI z) + (nI 1))), (0, .long n), (2, .ref (100000 + d0))], [], M)) (o := []) rfl trivial ?_
          rw [show ((nI z) + (nI 1)) = (nI (z + 1)) from nI_add _ _]
          exact ih _ (by omega) (z + 1) rfl (by omega) (fun i hi => if e : i = z then (by rw [e]; exact h2) else loop_1 i (by omega))
        · show Wn _ 160 _ (23, [(3, .int (nI z)), (0, .long n), (2, .ref (100000 + d0))], [], M)
          have h2 := (kz (by omega)).mp (Classical.not_not.mp h2)
          refine Wn.run (tab := tb_kd_byCode) rfl 3 (c' := (28, [(3, .int (nI z)), (0, .long n), (2, .ref (100000 + d0))], [.ref (100000 + ((nI z)).toNatClampNeg)], M)) (o := [200002 = 200002, vp_in (nI z) 36]) rfl ⟨rfl, (vp_in_e rfl (by omega) (by decide))⟩ ?_
          exact Wn.aret rfl (by rw [show kc n d0 = 0 + z from kc_is (k := 0) z kcodes 0 (by have := (show kcodes.length = 36 by decide); omega) loop_1 h2, Nat.zero_add] at hQ; rw [nI_clamp (by omega)]; exact hQ)
  exact loop _ 0 rfl (by omega) (fun i hi => absurd hi (by omega))
/-- the reader while it reads a run from s -/
def PRR (M0 : Mm) (g : Nat → Int32) (T : Nat → Nat) (s n : Nat) : Po := fun r0 M' => r0 = none ∧ M'.1 77 8 = nI (nLt T s n) ∧ M'.1 77 9 = nI (nDg T s n) ∧ M'.1 77 6 = nI (nVl T s n) ∧ M'.1 77 3 = nI (s + n) ∧ M'.2.1 77 7 = nNm T s n ∧ Gx [3, 6, 8, 9] g (M'.1 77) ∧ M'.2.2 77 = M0.2.2 77 ∧ Fr [77] M0 M'
theorem jc_eq {M M' : Mm} {p ix : Nat} {v : Int64} (hM : mJ M p (vp_updL (M.2.1 p) ix v) = M') : M'.2.1 p ix = v := by
  rw [mJ_eq hM]
  exact pk_uLs
theorem jc_oI {M M' : Mm} {p q k : Nat} {f : Nat → Int32} {x : Int64} (hM : mI M p f = M') (h : M.2.1 q k = x) : M'.2.1 q k = x := by rw [← hM]; exact h
theorem jc_oR {M M' : Mm} {p q k : Nat} {f : Nat → Nat} {x : Int64} (hM : mR M p f = M') (h : M.2.1 q k = x) : M'.2.1 q k = x := by rw [← hM]; exact h
theorem jc_fr {L : List Nat} {M M' : Mm} {p k : Nat} {x : Int64} (hF : Fr L M M') (hp : ¬ p ∈ L) (h : M.2.1 p k = x) : M'.2.1 p k = x := by rw [(hF p hp).2.1]; exact h
theorem tb_rd {f u : Nat → Int32} {T : Nat → Nat} {L k : Nat} {t : Int32} (h : f = u) (hT : TB u T L) (e : t = nI k) (hk : k < L) (h31 : k < 2 ^ 31) : f t.toNatClampNeg = nI (T k) := by rw [h, e, nI_clamp h31]; exact (hT k hk).1
set_option maxRecDepth 20000 in
theorem c_rd_readRun (d : Nat) (M : Mm) (g u : Nat → Int32) (T : Nat → Nat) (L s : Nat) (hg : M.1 77 = g) (hL : g 1 = nI L) (hs : g 3 = nI s) (hu : M.1 1 = u) (hT : TB u T L) (hL9 : L ≤ 940) (hsL : s ≤ L) : Wn (d + 0) 177 (PRR M g T s (rl T L s)) (0, lv_args 0 [.ref 77], [], M) := by
  have hF := fr_rf [77] M
  obtain ⟨rr, hr⟩ : ∃ rr, M.2.2 77 = rr := ⟨_, rfl⟩
  refine Wn.run (tab := tb_rd_readRun) rfl 3 (c' := (5, [(0, .ref 77)], [], (mI M 77 (upd (M.1 77) 8 (nI 0))))) (o := [shp 77 = (0, 3)]) rfl rfl ?_
  generalize hM2 : (mI M 77 (upd (M.1 77) 8 (nI 0))) = M1
  have hk3 := fI_up hM2 hg
  have hk4 := fR_oI hM2 hr
  have hu5 := fI_ne hM2 (by decide) hu
  have hF6 := fr_sI hF hM2 (by decide)
  show Wn _ 177 _ (5, [(0, .ref 77)], [], M1)
  refine Wn.run (tab := tb_rd_readRun) rfl 3 (c' := (10, [(0, .ref 77)], [], (mI M1 77 (upd (M1.1 77) 9 (nI 0))))) (o := [shp 77 = (0, 3)]) rfl rfl ?_
  generalize hM8 : (mI M1 77 (upd (M1.1 77) 9 (nI 0))) = M7
  have hk9 := fI_up hM8 hk3
  have hk10 := fR_oI hM8 hk4
  have hu11 := fI_ne hM8 (by decide) hu5
  have hF12 := fr_sI hF6 hM8 (by decide)
  show Wn _ 177 _ (10, [(0, .ref 77)], [], M7)
  refine Wn.run (tab := tb_rd_readRun) rfl 3 (c' := (15, [(0, .ref 77)], [], (mJ M7 77 (vp_updL (M7.2.1 77) 7 (0 : Int64))))) (o := [shp 77 = (0, 3)]) rfl rfl ?_
  generalize hM14 : (mJ M7 77 (vp_updL (M7.2.1 77) 7 (0 : Int64))) = M13
  have hk15 := fI_oJ hM14 hk9
  have hk16 := fR_oJ hM14 hk10
  have hu17 := fI_oJ hM14 hu11
  have hF18 := fr_sJ hF12 hM14 (by decide)
  show Wn _ 177 _ (15, [(0, .ref 77)], [], M13)
  have hj0 := jc_eq hM14
  refine Wn.run (tab := tb_rd_readRun) rfl 3 (c' := (20, [(0, .ref 77)], [], (mI M13 77 (upd (M13.1 77) 6 (nI 0))))) (o := [shp 77 = (0, 3)]) rfl rfl ?_
  generalize hM20 : (mI M13 77 (upd (M13.1 77) 6 (nI 0))) = M19
  have hk21 := fI_up hM20 hk15
  have hk22 := fR_oI hM20 hk16
  have hu23 := fI_ne hM20 (by decide) hu17
  have hF24 := fr_sI hF18 hM20 (by decide)
  have hj25 := jc_oI hM20 hj0
  show Wn _ 177 _ (20, [(0, .ref 77)], [], M19)
  have loop : ∀ (m z : Nat) (N : Mm), (L - s) - z = m → z ≤ (L - s) → (N.1 77 8 = (nI (nLt T s z))) → (N.1 77 9 = (nI (nDg T s z))) → (N.1 77 6 = (nI (nVl T s z))) → (N.1 77 3 = (nI (s + z))) → (Gx [3, 6, 8, 9] g (N.1 77)) → (N.2.1 77 7 = (nNm T s z)) → (N.2.2 77 = rr) → (N.1 1 = u) → (Fr [77] M N) → (∀ i, i < z → isW T L (s + i)) → Wn (d + 0) 177 (PRR M g T s (rl T L s)) (20, [(0, .ref 77)], [], N) := by
    intro m
    induction m using Nat.strongRecOn with
    | _ m ih =>
      intro z N hm hz loop_0 loop_1 loop_2 loop_3 loop_4 loop_5 loop_6 loop_7 loop_8 loop_x0
      have t9 : s + z < L → T (s + z) < 256 := fun h => (hT _ h).2
      obtain ⟨go, hgo⟩ : ∃ g9, N.1 77 = g9 := ⟨_, rfl⟩
      have hfo_8 : go 8 = (nI (nLt T s z)) := by rw [← hgo]; exact loop_0
      have hfo_9 : go 9 = (nI (nDg T s z)) := by rw [← hgo]; exact loop_1
      have hfo_6 : go 6 = (nI (nVl T s z)) := by rw [← hgo]; exact loop_2
      have hfo_3 : go 3 = (nI (s + z)) := by rw [← hgo]; exact loop_3
      have hxo : Gx [3, 6, 8, 9] g go := by rw [← hgo]; exact loop_4
      have hfo_1 : go 1 = (nI L) := (hxo 1 (by decide)).trans hL
      refine Wn.run (tab := tb_rd_readRun) rfl 5 (c' := (if (N.1 77 1) ≤ (N.1 77 3) then 135 else 31, [(0, .ref 77)], [], N)) (o := [shp 77 = (0, 3), shp 77 = (0, 3)]) rfl ⟨rfl, rfl⟩ ?_
      refine Wn.br (fun h1 => ?_) (fun h1 => ?_)
      · show Wn _ 177 _ (135, [(0, .ref 77)], [], N)
        have h1 := (n_le (fr_eq hgo (show go 1 = (nI L) from hfo_1)) (fr_eq hgo (show go 3 = (nI (s + z)) from hfo_3)) (by omega) (by omega)).mp h1
        have e9 : rl T L s = z := rl_eq loop_x0 (by unfold isW isS isD; omega)
        rw [e9]
        exact Wn.vret rfl ⟨rfl, by rw [hgo]; exact hfo_8, by rw [hgo]; exact hfo_9, by rw [hgo]; exact hfo_6, by rw [hgo]; exact hfo_3, loop_5, by rw [hgo]; exact hxo, by rw [hr]; exact loop_6, loop_8⟩
      · show Wn _ 177 _ (31, [(0, .ref 77)], [], N)
        have h1 := mt (n_le (fr_eq hgo (show go 1 = (nI L) from hfo_1)) (fr_eq hgo (show go 3 = (nI (s + z)) from hfo_3)) (by omega) (by omega)).mpr h1
        refine Wn.run (tab := tb_rd_readRun) rfl 9 (c' := (if (N.1 1 ((N.1 77 3)).toNatClampNeg) < (nI 97) then 80 else 47, [(1, .int (N.1 1 ((N.1 77 3)).toNatClampNeg)), (0, .ref 77)], [], N)) (o := [shp 77 = (0, 3), shp 77 = (0, 3), aok shp 1 0 (N.1 77 3)]) rfl ⟨rfl, rfl, (ak1 (n := 940) rfl rfl (fr_eq hgo (show go 3 = (nI (s + z)) from hfo_3)) (by omega))⟩ ?_
        refine Wn.br (fun h2 => ?_) (fun h2 => ?_)
        · show Wn _ 177 _ (80, [(1, .int (N.1 1 ((N.1 77 3)).toNatClampNeg)), (0, .ref 77)], [], N)
          have h2 := (n_lt (tb_rd loop_7 hT (fr_eq hgo (show go 3 = (nI (s + z)) from hfo_3)) (by omega) (by omega)) rfl (by omega) (by omega)).mp h2
          rw [show (N.1 77 3) = (nI (s + z)) from (fr_eq hgo (show go 3 = (nI (s + z)) from hfo_3))]
          rw [show (N.1 1 ((nI (s + z))).toNatClampNeg) = (nI (T (s + z))) from (tb_rd loop_7 hT rfl (by omega) (by omega))]
          refine Wn.run (tab := tb_rd_readRun) rfl 3 (c' := (if (nI (T (s + z))) < (nI 48) then 121 else 86, [(1, .int (nI (T (s + z)))), (0, .ref 77)], [], N)) (o := []) rfl trivial ?_
          refine Wn.br (fun h3 => ?_) (fun h3 => ?_)
          · show Wn _ 177 _ (121, [(1, .int (nI (T (s + z)))), (0, .ref 77)], [], N)
            have h3 := (n_lt rfl rfl (by omega) (by omega)).mp h3
            have e9 : rl T L s = z := rl_eq loop_x0 (by unfold isW isS isD; omega)
            rw [e9]
            exact Wn.vret rfl ⟨rfl, by rw [hgo]; exact hfo_8, by rw [hgo]; exact hfo_9, by rw [hgo]; exact hfo_6, by rw [hgo]; exact hfo_3, loop_5, by rw [hgo]; exact hxo, by rw [hr]; exact loop_6, loop_8⟩
          · show Wn _ 177 _ (86, [(1, .int (nI (T (s + z)))), (0, .ref 77)], [], N)
            have h3 := mt (n_lt rfl rfl (by omega) (by omega)).mpr h3
            refine Wn.run (tab := tb_rd_readRun) rfl 3 (c' := (if (nI 57) < (nI (T (s + z))) then 121 else 92, [(1, .int (nI (T (s + z)))), (0, .ref 77)], [], N)) (o := []) rfl trivial ?_
            refine Wn.br (fun h4 => ?_) (fun h4 => ?_)
            · show Wn _ 177 _ (121, [(1, .int (nI (T (s + z)))), (0, .ref 77)], [], N)
              have h4 := (n_lt rfl rfl (by omega) (by omega)).mp h4
              have e9 : rl T L s = z := rl_eq loop_x0 (by unfold isW isS isD; omega)
              rw [e9]
              exact Wn.vret rfl ⟨rfl, by rw [hgo]; exact hfo_8, by rw [hgo]; exact hfo_9, by rw [hgo]; exact hfo_6, by rw [hgo]; exact hfo_3, loop_5, by rw [hgo]; exact hxo, by rw [hr]; exact loop_6, loop_8⟩
            · show Wn _ 177 _ (92, [(1, .int (nI (T (s + z)))), (0, .ref 77)], [], N)
              have h4 := mt (n_lt rfl rfl (by omega) (by omega)).mpr h4
              refine Wn.run (tab := tb_rd_readRun) rfl 6 (c' := (102, [(1, .int (nI (T (s + z)))), (0, .ref 77)], [], (mI N 77 (upd (N.1 77) 9 ((N.1 77 9) + (nI 1)))))) (o := [shp 77 = (0, 3), shp 77 = (0, 3)]) rfl ⟨rfl, rfl⟩ ?_
              rw [show (N.1 77 9) = (nI (nDg T s z)) from (fr_eq hgo (show go 9 = (nI (nDg T s z)) from hfo_9))]
              rw [show ((nI (nDg T s z)) + (nI 1)) = (nI ((nDg T s z) + 1)) from (n_add rfl rfl)]
              generalize hM27 : (mI N 77 (upd (N.1 77) 9 (nI ((nDg T s z) + 1)))) = M26
              have hk28 := fI_up hM27 hgo
              have hj29 := jc_oI hM27 loop_5
              have hk30 := fR_oI hM27 loop_6
              have hu31 := fI_ne hM27 (by decide) loop_7
              have hF32 := fr_sI loop_8 hM27 (by decide)
              show Wn _ 177 _ (102, [(1, .int (nI (T (s + z)))), (0, .ref 77)], [], M26)
              refine Wn.run (tab := tb_rd_readRun) rfl 10 (c' := (118, [(1, .int (nI (T (s + z)))), (0, .ref 77)], [], (mI M26 77 (upd (M26.1 77) 6 ((((nI 10) * (M26.1 77 6)) + (nI (T (s + z)))) - (nI 48)))))) (o := [shp 77 = (0, 3), shp 77 = (0, 3)]) rfl ⟨rfl, rfl⟩ ?_
              rw [show (M26.1 77 6) = (nI (nVl T s z)) from (fr_eq hk28 (show (upd go 9 (nI ((nDg T s z) + 1))) 6 = (nI (nVl T s z)) from ((pk_un (by decide)).trans hfo_6)))]
              rw [show ((((nI 10) * (nI (nVl T s z))) + (nI (T (s + z)))) - (nI 48)) = (nI (((10 * (nVl T s z)) + (T (s + z))) - 48)) from (n_sub (n_add (n_mul rfl rfl) rfl) rfl (by omega))]
              generalize hM34 : (mI M26 77 (upd (M26.1 77) 6 (nI (((10 * (nVl T s z)) + (T (s + z))) - 48)))) = M33
              have hk35 := fI_up hM34 hk28
              have hj36 := jc_oI hM34 hj29
              have hk37 := fR_oI hM34 hk30
              have hu38 := fI_ne hM34 (by decide) hu31
              have hF39 := fr_sI hF32 hM34 (by decide)
              show Wn _ 177 _ (118, [(1, .int (nI (T (s + z)))), (0, .ref 77)], [], M33)
              refine Wn.run (tab := tb_rd_readRun) rfl 7 (c' := (132, [(1, .int (nI (T (s + z)))), (0, .ref 77)], [], (mI M33 77 (upd (M33.1 77) 3 ((M33.1 77 3) + (nI 1)))))) (o := [shp 77 = (0, 3), shp 77 = (0, 3)]) rfl ⟨rfl, rfl⟩ ?_
              rw [show (M33.1 77 3) = (nI (s + z)) from (fr_eq hk35 (show (upd (upd go 9 (nI ((nDg T s z) + 1))) 6 (nI (((10 * (nVl T s z)) + (T (s + z))) - 48))) 3 = (nI (s + z)) from ((pk_un (by decide)).trans ((pk_un (by decide)).trans hfo_3))))]
              rw [show ((nI (s + z)) + (nI 1)) = (nI ((s + z) + 1)) from (n_add rfl rfl)]
              generalize hM41 : (mI M33 77 (upd (M33.1 77) 3 (nI ((s + z) + 1)))) = M40
              have hk42 := fI_up hM41 hk35
              have hj43 := jc_oI hM41 hj36
              have hk44 := fR_oI hM41 hk37
              have hu45 := fI_ne hM41 (by decide) hu38
              have hF46 := fr_sI hF39 hM41 (by decide)
              show Wn _ 177 _ (132, [(1, .int (nI (T (s + z)))), (0, .ref 77)], [], M40)
              refine Wn.run (tab := tb_rd_readRun) rfl 1 (c' := (20, [(1, .int (nI (T (s + z)))), (0, .ref 77)], [], M40)) (o := []) rfl trivial ?_
              have q1 : isD (T (s + z)) := ⟨by omega, by omega⟩
              have q2 : ¬ isS (T (s + z)) := by omega
              have e8 : nLt T s (z + 1) = nLt T s z + 0 := by show nLt T s z + (if isS (T (s + z)) then 1 else 0) = _; rw [if_neg q2]
              have e9 : nDg T s (z + 1) = nDg T s z + 1 := by show nDg T s z + (if isD (T (s + z)) then 1 else 0) = _; rw [if_pos q1]
              have e6 : nVl T s (z + 1) = 10 * nVl T s z + T (s + z) - 48 := by show (if isD (T (s + z)) then _ else _) = _; rw [if_pos q1]
              have e7 : nNm T s (z + 1) = (nNm T s z) := by show (if isS (T (s + z)) then _ else _) = _; rw [if_neg q2]
              refine Wn.lvp [1] (lv' := [(0, .ref 77)]) rfl ?_
              exact ih ((L - s) - (z + 1)) (by omega) (z + 1) M40 rfl (by omega) (by rw [hk42, e8]; exact ((pk_un (by decide)).trans ((pk_un (by decide)).trans ((pk_un (by decide)).trans hfo_8)))) (by rw [hk42, e9]; exact ((pk_un (by decide)).trans ((pk_un (by decide)).trans pk_us))) (by rw [hk42, e6]; exact ((pk_un (by decide)).trans pk_us)) (by rw [hk42]; exact pk_us) (by rw [hk42]; exact (Gx_up (Gx_up (Gx_up hxo (by decide)) (by decide)) (by decide))) (by rw [e7]; exact hj43) hk44 hu45 hF46 (fun i hi => if e : i = z then (by rw [e]; exact ⟨by omega, Or.inr q1⟩) else loop_x0 i (by omega))
        · show Wn _ 177 _ (47, [(1, .int (N.1 1 ((N.1 77 3)).toNatClampNeg)), (0, .ref 77)], [], N)
          have h2 := mt (n_lt (tb_rd loop_7 hT (fr_eq hgo (show go 3 = (nI (s + z)) from hfo_3)) (by omega) (by omega)) rfl (by omega) (by omega)).mpr h2
          rw [show (N.1 77 3) = (nI (s + z)) from (fr_eq hgo (show go 3 = (nI (s + z)) from hfo_3))]
          rw [show (N.1 1 ((nI (s + z))).toNatClampNeg) = (nI (T (s + z))) from (tb_rd loop_7 hT rfl (by omega) (by omega))]
          refine Wn.run (tab := tb_rd_readRun) rfl 3 (c' := (if (nI 122) < (nI (T (s + z))) then 80 else 53, [(1, .int (nI (T (s + z)))), (0, .ref 77)], [], N)) (o := []) rfl trivial ?_
          refine Wn.br (fun h5 => ?_) (fun h5 => ?_)
          · show Wn _ 177 _ (80, [(1, .int (nI (T (s + z)))), (0, .ref 77)], [], N)
            have h5 := (n_lt rfl rfl (by omega) (by omega)).mp h5
            refine Wn.run (tab := tb_rd_readRun) rfl 3 (c' := (if (nI (T (s + z))) < (nI 48) then 121 else 86, [(1, .int (nI (T (s + z)))), (0, .ref 77)], [], N)) (o := []) rfl trivial ?_
            refine Wn.br (fun h6 => ?_) (fun h6 => ?_)
            · show Wn _ 177 _ (121, [(1, .int (nI (T (s + z)))), (0, .ref 77)], [], N)
              have h6 := (n_lt rfl rfl (by omega) (by omega)).mp h6
              have e9 : rl T L s = z := rl_eq loop_x0 (by unfold isW isS isD; omega)
              rw [e9]
              exact Wn.vret rfl ⟨rfl, by rw [hgo]; exact hfo_8, by rw [hgo]; exact hfo_9, by rw [hgo]; exact hfo_6, by rw [hgo]; exact hfo_3, loop_5, by rw [hgo]; exact hxo, by rw [hr]; exact loop_6, loop_8⟩
            · show Wn _ 177 _ (86, [(1, .int (nI (T (s + z)))), (0, .ref 77)], [], N)
              have h6 := mt (n_lt rfl rfl (by omega) (by omega)).mpr h6
              refine Wn.run (tab := tb_rd_readRun) rfl 3 (c' := (if (nI 57) < (nI (T (s + z))) then 121 else 92, [(1, .int (nI (T (s + z)))), (0, .ref 77)], [], N)) (o := []) rfl trivial ?_
              refine Wn.br (fun h7 => ?_) (fun h7 => ?_)
              · show Wn _ 177 _ (121, [(1, .int (nI (T (s + z)))), (0, .ref 77)], [], N)
                have h7 := (n_lt rfl rfl (by omega) (by omega)).mp h7
                have e9 : rl T L s = z := rl_eq loop_x0 (by unfold isW isS isD; omega)
                rw [e9]
                exact Wn.vret rfl ⟨rfl, by rw [hgo]; exact hfo_8, by rw [hgo]; exact hfo_9, by rw [hgo]; exact hfo_6, by rw [hgo]; exact hfo_3, loop_5, by rw [hgo]; exact hxo, by rw [hr]; exact loop_6, loop_8⟩
              · show Wn _ 177 _ (92, [(1, .int (nI (T (s + z)))), (0, .ref 77)], [], N)
                have h7 := mt (n_lt rfl rfl (by omega) (by omega)).mpr h7
                refine Wn.run (tab := tb_rd_readRun) rfl 6 (c' := (102, [(1, .int (nI (T (s + z)))), (0, .ref 77)], [], (mI N 77 (upd (N.1 77) 9 ((N.1 77 9) + (nI 1)))))) (o := [shp 77 = (0, 3), shp 77 = (0, 3)]) rfl ⟨rfl, rfl⟩ ?_
                rw [show (N.1 77 9) = (nI (nDg T s z)) from (fr_eq hgo (show go 9 = (nI (nDg T s z)) from hfo_9))]
                rw [show ((nI (nDg T s z)) + (nI 1)) = (nI ((nDg T s z) + 1)) from (n_add rfl rfl)]
                generalize hM48 : (mI N 77 (upd (N.1 77) 9 (nI ((nDg T s z) + 1)))) = M47
                have hk49 := fI_up hM48 hgo
                have hj50 := jc_oI hM48 loop_5
                have hk51 := fR_oI hM48 loop_6
                have hu52 := fI_ne hM48 (by decide) loop_7
                have hF53 := fr_sI loop_8 hM48 (by decide)
                show Wn _ 177 _ (102, [(1, .int (nI (T (s + z)))), (0, .ref 77)], [], M47)
                refine Wn.run (tab := tb_rd_readRun) rfl 10 (c' := (118, [(1, .int (nI (T (s + z)))), (0, .ref 77)], [], (mI M47 77 (upd (M47.1 77) 6 ((((nI 10) * (M47.1 77 6)) + (nI (T (s + z)))) - (nI 48)))))) (o := [shp 77 = (0, 3), shp 77 = (0, 3)]) rfl ⟨rfl, rfl⟩ ?_
                rw [show (M47.1 77 6) = (nI (nVl T s z)) from (fr_eq hk49 (show (upd go 9 (nI ((nDg T s z) + 1))) 6 = (nI (nVl T s z)) from ((pk_un (by decide)).trans hfo_6)))]
                rw [show ((((nI 10) * (nI (nVl T s z))) + (nI (T (s + z)))) - (nI 48)) = (nI (((10 * (nVl T s z)) + (T (s + z))) - 48)) from (n_sub (n_add (n_mul rfl rfl) rfl) rfl (by omega))]
                generalize hM55 : (mI M47 77 (upd (M47.1 77) 6 (nI (((10 * (nVl T s z)) + (T (s + z))) - 48)))) = M54
                have hk56 := fI_up hM55 hk49
                have hj57 := jc_oI hM55 hj50
                have hk58 := fR_oI hM55 hk51
                have hu59 := fI_ne hM55 (by decide) hu52
                have hF60 := fr_sI hF53 hM55 (by decide)
                show Wn _ 177 _ (118, [(1, .int (nI (T (s + z)))), (0, .ref 77)], [], M54)
                refine Wn.run (tab := tb_rd_readRun) rfl 7 (c' := (132, [(1, .int (nI (T (s + z)))), (0, .ref 77)], [], (mI M54 77 (upd (M54.1 77) 3 ((M54.1 77 3) + (nI 1)))))) (o := [shp 77 = (0, 3), shp 77 = (0, 3)]) rfl ⟨rfl, rfl⟩ ?_
                rw [show (M54.1 77 3) = (nI (s + z)) from (fr_eq hk56 (show (upd (upd go 9 (nI ((nDg T s z) + 1))) 6 (nI (((10 * (nVl T s z)) + (T (s + z))) - 48))) 3 = (nI (s + z)) from ((pk_un (by decide)).trans ((pk_un (by decide)).trans hfo_3))))]
                rw [show ((nI (s + z)) + (nI 1)) = (nI ((s + z) + 1)) from (n_add rfl rfl)]
                generalize hM62 : (mI M54 77 (upd (M54.1 77) 3 (nI ((s + z) + 1)))) = M61
                have hk63 := fI_up hM62 hk56
                have hj64 := jc_oI hM62 hj57
                have hk65 := fR_oI hM62 hk58
                have hu66 := fI_ne hM62 (by decide) hu59
                have hF67 := fr_sI hF60 hM62 (by decide)
                show Wn _ 177 _ (132, [(1, .int (nI (T (s + z)))), (0, .ref 77)], [], M61)
                refine Wn.run (tab := tb_rd_readRun) rfl 1 (c' := (20, [(1, .int (nI (T (s + z)))), (0, .ref 77)], [], M61)) (o := []) rfl trivial ?_
                have q1 : isD (T (s + z)) := ⟨by omega, by omega⟩
                have q2 : ¬ isS (T (s + z)) := by omega
                have e8 : nLt T s (z + 1) = nLt T s z + 0 := by show nLt T s z + (if isS (T (s + z)) then 1 else 0) = _; rw [if_neg q2]
                have e9 : nDg T s (z + 1) = nDg T s z + 1 := by show nDg T s z + (if isD (T (s + z)) then 1 else 0) = _; rw [if_pos q1]
                have e6 : nVl T s (z + 1) = 10 * nVl T s z + T (s + z) - 48 := by show (if isD (T (s + z)) then _ else _) = _; rw [if_pos q1]
                have e7 : nNm T s (z + 1) = (nNm T s z) := by show (if isS (T (s + z)) then _ else _) = _; rw [if_neg q2]
                refine Wn.lvp [1] (lv' := [(0, .ref 77)]) rfl ?_
                exact ih ((L - s) - (z + 1)) (by omega) (z + 1) M61 rfl (by omega) (by rw [hk63, e8]; exact ((pk_un (by decide)).trans ((pk_un (by decide)).trans ((pk_un (by decide)).trans hfo_8)))) (by rw [hk63, e9]; exact ((pk_un (by decide)).trans ((pk_un (by decide)).trans pk_us))) (by rw [hk63, e6]; exact ((pk_un (by decide)).trans pk_us)) (by rw [hk63]; exact pk_us) (by rw [hk63]; exact (Gx_up (Gx_up (Gx_up hxo (by decide)) (by decide)) (by decide))) (by rw [e7]; exact hj64) hk65 hu66 hF67 (fun i hi => if e : i = z then (by rw [e]; exact ⟨by omega, Or.inr q1⟩) else loop_x0 i (by omega))
          · show Wn _ 177 _ (53, [(1, .int (nI (T (s + z)))), (0, .ref 77)], [], N)
            have h5 := mt (n_lt rfl rfl (by omega) (by omega)).mpr h5
            refine Wn.run (tab := tb_rd_readRun) rfl 6 (c' := (63, [(1, .int (nI (T (s + z)))), (0, .ref 77)], [], (mI N 77 (upd (N.1 77) 8 ((N.1 77 8) + (nI 1)))))) (o := [shp 77 = (0, 3), shp 77 = (0, 3)]) rfl ⟨rfl, rfl⟩ ?_
            rw [show (N.1 77 8) = (nI (nLt T s z)) from (fr_eq hgo (show go 8 = (nI (nLt T s z)) from hfo_8))]
            rw [show ((nI (nLt T s z)) + (nI 1)) = (nI ((nLt T s z) + 1)) from (n_add rfl rfl)]
            generalize hM69 : (mI N 77 (upd (N.1 77) 8 (nI ((nLt T s z) + 1)))) = M68
            have hk70 := fI_up hM69 hgo
            have hj71 := jc_oI hM69 loop_5
            have hk72 := fR_oI hM69 loop_6
            have hu73 := fI_ne hM69 (by decide) loop_7
            have hF74 := fr_sI loop_8 hM69 (by decide)
            show Wn _ 177 _ (63, [(1, .int (nI (T (s + z)))), (0, .ref 77)], [], M68)
            refine Wn.run (tab := tb_rd_readRun) rfl 9 (c' := (77, [(1, .int (nI (T (s + z)))), (0, .ref 77)], [], (mJ M68 77 (vp_updL (M68.2.1 77) 7 (((M68.2.1 77 7) <<< (((nI 8)).toInt64 &&& 63)) ||| ((nI (T (s + z)))).toInt64))))) (o := [shp 77 = (0, 3), shp 77 = (0, 3)]) rfl ⟨rfl, rfl⟩ ?_
            rw [show (M68.2.1 77 7) = (nNm T s z) from hj71]
            generalize hM76 : (mJ M68 77 (vp_updL (M68.2.1 77) 7 (((nNm T s z) <<< (((nI 8)).toInt64 &&& 63)) ||| ((nI (T (s + z)))).toInt64))) = M75
            have hk77 := fI_oJ hM76 hk70
            have hj78 := jc_eq hM76
            have hk79 := fR_oJ hM76 hk72
            have hu80 := fI_oJ hM76 hu73
            have hF81 := fr_sJ hF74 hM76 (by decide)
            show Wn _ 177 _ (77, [(1, .int (nI (T (s + z)))), (0, .ref 77)], [], M75)
            refine Wn.run (tab := tb_rd_readRun) rfl 7 (c' := (132, [(1, .int (nI (T (s + z)))), (0, .ref 77)], [], (mI M75 77 (upd (M75.1 77) 3 ((M75.1 77 3) + (nI 1)))))) (o := [shp 77 = (0, 3), shp 77 = (0, 3)]) rfl ⟨rfl, rfl⟩ ?_
            rw [show (M75.1 77 3) = (nI (s + z)) from (fr_eq hk77 (show (upd go 8 (nI ((nLt T s z) + 1))) 3 = (nI (s + z)) from ((pk_un (by decide)).trans hfo_3)))]
            rw [show ((nI (s + z)) + (nI 1)) = (nI ((s + z) + 1)) from (n_add rfl rfl)]
            generalize hM83 : (mI M75 77 (upd (M75.1 77) 3 (nI ((s + z) + 1)))) = M82
            have hk84 := fI_up hM83 hk77
            have hj85 := jc_oI hM83 hj78
            have hk86 := fR_oI hM83 hk79
            have hu87 := fI_ne hM83 (by decide) hu80
            have hF88 := fr_sI hF81 hM83 (by decide)
            show Wn _ 177 _ (132, [(1, .int (nI (T (s + z)))), (0, .ref 77)], [], M82)
            refine Wn.run (tab := tb_rd_readRun) rfl 1 (c' := (20, [(1, .int (nI (T (s + z)))), (0, .ref 77)], [], M82)) (o := []) rfl trivial ?_
            have q1 : isS (T (s + z)) := ⟨by omega, by omega⟩
            have q2 : ¬ isD (T (s + z)) := by omega
            have e8 : nLt T s (z + 1) = nLt T s z + 1 := by show nLt T s z + (if isS (T (s + z)) then 1 else 0) = _; rw [if_pos q1]
            have e9 : nDg T s (z + 1) = nDg T s z + 0 := by show nDg T s z + (if isD (T (s + z)) then 1 else 0) = _; rw [if_neg q2]
            have e6 : nVl T s (z + 1) = nVl T s z := by show (if isD (T (s + z)) then _ else _) = _; rw [if_neg q2]
            have e7 : nNm T s (z + 1) = (((nNm T s z) <<< (((nI 8)).toInt64 &&& 63)) ||| ((nI (T (s + z)))).toInt64) := by show (if isS (T (s + z)) then _ else _) = _; rw [if_pos q1]
            refine Wn.lvp [1] (lv' := [(0, .ref 77)]) rfl ?_
            exact ih ((L - s) - (z + 1)) (by omega) (z + 1) M82 rfl (by omega) (by rw [hk84, e8]; exact ((pk_un (by decide)).trans pk_us)) (by rw [hk84, e9]; exact ((pk_un (by decide)).trans ((pk_un (by decide)).trans hfo_9))) (by rw [hk84, e6]; exact ((pk_un (by decide)).trans ((pk_un (by decide)).trans hfo_6))) (by rw [hk84]; exact pk_us) (by rw [hk84]; exact (Gx_up (Gx_up hxo (by decide)) (by decide))) (by rw [e7]; exact hj85) hk86 hu87 hF88 (fun i hi => if e : i = z then (by rw [e]; exact ⟨by omega, Or.inl q1⟩) else loop_x0 i (by omega))
  exact loop ((L - s) - 0) 0 M19 rfl (by omega) (by rw [hk21]; exact ((pk_un (by decide)).trans ((pk_un (by decide)).trans pk_us))) (by rw [hk21]; exact ((pk_un (by decide)).trans pk_us)) (by rw [hk21]; exact pk_us) (by rw [hk21]; exact ((pk_un (by decide)).trans ((pk_un (by decide)).trans ((pk_un (by decide)).trans hs)))) (by rw [hk21]; exact (Gx_up (Gx_up (Gx_up (Gx_rf _ _) (by decide)) (by decide)) (by decide))) hj25 hk22 hu23 hF24 (fun i hi => absurd hi (by omega))
/-- the class's reader has the token at p; ta: where the one before it was; fk, fp: the fault -/
def RdC (M : Mm) (T : Nat → Nat) (L m p ta fk fp : Nat) : Prop := M.1 77 1 = nI L ∧ M.1 77 2 = nI m ∧ M.1 77 4 = nI (tAt T L m p) ∧ M.1 77 5 = nI ta ∧ M.1 77 11 = nI fk ∧ M.1 77 12 = nI fp ∧ M.2.2 77 10 = 100000 + (if tKd T L m p = 36 then 0 else tKd T L m p) ∧ (¬ tKd T L m p = 0 → ¬ tKd T L m p = 36 → M.1 77 3 = nI (tNx T L p)) ∧ (tKd T L m p = 2 → M.1 77 6 = nI (tVl T L p)) ∧ (tKd T L m p = 3 ∨ (10 ≤ tKd T L m p ∧ tKd T L m p < 36) → M.2.1 77 7 = tNm T L p)
def PAd (M0 : Mm) (T : Nat → Nat) (L m p ta fk fp : Nat) : Po := fun r0 M' => r0 = none ∧ RdC M' T L m p ta fk fp ∧ Fr [77] M0 M'
theorem sk_B {T : Nat → Nat} {L B p : Nat} (hB : B ≤ L) (h : ∀ i, p ≤ i → i < B → isB T L i) : B ≤ sk T L p := by
  rcases Nat.lt_or_ge p B with h1 | h1
  · rw [sk_y (h p (Nat.le_refl _) h1)]
    exact sk_B hB (fun i hi hi2 => h i (by omega) hi2)
  · exact Nat.le_trans h1 (sk_le T L p).1
termination_by B - p
theorem sk_at {T : Nat → Nat} {L p z : Nat} (h : ∀ i, p ≤ i → i < z → isB T L i) (hz : p ≤ z) (hn : ¬ isB T L z) : sk T L p = z := by
  rcases Nat.lt_or_ge p z with h1 | h1
  · rw [sk_y (h p (Nat.le_refl _) h1)]
    exact sk_at (fun i hi hi2 => h i (by omega) hi2) (by omega) hn
  · rw [show p = z by omega]
    exact sk_n hn
termination_by z - p
def wN (T : Nat → Nat) (s : Nat) : Nat → Nat
  | 0 => 0
  | j + 1 => wN T s j * 256 + T (s + j)
theorem i64_sh {a b : Nat} (ha : a < 2 ^ 48) (hb : b < 256) : (Int64.ofNat a <<< ((nI 8).toInt64 &&& 63)) ||| (nI b).toInt64 = Int64.ofNat (a * 256 + b) := by
  have e0 : (nI 8).toInt64 &&& 63 = 8 := by decide
  have e1 : (nI b).toInt64 = Int64.ofNat b := by
    apply Int64.toInt_inj.mp
    rw [Int32.toInt_toInt64, nI_toInt (by omega), Int64.toInt_ofNat_of_lt (by omega)]
  rw [e0, e1]
  apply Int64.toBitVec_inj.mp
  have e2 : (Int64.ofNat a <<< (8 : Int64) ||| Int64.ofNat b).toBitVec = (BitVec.ofNat 64 a <<< 8) ||| BitVec.ofNat 64 b := rfl
  have e3 : (Int64.ofNat (a * 256 + b)).toBitVec = BitVec.ofNat 64 (a * 256 + b) := rfl
  rw [e2, e3]
  apply BitVec.eq_of_toNat_eq
  rw [BitVec.toNat_or, BitVec.toNat_shiftLeft, BitVec.toNat_ofNat, BitVec.toNat_ofNat, BitVec.toNat_ofNat, Nat.mod_eq_of_lt (show a < 2 ^ 64 by omega), Nat.mod_eq_of_lt (show b < 2 ^ 64 by omega), Nat.mod_eq_of_lt (show a * 256 + b < 2 ^ 64 by omega), Nat.shiftLeft_eq, Nat.mod_eq_of_lt (show a * 2 ^ 8 < 2 ^ 64 by omega)]
  have h9 := Nat.shiftLeft_add_eq_or_of_lt (show b < 2 ^ 8 by omega) a
  rw [Nat.shiftLeft_eq] at h9
  exact h9.symm
theorem wN_lt {T : Nat → Nat} {s : Nat} : ∀ j, (∀ i, i < j → T (s + i) < 256) → wN T s j < 256 ^ j
  | 0, _ => by show 0 < 1; decide
  | j + 1, h => by
    have ih := wN_lt j (fun i hi => h i (by omega))
    have h1 := h j (by omega)
    unfold wN
    rw [Nat.pow_succ]
    omega
theorem nNm_nat {T : Nat → Nat} {s : Nat} : ∀ j, j ≤ 7 → (∀ i, i < j → isS (T (s + i))) → nNm T s j = Int64.ofNat (wN T s j)
  | 0, _, _ => rfl
  | j + 1, hj, h => by
    have h1 := h j (by omega)
    have ih := nNm_nat j (by omega) (fun i hi => h i (by omega))
    have h2 := wN_lt (T := T) (s := s) j (fun i hi => by have := h i (by omega); omega)
    have h3 : 256 ^ j ≤ 256 ^ 6 := Nat.pow_le_pow_right (by decide) (by omega)
    show (if isS (T (s + j)) then _ else _) = _
    rw [if_pos h1, ih]
    exact i64_sh (by omega) (by omega)
theorem wN_ge {T : Nat → Nat} {s : Nat} (j : Nat) (h : isS (T (s + j))) : 97 ≤ wN T s (j + 1) := by
  unfold wN
  omega
theorem kcs_ge (n : Int64) (d : Nat) : ∀ (l : List Int) (k : Nat), kcs n d l k = d ∨ k ≤ kcs n d l k
  | [], _ => Or.inl rfl
  | c :: r, k => by
    unfold kcs
    split
    · exact Or.inr (Nat.le_refl _)
    · rcases kcs_ge n d r (k + 1) with h | h
      · exact Or.inl h
      · exact Or.inr (by omega)
theorem kcs_app (n : Int64) (d : Nat) : ∀ (l r : List Int) (k : Nat), (∀ c ∈ l, ¬ Int64.ofInt c = n) → kcs n d (l ++ r) k = kcs n d r (k + l.length)
  | [], r, k, _ => rfl
  | c :: l, r, k, h => by
    show (if Int64.ofInt c = n then k else kcs n d (l ++ r) (k + 1)) = _
    rw [if_neg (h c List.mem_cons_self), kcs_app n d l r (k + 1) (fun c hc => h c (List.mem_cons_of_mem _ hc))]
    congr 1
    simp only [List.length_cons]
    omega
theorem kcs_apr (n : Int64) (d : Nat) : ∀ (l r : List Int) (k : Nat), (∀ c ∈ r, ¬ Int64.ofInt c = n) → kcs n d (l ++ r) k = kcs n d l k
  | [], r, k, h => by
    induction r generalizing k with
    | nil => rfl
    | cons c r ih =>
      show (if Int64.ofInt c = n then k else kcs n d r (k + 1)) = d
      rw [if_neg (h c List.mem_cons_self)]
      exact ih (k + 1) (fun c hc => h c (List.mem_cons_of_mem _ hc))
  | c :: l, r, k, h => by
    show (if Int64.ofInt c = n then k else kcs n d (l ++ r) (k + 1)) = (if Int64.ofInt c = n then k else kcs n d l (k + 1))
    rw [kcs_apr n d l r (k + 1) h]
theorem i64_ne {c : Int} {a : Nat} (hc : -1 ≤ c) (hc2 : c < 2 ^ 60) (ha : a < 2 ^ 60) (h : ¬ c = (a : Int)) : ¬ Int64.ofInt c = Int64.ofNat a := by
  intro e
  have h9 := congrArg Int64.toInt e
  rw [Int64.toInt_ofInt_of_le (by omega) (by omega), Int64.toInt_ofNat_of_lt (by omega)] at h9
  exact h h9
theorem kc_word {a : Nat} (h1 : 97 ≤ a) (h2 : a < 2 ^ 60) : kc (Int64.ofNat a) 3 = 3 ∨ 10 ≤ kc (Int64.ofNat a) 3 := by
  unfold kc
  rw [show kcodes = [-1, -1, -1, -1, 59, 60, 61, 62, 40, 41] ++ kcodes.drop 10 from rfl, kcs_app]
  · exact kcs_ge _ _ _ _
  · intro c hc
    refine i64_ne ?_ ?_ h2 ?_ <;> (simp only [List.mem_cons, List.not_mem_nil, or_false] at hc; omega)
theorem kc_sign {c : Nat} (h : c < 256) : kc (Int64.ofNat c) 1 = 1 ∨ (4 ≤ kc (Int64.ofNat c) 1 ∧ kc (Int64.ofNat c) 1 ≤ 9) := by
  unfold kc
  rw [show kcodes = [-1, -1, -1, -1] ++ ([59, 60, 61, 62, 40, 41] ++ kcodes.drop 10) from rfl, kcs_app, kcs_apr]
  · rcases kcs_ge (Int64.ofNat c) 1 [59, 60, 61, 62, 40, 41] 4 with h1 | h1
    · exact Or.inl h1
    · rcases kcs_lt (Int64.ofNat c) 1 [59, 60, 61, 62, 40, 41] 4 with h2 | h2
      · exact Or.inl h2
      · refine Or.inr ⟨h1, ?_⟩
        have : [59, 60, 61, 62, 40, (41 : Int)].length = 6 := rfl
        show kcs (Int64.ofNat c) 1 [59, 60, 61, 62, 40, 41] 4 ≤ 9
        omega
  · intro x hx
    have hall : ∀ y ∈ kcodes.drop 10, (25000 : Int) ≤ y ∧ y < 2 ^ 60 := by decide
    have h9 := hall x hx
    exact i64_ne (by omega) h9.2 (by omega) (by omega)
  · intro x hx
    refine i64_ne ?_ ?_ (by omega) ?_ <;> (simp only [List.mem_cons, List.not_mem_nil, or_false] at hx; omega)
theorem nI_64 {b : Nat} (h : b < 2 ^ 31) : (nI b).toInt64 = Int64.ofNat b := by
  apply Int64.toInt_inj.mp
  rw [Int32.toInt_toInt64, nI_toInt h, Int64.toInt_ofNat_of_lt (by omega)]
