theorem nLt_pos {T : Nat → Nat} {s : Nat} (h : isS (T s)) : ∀ z, ¬ z = 0 → 0 < nLt T s z
  | 0, h0 => absurd rfl h0
  | z + 1, _ => by
    rcases Nat.eq_zero_or_pos z with e | e
    · rw [e]; show 0 < 0 + (if isS (T (s + 0)) then 1 else 0); rw [if_pos (show isS (T (s + 0)) from h)]; decide
    · have := nLt_pos h z (by omega)
      unfold nLt
      omega
theorem nDg_pos {T : Nat → Nat} {s : Nat} (h : isD (T s)) : ∀ z, ¬ z = 0 → 0 < nDg T s z
  | 0, h0 => absurd rfl h0
  | z + 1, _ => by
    rcases Nat.eq_zero_or_pos z with e | e
    · rw [e]; show 0 < 0 + (if isD (T (s + 0)) then 1 else 0); rw [if_pos (show isD (T (s + 0)) from h)]; decide
    · have := nDg_pos h z (by omega)
      unfold nDg
      omega
theorem jo_I {M M' : Mm} {p k : Nat} {f : Nat → Int32} {jj : Nat → Int64} (hM : mI M p f = M') (hk : ¬ k = 17) (h : M.2.1 114 k = jj k) : M'.2.1 114 k = jj k := by rw [← hM]; exact h
theorem jo_J {M M' : Mm} {k : Nat} {v : Int64} {jj : Nat → Int64} (hM : mJ M 114 (vp_updL (M.2.1 114) 17 v) = M') (hk : ¬ k = 17) (h : M.2.1 114 k = jj k) : M'.2.1 114 k = jj k := by rw [mJ_eq hM, pk_uLn hk]; exact h
set_option maxRecDepth 20000 in
set_option maxHeartbeats 8000000 in
theorem next_runS (d : Nat) (M0 N0 : Mm) (g g1 : Nat → Int32) (jj : Nat → Int64) (u : Nat → Int32) (T : Nat → Nat) (L mo p z : Nat) (hg1 : N0.1 114 = g1) (h3 : g1 3 = nI L) (h5 : g1 5 = nI mo) (h4 : g1 4 = nI z) (h12 : g1 12 = nI z) (h13 : g1 13 = nI 0) (h14 : g1 14 = nI 0) (hx : Gx [4, 11, 12, 13, 14] g g1) (hj17 : N0.2.1 114 17 = 0) (hjo : ∀ k9, ¬ k9 = 17 → N0.2.1 114 k9 = jj k9) (hj : M0.2.1 114 = jj) (hu : N0.1 115 = u) (hT : TM u T L) (hF : Fr [114] M0 N0) (hL9 : L ≤ 940) (hm9 : mo ≤ 940) (hpL : p ≤ L) (sk9 : sk T L p = z) (hzB : z < mn L mo) (hfst : z < L ∧ isS (T z)) : Wn (d + 1) 57 (PNx M0 g T L mo p) (181, [(3, .int (nI 1)), (2, .int (nI 1)), (1, .int (pkI T L z)), (0, .ref 114)], [], N0) := by
  have hTb : ∀ k, k < L → T k < 256 := fun k hk => (hT k hk).2
  have loop : ∀ (m i : Nat) (N : Mm), (L - z) - i = m → i ≤ (L - z) → (N.1 114 4 = (nI (z + i))) → (N.1 114 13 = (nI i)) → (N.1 114 3 = (nI L)) → (N.1 114 5 = (nI mo)) → (Gx [4, 11, 12, 13, 14] g (N.1 114)) → (N.1 114 12 = (nI z)) → (nLt T z i = 0 → i ≤ 3 → N.1 114 14 = nI (nVl T z i)) → (nDg T z i = 0 → i ≤ 7 → N.2.1 114 17 = nNm T z i) → (∀ k9, ¬ k9 = 17 → N.2.1 114 k9 = jj k9) → (N.1 115 = u) → (Fr [114] M0 N) → (∀ k9, k9 < i → isW T L (z + k9)) → Wn (d + 1) 57 (PNx M0 g T L mo p) (181, [(3, .int (b2 (nDg T z i = 0))), (2, .int (nI 1)), (1, .int (pkI T L z)), (0, .ref 114)], [], N) := by
    intro m
    induction m using Nat.strongRecOn with
    | _ m ih =>
      intro i N hm hi loop_0 loop_1 loop_2 loop_3 loop_4 loop_5 loop_6 loop_7 loop_8 loop_9 loop_10 loop_x0
      obtain ⟨gr, hgr⟩ : ∃ g9, N.1 114 = g9 := ⟨_, rfl⟩
      have hfr_4 : gr 4 = (nI (z + i)) := by rw [← hgr]; exact loop_0
      have hfr_13 : gr 13 = (nI i) := by rw [← hgr]; exact loop_1
      have hfr_3 : gr 3 = (nI L) := by rw [← hgr]; exact loop_2
      have hfr_5 : gr 5 = (nI mo) := by rw [← hgr]; exact loop_3
      have hxr : Gx [4, 11, 12, 13, 14] g gr := by rw [← hgr]; exact loop_4
      have hfr_12 : gr 12 = (nI z) := by rw [← hgr]; exact loop_5
      obtain ⟨n9, hn9⟩ : ∃ v9, gr 14 = v9 := ⟨_, rfl⟩
      obtain ⟨w9, hw9⟩ : ∃ v9, N.2.1 114 17 = v9 := ⟨_, rfl⟩
      have hnum : nLt T z i = 0 → i ≤ 3 → n9 = nI (nVl T z i) := by rw [← hn9, ← hgr]; exact loop_6
      have hwrd : nDg T z i = 0 → i ≤ 7 → w9 = nNm T z i := by rw [← hw9]; exact loop_7
      refine Wn.run (tab := tb_m_next) rfl 1 (c' := (182, [(3, .int (b2 (nDg T z i = 0))), (2, .int (nI 1)), (1, .int (pkI T L z)), (0, .ref 114)], [.ref 114], N)) (o := []) rfl trivial ?_
      refine Wn.callV (p := 114) (n := 1) (ix := 152) (ci := (10)) (fun r0 M0 => r0 = some (.int (pkI T L (z + i))) ∧ N = M0) [] [] rfl rfl rfl rfl (Nat.le_of_ble_eq_true rfl) (Nat.le_of_ble_eq_true rfl) (w_m_peek _ N T L (z + i) (by rw [hgr]; exact hfr_4) (by rw [hgr]; exact hfr_3) (by rw [loop_9]; exact hT) hL9 (by omega) _ ⟨rfl, rfl⟩) ?_
      rintro _ _ ⟨rfl, rfl⟩
      show Wn _ 57 _ (185, [(3, .int (b2 (nDg T z i = 0))), (2, .int (nI 1)), (1, .int (pkI T L z)), (0, .ref 114)], [.int (pkI T L (z + i))], N)
      refine Wn.callS (n := 1) (ix := 165) (fun r0 M0 => r0 = some (.int (b2 ((z + i) < L ∧ isS (T (z + i))))) ∧ N = M0) [.int (pkI T L (z + i))] [] rfl rfl rfl (Nat.le_of_ble_eq_true rfl) (Nat.le_of_ble_eq_true rfl) (w_m_isSmallP _ T L (z + i) hTb N _ ⟨rfl, rfl⟩) ?_
      rintro _ _ ⟨rfl, rfl⟩
      show Wn _ 57 _ (188, [(3, .int (b2 (nDg T z i = 0))), (2, .int (nI 1)), (1, .int (pkI T L z)), (0, .ref 114)], [.int (b2 ((z + i) < L ∧ isS (T (z + i))))], N)
      refine Wn.run (tab := tb_m_next) rfl 1 (c' := (if ¬ (b2 ((z + i) < L ∧ isS (T (z + i)))) = 0 then 201 else 191, [(3, .int (b2 (nDg T z i = 0))), (2, .int (nI 1)), (1, .int (pkI T L z)), (0, .ref 114)], [], N)) (o := []) rfl trivial ?_
      refine Wn.br (fun h1 => ?_) (fun h1 => ?_)
      · show Wn _ 57 _ (201, [(3, .int (b2 (nDg T z i = 0))), (2, .int (nI 1)), (1, .int (pkI T L z)), (0, .ref 114)], [], N)
        have h1 := b2_pos h1
        refine Wn.run (tab := tb_m_next) rfl 2 (c' := (if (b2 (nDg T z i = 0)) = 0 then 220 else 205, [(3, .int (b2 (nDg T z i = 0))), (2, .int (nI 1)), (1, .int (pkI T L z)), (0, .ref 114)], [], N)) (o := []) rfl trivial ?_
        refine Wn.br (fun h2 => ?_) (fun h2 => ?_)
        · show Wn _ 57 _ (220, [(3, .int (b2 (nDg T z i = 0))), (2, .int (nI 1)), (1, .int (pkI T L z)), (0, .ref 114)], [], N)
          have h2 := b2_neg h2
          refine Wn.run (tab := tb_m_next) rfl 6 (c' := (if (nI 7) ≤ (N.1 114 13) then 248 else 231, [(3, .int (nI 0)), (2, .int (nI 1)), (1, .int (pkI T L z)), (0, .ref 114)], [], N)) (o := [shp 114 = (0, 10)]) rfl rfl ?_
          refine Wn.br (fun h3 => ?_) (fun h3 => ?_)
          · show Wn _ 57 _ (248, [(3, .int (nI 0)), (2, .int (nI 1)), (1, .int (pkI T L z)), (0, .ref 114)], [], N)
            have h3 := (n_le rfl (fr_eq hgr (show gr 13 = (nI i) from hfr_13)) (by omega) (by omega)).mp h3
            refine Wn.run (tab := tb_m_next) rfl 4 (c' := (if (nI 3) ≤ (N.1 114 13) then 275 else 256, [(3, .int (nI 0)), (2, .int (nI 1)), (1, .int (pkI T L z)), (0, .ref 114)], [], N)) (o := [shp 114 = (0, 10)]) rfl rfl ?_
            refine Wn.br (fun h4 => ?_) (fun h4 => ?_)
            · show Wn _ 57 _ (275, [(3, .int (nI 0)), (2, .int (nI 1)), (1, .int (pkI T L z)), (0, .ref 114)], [], N)
              have h4 := (n_le rfl (fr_eq hgr (show gr 13 = (nI i) from hfr_13)) (by omega) (by omega)).mp h4
              refine Wn.run (tab := tb_m_next) rfl 6 (c' := (285, [(3, .int (nI 0)), (2, .int (nI 1)), (1, .int (pkI T L z)), (0, .ref 114)], [], (mI N 114 (upd (N.1 114) 13 ((N.1 114 13) + (nI 1)))))) (o := [shp 114 = (0, 10), shp 114 = (0, 10)]) rfl ⟨rfl, rfl⟩ ?_
              rw [show (N.1 114 13) = (nI i) from (fr_eq hgr (show gr 13 = (nI i) from hfr_13))]
              rw [show ((nI i) + (nI 1)) = (nI (i + 1)) from (n_add rfl rfl)]
              generalize hM2 : (mI N 114 (upd (N.1 114) 13 (nI (i + 1)))) = M1
              have hk3 := fI_up hM2 hgr
              have hu4 := fI_ne hM2 (by decide) loop_9
              have hF5 := fr_sI loop_10 hM2 (by decide)
              have hj6 := jc_oI hM2 hw9
              show Wn _ 57 _ (285, [(3, .int (nI 0)), (2, .int (nI 1)), (1, .int (pkI T L z)), (0, .ref 114)], [], M1)
              refine Wn.run (tab := tb_m_next) rfl 6 (c' := (295, [(3, .int (nI 0)), (2, .int (nI 1)), (1, .int (pkI T L z)), (0, .ref 114)], [], (mI M1 114 (upd (M1.1 114) 4 ((M1.1 114 4) + (nI 1)))))) (o := [shp 114 = (0, 10), shp 114 = (0, 10)]) rfl ⟨rfl, rfl⟩ ?_
              rw [show (M1.1 114 4) = (nI (z + i)) from (fr_eq hk3 (show (upd gr 13 (nI (i + 1))) 4 = (nI (z + i)) from ((pk_un (by decide)).trans hfr_4)))]
              rw [show ((nI (z + i)) + (nI 1)) = (nI ((z + i) + 1)) from (n_add rfl rfl)]
              generalize hM8 : (mI M1 114 (upd (M1.1 114) 4 (nI ((z + i) + 1)))) = M7
              have hk9 := fI_up hM8 hk3
              have hu10 := fI_ne hM8 (by decide) hu4
              have hF11 := fr_sI hF5 hM8 (by decide)
              have hj12 := jc_oI hM8 hj6
              show Wn _ 57 _ (295, [(3, .int (nI 0)), (2, .int (nI 1)), (1, .int (pkI T L z)), (0, .ref 114)], [], M7)
              refine Wn.run (tab := tb_m_next) rfl 1 (c' := (181, [(3, .int (nI 0)), (2, .int (nI 1)), (1, .int (pkI T L z)), (0, .ref 114)], [], M7)) (o := []) rfl trivial ?_
              have q1 : isS (T (z + i)) := by omega
              have q2 : ¬ isD (T (z + i)) := by omega
              have e8 : nLt T z (i + 1) = nLt T z i + 1 := by show nLt T z i + (if isS (T (z + i)) then 1 else 0) = _; rw [if_pos q1]
              have e9 : nDg T z (i + 1) = nDg T z i + 0 := by show nDg T z i + (if isD (T (z + i)) then 1 else 0) = _; rw [if_neg q2]
              have e6 : nVl T z (i + 1) = nVl T z i := by show (if isD (T (z + i)) then _ else _) = _; rw [if_neg q2]
              have e7 : nNm T z (i + 1) = (nNm T z i <<< ((nI 8).toInt64 &&& 63)) ||| (nI (T (z + i))).toInt64 := by show (if isS (T (z + i)) then _ else _) = _; rw [if_pos q1]
              have ea : (nI 0) = (b2 (nDg T z (i + 1) = 0)) := by rw [b2_f (by omega)]; rfl
              have key9 := ih ((L - z) - (i + 1)) (by omega) (i + 1) M7 rfl (by omega) (by rw [hk9]; exact pk_us) (by rw [hk9]; exact ((pk_un (by decide)).trans pk_us)) (by rw [hk9]; exact ((pk_un (by decide)).trans ((pk_un (by decide)).trans hfr_3))) (by rw [hk9]; exact ((pk_un (by decide)).trans ((pk_un (by decide)).trans hfr_5))) (by rw [hk9]; exact (Gx_up (Gx_up hxr (by decide)) (by decide))) (by rw [hk9]; exact ((pk_un (by decide)).trans ((pk_un (by decide)).trans hfr_12))) (fun a1 a2 => absurd a1 (by omega)) (fun a1 a2 => absurd a2 (by omega)) (fun k9 hk9 => (jo_I hM8 hk9 (jo_I hM2 hk9 (loop_8 k9 hk9)))) hu10 hF11 (fun k9 hk => if e : k9 = i then (by rw [e]; exact ⟨by omega, by omega⟩) else loop_x0 k9 (by omega))
              rw [← ea] at key9
              exact key9
            · show Wn _ 57 _ (256, [(3, .int (nI 0)), (2, .int (nI 1)), (1, .int (pkI T L z)), (0, .ref 114)], [], N)
              have h4 := mt (n_le rfl (fr_eq hgr (show gr 13 = (nI i) from hfr_13)) (by omega) (by omega)).mpr h4
              refine Wn.run (tab := tb_m_next) rfl 6 (c' := (265, [(3, .int (nI 0)), (2, .int (nI 1)), (1, .int (pkI T L z)), (0, .ref 114)], [.ref 114, .int ((nI 10) * (N.1 114 14)), .ref 114], N)) (o := [shp 114 = (0, 10)]) rfl rfl ?_
              rw [show (N.1 114 14) = n9 from (fr_eq hgr (show gr 14 = n9 from hn9))]
              refine Wn.callV (p := 114) (n := 1) (ix := 152) (ci := (10)) (fun r0 M0 => r0 = some (.int (pkI T L (z + i))) ∧ N = M0) [] [.int ((nI 10) * n9), .ref 114] rfl rfl rfl rfl (Nat.le_of_ble_eq_true rfl) (Nat.le_of_ble_eq_true rfl) (w_m_peek _ N T L (z + i) (by rw [hgr]; exact hfr_4) (by rw [hgr]; exact hfr_3) (by rw [loop_9]; exact hT) hL9 (by omega) _ ⟨rfl, rfl⟩) ?_
              rintro _ _ ⟨rfl, rfl⟩
              show Wn _ 57 _ (268, [(3, .int (nI 0)), (2, .int (nI 1)), (1, .int (pkI T L z)), (0, .ref 114)], [.int (pkI T L (z + i)), .int ((nI 10) * n9), .ref 114], N)
              refine Wn.run (tab := tb_m_next) rfl 4 (c' := (275, [(3, .int (nI 0)), (2, .int (nI 1)), (1, .int (pkI T L z)), (0, .ref 114)], [], (mI N 114 (upd (N.1 114) 14 ((((nI 10) * n9) + (pkI T L (z + i))) - (nI 48)))))) (o := [shp 114 = (0, 10)]) rfl rfl ?_
              generalize hM14 : (mI N 114 (upd (N.1 114) 14 ((((nI 10) * n9) + (pkI T L (z + i))) - (nI 48)))) = M13
              have hk15 := fI_up hM14 hgr
              have hu16 := fI_ne hM14 (by decide) loop_9
              have hF17 := fr_sI loop_10 hM14 (by decide)
              have hj18 := jc_oI hM14 hw9
              show Wn _ 57 _ (275, [(3, .int (nI 0)), (2, .int (nI 1)), (1, .int (pkI T L z)), (0, .ref 114)], [], M13)
              refine Wn.run (tab := tb_m_next) rfl 6 (c' := (285, [(3, .int (nI 0)), (2, .int (nI 1)), (1, .int (pkI T L z)), (0, .ref 114)], [], (mI M13 114 (upd (M13.1 114) 13 ((M13.1 114 13) + (nI 1)))))) (o := [shp 114 = (0, 10), shp 114 = (0, 10)]) rfl ⟨rfl, rfl⟩ ?_
              rw [show (M13.1 114 13) = (nI i) from (fr_eq hk15 (show (upd gr 14 ((((nI 10) * n9) + (pkI T L (z + i))) - (nI 48))) 13 = (nI i) from ((pk_un (by decide)).trans hfr_13)))]
              rw [show ((nI i) + (nI 1)) = (nI (i + 1)) from (n_add rfl rfl)]
              generalize hM20 : (mI M13 114 (upd (M13.1 114) 13 (nI (i + 1)))) = M19
              have hk21 := fI_up hM20 hk15
              have hu22 := fI_ne hM20 (by decide) hu16
              have hF23 := fr_sI hF17 hM20 (by decide)
              have hj24 := jc_oI hM20 hj18
              show Wn _ 57 _ (285, [(3, .int (nI 0)), (2, .int (nI 1)), (1, .int (pkI T L z)), (0, .ref 114)], [], M19)
              refine Wn.run (tab := tb_m_next) rfl 6 (c' := (295, [(3, .int (nI 0)), (2, .int (nI 1)), (1, .int (pkI T L z)), (0, .ref 114)], [], (mI M19 114 (upd (M19.1 114) 4 ((M19.1 114 4) + (nI 1)))))) (o := [shp 114 = (0, 10), shp 114 = (0, 10)]) rfl ⟨rfl, rfl⟩ ?_
              rw [show (M19.1 114 4) = (nI (z + i)) from (fr_eq hk21 (show (upd (upd gr 14 ((((nI 10) * n9) + (pkI T L (z + i))) - (nI 48))) 13 (nI (i + 1))) 4 = (nI (z + i)) from ((pk_un (by decide)).trans ((pk_un (by decide)).trans hfr_4))))]
              rw [show ((nI (z + i)) + (nI 1)) = (nI ((z + i) + 1)) from (n_add rfl rfl)]
              generalize hM26 : (mI M19 114 (upd (M19.1 114) 4 (nI ((z + i) + 1)))) = M25
              have hk27 := fI_up hM26 hk21
              have hu28 := fI_ne hM26 (by decide) hu22
              have hF29 := fr_sI hF23 hM26 (by decide)
              have hj30 := jc_oI hM26 hj24
              show Wn _ 57 _ (295, [(3, .int (nI 0)), (2, .int (nI 1)), (1, .int (pkI T L z)), (0, .ref 114)], [], M25)
              refine Wn.run (tab := tb_m_next) rfl 1 (c' := (181, [(3, .int (nI 0)), (2, .int (nI 1)), (1, .int (pkI T L z)), (0, .ref 114)], [], M25)) (o := []) rfl trivial ?_
              have q1 : isS (T (z + i)) := by omega
              have q2 : ¬ isD (T (z + i)) := by omega
              have e8 : nLt T z (i + 1) = nLt T z i + 1 := by show nLt T z i + (if isS (T (z + i)) then 1 else 0) = _; rw [if_pos q1]
              have e9 : nDg T z (i + 1) = nDg T z i + 0 := by show nDg T z i + (if isD (T (z + i)) then 1 else 0) = _; rw [if_neg q2]
              have e6 : nVl T z (i + 1) = nVl T z i := by show (if isD (T (z + i)) then _ else _) = _; rw [if_neg q2]
              have e7 : nNm T z (i + 1) = (nNm T z i <<< ((nI 8).toInt64 &&& 63)) ||| (nI (T (z + i))).toInt64 := by show (if isS (T (z + i)) then _ else _) = _; rw [if_pos q1]
              have ea : (nI 0) = (b2 (nDg T z (i + 1) = 0)) := by rw [b2_f (by omega)]; rfl
              have key9 := ih ((L - z) - (i + 1)) (by omega) (i + 1) M25 rfl (by omega) (by rw [hk27]; exact pk_us) (by rw [hk27]; exact ((pk_un (by decide)).trans pk_us)) (by rw [hk27]; exact ((pk_un (by decide)).trans ((pk_un (by decide)).trans ((pk_un (by decide)).trans hfr_3)))) (by rw [hk27]; exact ((pk_un (by decide)).trans ((pk_un (by decide)).trans ((pk_un (by decide)).trans hfr_5)))) (by rw [hk27]; exact (Gx_up (Gx_up (Gx_up hxr (by decide)) (by decide)) (by decide))) (by rw [hk27]; exact ((pk_un (by decide)).trans ((pk_un (by decide)).trans ((pk_un (by decide)).trans hfr_12)))) (fun a1 a2 => absurd a1 (by omega)) (fun a1 a2 => absurd a2 (by omega)) (fun k9 hk9 => (jo_I hM26 hk9 (jo_I hM20 hk9 (jo_I hM14 hk9 (loop_8 k9 hk9))))) hu28 hF29 (fun k9 hk => if e : k9 = i then (by rw [e]; exact ⟨by omega, by omega⟩) else loop_x0 k9 (by omega))
              rw [← ea] at key9
              exact key9
          · show Wn _ 57 _ (231, [(3, .int (nI 0)), (2, .int (nI 1)), (1, .int (pkI T L z)), (0, .ref 114)], [], N)
            have h3 := mt (n_le rfl (fr_eq hgr (show gr 13 = (nI i) from hfr_13)) (by omega) (by omega)).mpr h3
            refine Wn.run (tab := tb_m_next) rfl 6 (c' := (240, [(3, .int (nI 0)), (2, .int (nI 1)), (1, .int (pkI T L z)), (0, .ref 114)], [.ref 114, .long ((N.2.1 114 17) <<< (((nI 8)).toInt64 &&& 63)), .ref 114], N)) (o := [shp 114 = (0, 10)]) rfl rfl ?_
            rw [show (N.2.1 114 17) = w9 from hw9]
            refine Wn.callV (p := 114) (n := 1) (ix := 152) (ci := (10)) (fun r0 M0 => r0 = some (.int (pkI T L (z + i))) ∧ N = M0) [] [.long (w9 <<< (((nI 8)).toInt64 &&& 63)), .ref 114] rfl rfl rfl rfl (Nat.le_of_ble_eq_true rfl) (Nat.le_of_ble_eq_true rfl) (w_m_peek _ N T L (z + i) (by rw [hgr]; exact hfr_4) (by rw [hgr]; exact hfr_3) (by rw [loop_9]; exact hT) hL9 (by omega) _ ⟨rfl, rfl⟩) ?_
            rintro _ _ ⟨rfl, rfl⟩
            show Wn _ 57 _ (243, [(3, .int (nI 0)), (2, .int (nI 1)), (1, .int (pkI T L z)), (0, .ref 114)], [.int (pkI T L (z + i)), .long (w9 <<< (((nI 8)).toInt64 &&& 63)), .ref 114], N)
            refine Wn.run (tab := tb_m_next) rfl 3 (c' := (248, [(3, .int (nI 0)), (2, .int (nI 1)), (1, .int (pkI T L z)), (0, .ref 114)], [], (mJ N 114 (vp_updL (N.2.1 114) 17 ((w9 <<< (((nI 8)).toInt64 &&& 63)) ||| ((pkI T L (z + i))).toInt64))))) (o := [shp 114 = (0, 10)]) rfl rfl ?_
            generalize hM32 : (mJ N 114 (vp_updL (N.2.1 114) 17 ((w9 <<< (((nI 8)).toInt64 &&& 63)) ||| ((pkI T L (z + i))).toInt64))) = M31
            have hk33 := fI_oJ hM32 hgr
            have hu34 := fI_oJ hM32 loop_9
            have hF35 := fr_sJ loop_10 hM32 (by decide)
            have hj36 := jc_eq hM32
            show Wn _ 57 _ (248, [(3, .int (nI 0)), (2, .int (nI 1)), (1, .int (pkI T L z)), (0, .ref 114)], [], M31)
            refine Wn.run (tab := tb_m_next) rfl 4 (c' := (if (nI 3) ≤ (M31.1 114 13) then 275 else 256, [(3, .int (nI 0)), (2, .int (nI 1)), (1, .int (pkI T L z)), (0, .ref 114)], [], M31)) (o := [shp 114 = (0, 10)]) rfl rfl ?_
            refine Wn.br (fun h5 => ?_) (fun h5 => ?_)
            · show Wn _ 57 _ (275, [(3, .int (nI 0)), (2, .int (nI 1)), (1, .int (pkI T L z)), (0, .ref 114)], [], M31)
              have h5 := (n_le rfl (fr_eq hk33 (show gr 13 = (nI i) from hfr_13)) (by omega) (by omega)).mp h5
              refine Wn.run (tab := tb_m_next) rfl 6 (c' := (285, [(3, .int (nI 0)), (2, .int (nI 1)), (1, .int (pkI T L z)), (0, .ref 114)], [], (mI M31 114 (upd (M31.1 114) 13 ((M31.1 114 13) + (nI 1)))))) (o := [shp 114 = (0, 10), shp 114 = (0, 10)]) rfl ⟨rfl, rfl⟩ ?_
              rw [show (M31.1 114 13) = (nI i) from (fr_eq hk33 (show gr 13 = (nI i) from hfr_13))]
              rw [show ((nI i) + (nI 1)) = (nI (i + 1)) from (n_add rfl rfl)]
              generalize hM38 : (mI M31 114 (upd (M31.1 114) 13 (nI (i + 1)))) = M37
              have hk39 := fI_up hM38 hk33
              have hu40 := fI_ne hM38 (by decide) hu34
              have hF41 := fr_sI hF35 hM38 (by decide)
              have hj42 := jc_oI hM38 hj36
              show Wn _ 57 _ (285, [(3, .int (nI 0)), (2, .int (nI 1)), (1, .int (pkI T L z)), (0, .ref 114)], [], M37)
              refine Wn.run (tab := tb_m_next) rfl 6 (c' := (295, [(3, .int (nI 0)), (2, .int (nI 1)), (1, .int (pkI T L z)), (0, .ref 114)], [], (mI M37 114 (upd (M37.1 114) 4 ((M37.1 114 4) + (nI 1)))))) (o := [shp 114 = (0, 10), shp 114 = (0, 10)]) rfl ⟨rfl, rfl⟩ ?_
              rw [show (M37.1 114 4) = (nI (z + i)) from (fr_eq hk39 (show (upd gr 13 (nI (i + 1))) 4 = (nI (z + i)) from ((pk_un (by decide)).trans hfr_4)))]
              rw [show ((nI (z + i)) + (nI 1)) = (nI ((z + i) + 1)) from (n_add rfl rfl)]
              generalize hM44 : (mI M37 114 (upd (M37.1 114) 4 (nI ((z + i) + 1)))) = M43
              have hk45 := fI_up hM44 hk39
              have hu46 := fI_ne hM44 (by decide) hu40
              have hF47 := fr_sI hF41 hM44 (by decide)
              have hj48 := jc_oI hM44 hj42
              show Wn _ 57 _ (295, [(3, .int (nI 0)), (2, .int (nI 1)), (1, .int (pkI T L z)), (0, .ref 114)], [], M43)
              refine Wn.run (tab := tb_m_next) rfl 1 (c' := (181, [(3, .int (nI 0)), (2, .int (nI 1)), (1, .int (pkI T L z)), (0, .ref 114)], [], M43)) (o := []) rfl trivial ?_
              have q1 : isS (T (z + i)) := by omega
              have q2 : ¬ isD (T (z + i)) := by omega
              have e8 : nLt T z (i + 1) = nLt T z i + 1 := by show nLt T z i + (if isS (T (z + i)) then 1 else 0) = _; rw [if_pos q1]
              have e9 : nDg T z (i + 1) = nDg T z i + 0 := by show nDg T z i + (if isD (T (z + i)) then 1 else 0) = _; rw [if_neg q2]
              have e6 : nVl T z (i + 1) = nVl T z i := by show (if isD (T (z + i)) then _ else _) = _; rw [if_neg q2]
              have e7 : nNm T z (i + 1) = (nNm T z i <<< ((nI 8).toInt64 &&& 63)) ||| (nI (T (z + i))).toInt64 := by show (if isS (T (z + i)) then _ else _) = _; rw [if_pos q1]
              have ea : (nI 0) = (b2 (nDg T z (i + 1) = 0)) := by rw [b2_f (by omega)]; rfl
              have key9 := ih ((L - z) - (i + 1)) (by omega) (i + 1) M43 rfl (by omega) (by rw [hk45]; exact pk_us) (by rw [hk45]; exact ((pk_un (by decide)).trans pk_us)) (by rw [hk45]; exact ((pk_un (by decide)).trans ((pk_un (by decide)).trans hfr_3))) (by rw [hk45]; exact ((pk_un (by decide)).trans ((pk_un (by decide)).trans hfr_5))) (by rw [hk45]; exact (Gx_up (Gx_up hxr (by decide)) (by decide))) (by rw [hk45]; exact ((pk_un (by decide)).trans ((pk_un (by decide)).trans hfr_12))) (fun a1 a2 => absurd a1 (by omega)) (fun a1 a2 => by rw [hj48, e7, hwrd (by omega) (by omega), pkI_y (by omega)]) (fun k9 hk9 => (jo_I hM44 hk9 (jo_I hM38 hk9 (jo_J hM32 hk9 (loop_8 k9 hk9))))) hu46 hF47 (fun k9 hk => if e : k9 = i then (by rw [e]; exact ⟨by omega, by omega⟩) else loop_x0 k9 (by omega))
              rw [← ea] at key9
              exact key9
            · show Wn _ 57 _ (256, [(3, .int (nI 0)), (2, .int (nI 1)), (1, .int (pkI T L z)), (0, .ref 114)], [], M31)
              have h5 := mt (n_le rfl (fr_eq hk33 (show gr 13 = (nI i) from hfr_13)) (by omega) (by omega)).mpr h5
              refine Wn.run (tab := tb_m_next) rfl 6 (c' := (265, [(3, .int (nI 0)), (2, .int (nI 1)), (1, .int (pkI T L z)), (0, .ref 114)], [.ref 114, .int ((nI 10) * (M31.1 114 14)), .ref 114], M31)) (o := [shp 114 = (0, 10)]) rfl rfl ?_
              rw [show (M31.1 114 14) = n9 from (fr_eq hk33 (show gr 14 = n9 from hn9))]
              refine Wn.callV (p := 114) (n := 1) (ix := 152) (ci := (10)) (fun r0 M0 => r0 = some (.int (pkI T L (z + i))) ∧ M31 = M0) [] [.int ((nI 10) * n9), .ref 114] rfl rfl rfl rfl (Nat.le_of_ble_eq_true rfl) (Nat.le_of_ble_eq_true rfl) (w_m_peek _ M31 T L (z + i) (by rw [hk33]; exact hfr_4) (by rw [hk33]; exact hfr_3) (by rw [hu34]; exact hT) hL9 (by omega) _ ⟨rfl, rfl⟩) ?_
              rintro _ _ ⟨rfl, rfl⟩
              show Wn _ 57 _ (268, [(3, .int (nI 0)), (2, .int (nI 1)), (1, .int (pkI T L z)), (0, .ref 114)], [.int (pkI T L (z + i)), .int ((nI 10) * n9), .ref 114], M31)
              refine Wn.run (tab := tb_m_next) rfl 4 (c' := (275, [(3, .int (nI 0)), (2, .int (nI 1)), (1, .int (pkI T L z)), (0, .ref 114)], [], (mI M31 114 (upd (M31.1 114) 14 ((((nI 10) * n9) + (pkI T L (z + i))) - (nI 48)))))) (o := [shp 114 = (0, 10)]) rfl rfl ?_
              generalize hM50 : (mI M31 114 (upd (M31.1 114) 14 ((((nI 10) * n9) + (pkI T L (z + i))) - (nI 48)))) = M49
              have hk51 := fI_up hM50 hk33
              have hu52 := fI_ne hM50 (by decide) hu34
              have hF53 := fr_sI hF35 hM50 (by decide)
              have hj54 := jc_oI hM50 hj36
              show Wn _ 57 _ (275, [(3, .int (nI 0)), (2, .int (nI 1)), (1, .int (pkI T L z)), (0, .ref 114)], [], M49)
              refine Wn.run (tab := tb_m_next) rfl 6 (c' := (285, [(3, .int (nI 0)), (2, .int (nI 1)), (1, .int (pkI T L z)), (0, .ref 114)], [], (mI M49 114 (upd (M49.1 114) 13 ((M49.1 114 13) + (nI 1)))))) (o := [shp 114 = (0, 10), shp 114 = (0, 10)]) rfl ⟨rfl, rfl⟩ ?_
              rw [show (M49.1 114 13) = (nI i) from (fr_eq hk51 (show (upd gr 14 ((((nI 10) * n9) + (pkI T L (z + i))) - (nI 48))) 13 = (nI i) from ((pk_un (by decide)).trans hfr_13)))]
              rw [show ((nI i) + (nI 1)) = (nI (i + 1)) from (n_add rfl rfl)]
              generalize hM56 : (mI M49 114 (upd (M49.1 114) 13 (nI (i + 1)))) = M55
              have hk57 := fI_up hM56 hk51
              have hu58 := fI_ne hM56 (by decide) hu52
              have hF59 := fr_sI hF53 hM56 (by decide)
              have hj60 := jc_oI hM56 hj54
              show Wn _ 57 _ (285, [(3, .int (nI 0)), (2, .int (nI 1)), (1, .int (pkI T L z)), (0, .ref 114)], [], M55)
              refine Wn.run (tab := tb_m_next) rfl 6 (c' := (295, [(3, .int (nI 0)), (2, .int (nI 1)), (1, .int (pkI T L z)), (0, .ref 114)], [], (mI M55 114 (upd (M55.1 114) 4 ((M55.1 114 4) + (nI 1)))))) (o := [shp 114 = (0, 10), shp 114 = (0, 10)]) rfl ⟨rfl, rfl⟩ ?_
              rw [show (M55.1 114 4) = (nI (z + i)) from (fr_eq hk57 (show (upd (upd gr 14 ((((nI 10) * n9) + (pkI T L (z + i))) - (nI 48))) 13 (nI (i + 1))) 4 = (nI (z + i)) from ((pk_un (by decide)).trans ((pk_un (by decide)).trans hfr_4))))]
              rw [show ((nI (z + i)) + (nI 1)) = (nI ((z + i) + 1)) from (n_add rfl rfl)]
              generalize hM62 : (mI M55 114 (upd (M55.1 114) 4 (nI ((z + i) + 1)))) = M61
              have hk63 := fI_up hM62 hk57
              have hu64 := fI_ne hM62 (by decide) hu58
              have hF65 := fr_sI hF59 hM62 (by decide)
              have hj66 := jc_oI hM62 hj60
              show Wn _ 57 _ (295, [(3, .int (nI 0)), (2, .int (nI 1)), (1, .int (pkI T L z)), (0, .ref 114)], [], M61)
              refine Wn.run (tab := tb_m_next) rfl 1 (c' := (181, [(3, .int (nI 0)), (2, .int (nI 1)), (1, .int (pkI T L z)), (0, .ref 114)], [], M61)) (o := []) rfl trivial ?_
              have q1 : isS (T (z + i)) := by omega
              have q2 : ¬ isD (T (z + i)) := by omega
              have e8 : nLt T z (i + 1) = nLt T z i + 1 := by show nLt T z i + (if isS (T (z + i)) then 1 else 0) = _; rw [if_pos q1]
              have e9 : nDg T z (i + 1) = nDg T z i + 0 := by show nDg T z i + (if isD (T (z + i)) then 1 else 0) = _; rw [if_neg q2]
              have e6 : nVl T z (i + 1) = nVl T z i := by show (if isD (T (z + i)) then _ else _) = _; rw [if_neg q2]
              have e7 : nNm T z (i + 1) = (nNm T z i <<< ((nI 8).toInt64 &&& 63)) ||| (nI (T (z + i))).toInt64 := by show (if isS (T (z + i)) then _ else _) = _; rw [if_pos q1]
              have ea : (nI 0) = (b2 (nDg T z (i + 1) = 0)) := by rw [b2_f (by omega)]; rfl
              have key9 := ih ((L - z) - (i + 1)) (by omega) (i + 1) M61 rfl (by omega) (by rw [hk63]; exact pk_us) (by rw [hk63]; exact ((pk_un (by decide)).trans pk_us)) (by rw [hk63]; exact ((pk_un (by decide)).trans ((pk_un (by decide)).trans ((pk_un (by decide)).trans hfr_3)))) (by rw [hk63]; exact ((pk_un (by decide)).trans ((pk_un (by decide)).trans ((pk_un (by decide)).trans hfr_5)))) (by rw [hk63]; exact (Gx_up (Gx_up (Gx_up hxr (by decide)) (by decide)) (by decide))) (by rw [hk63]; exact ((pk_un (by decide)).trans ((pk_un (by decide)).trans ((pk_un (by decide)).trans hfr_12)))) (fun a1 a2 => absurd a1 (by omega)) (fun a1 a2 => by rw [hj66, e7, hwrd (by omega) (by omega), pkI_y (by omega)]) (fun k9 hk9 => (jo_I hM62 hk9 (jo_I hM56 hk9 (jo_I hM50 hk9 (jo_J hM32 hk9 (loop_8 k9 hk9)))))) hu64 hF65 (fun k9 hk => if e : k9 = i then (by rw [e]; exact ⟨by omega, by omega⟩) else loop_x0 k9 (by omega))
              rw [← ea] at key9
              exact key9
        · show Wn _ 57 _ (205, [(3, .int (b2 (nDg T z i = 0))), (2, .int (nI 1)), (1, .int (pkI T L z)), (0, .ref 114)], [], N)
          have h2 := b2_pos h2
          refine Wn.run (tab := tb_m_next) rfl 1 (c' := (206, [(3, .int (b2 (nDg T z i = 0))), (2, .int (nI 1)), (1, .int (pkI T L z)), (0, .ref 114)], [.ref 114], N)) (o := []) rfl trivial ?_
          refine Wn.callV (p := 114) (n := 1) (ix := 152) (ci := (10)) (fun r0 M0 => r0 = some (.int (pkI T L (z + i))) ∧ N = M0) [] [] rfl rfl rfl rfl (Nat.le_of_ble_eq_true rfl) (Nat.le_of_ble_eq_true rfl) (w_m_peek _ N T L (z + i) (by rw [hgr]; exact hfr_4) (by rw [hgr]; exact hfr_3) (by rw [loop_9]; exact hT) hL9 (by omega) _ ⟨rfl, rfl⟩) ?_
          rintro _ _ ⟨rfl, rfl⟩
          show Wn _ 57 _ (209, [(3, .int (b2 (nDg T z i = 0))), (2, .int (nI 1)), (1, .int (pkI T L z)), (0, .ref 114)], [.int (pkI T L (z + i))], N)
          refine Wn.callS (n := 1) (ix := 165) (fun r0 M0 => r0 = some (.int (b2 ((z + i) < L ∧ isS (T (z + i))))) ∧ N = M0) [.int (pkI T L (z + i))] [] rfl rfl rfl (Nat.le_of_ble_eq_true rfl) (Nat.le_of_ble_eq_true rfl) (w_m_isSmallP _ T L (z + i) hTb N _ ⟨rfl, rfl⟩) ?_
          rintro _ _ ⟨rfl, rfl⟩
          show Wn _ 57 _ (212, [(3, .int (b2 (nDg T z i = 0))), (2, .int (nI 1)), (1, .int (pkI T L z)), (0, .ref 114)], [.int (b2 ((z + i) < L ∧ isS (T (z + i))))], N)
          rw [show (b2 ((z + i) < L ∧ isS (T (z + i)))) = (nI 1) from (b2_t (by omega))]
          refine Wn.run (tab := tb_m_next) rfl 2 (c' := (if ¬ (nI 1) = (nI 1) then 220 else 216, [(3, .int (b2 (nDg T z i = 0))), (2, .int (nI 1)), (1, .int (pkI T L z)), (0, .ref 114)], [], N)) (o := []) rfl trivial ?_
          rw [if_neg (show ¬ (¬ (nI 1) = (nI 1)) by decide)]
          show Wn _ 57 _ (216, [(3, .int (b2 (nDg T z i = 0))), (2, .int (nI 1)), (1, .int (pkI T L z)), (0, .ref 114)], [], N)
          refine Wn.run (tab := tb_m_next) rfl 7 (c' := (if (nI 7) ≤ (N.1 114 13) then 248 else 231, [(3, .int (nI 1)), (2, .int (nI 1)), (1, .int (pkI T L z)), (0, .ref 114)], [], N)) (o := [shp 114 = (0, 10)]) rfl rfl ?_
          refine Wn.br (fun h6 => ?_) (fun h6 => ?_)
          · show Wn _ 57 _ (248, [(3, .int (nI 1)), (2, .int (nI 1)), (1, .int (pkI T L z)), (0, .ref 114)], [], N)
            have h6 := (n_le rfl (fr_eq hgr (show gr 13 = (nI i) from hfr_13)) (by omega) (by omega)).mp h6
            refine Wn.run (tab := tb_m_next) rfl 4 (c' := (if (nI 3) ≤ (N.1 114 13) then 275 else 256, [(3, .int (nI 1)), (2, .int (nI 1)), (1, .int (pkI T L z)), (0, .ref 114)], [], N)) (o := [shp 114 = (0, 10)]) rfl rfl ?_
            refine Wn.br (fun h7 => ?_) (fun h7 => ?_)
            · show Wn _ 57 _ (275, [(3, .int (nI 1)), (2, .int (nI 1)), (1, .int (pkI T L z)), (0, .ref 114)], [], N)
              have h7 := (n_le rfl (fr_eq hgr (show gr 13 = (nI i) from hfr_13)) (by omega) (by omega)).mp h7
              refine Wn.run (tab := tb_m_next) rfl 6 (c' := (285, [(3, .int (nI 1)), (2, .int (nI 1)), (1, .int (pkI T L z)), (0, .ref 114)], [], (mI N 114 (upd (N.1 114) 13 ((N.1 114 13) + (nI 1)))))) (o := [shp 114 = (0, 10), shp 114 = (0, 10)]) rfl ⟨rfl, rfl⟩ ?_
              rw [show (N.1 114 13) = (nI i) from (fr_eq hgr (show gr 13 = (nI i) from hfr_13))]
              rw [show ((nI i) + (nI 1)) = (nI (i + 1)) from (n_add rfl rfl)]
              generalize hM68 : (mI N 114 (upd (N.1 114) 13 (nI (i + 1)))) = M67
              have hk69 := fI_up hM68 hgr
              have hu70 := fI_ne hM68 (by decide) loop_9
              have hF71 := fr_sI loop_10 hM68 (by decide)
              have hj72 := jc_oI hM68 hw9
              show Wn _ 57 _ (285, [(3, .int (nI 1)), (2, .int (nI 1)), (1, .int (pkI T L z)), (0, .ref 114)], [], M67)
              refine Wn.run (tab := tb_m_next) rfl 6 (c' := (295, [(3, .int (nI 1)), (2, .int (nI 1)), (1, .int (pkI T L z)), (0, .ref 114)], [], (mI M67 114 (upd (M67.1 114) 4 ((M67.1 114 4) + (nI 1)))))) (o := [shp 114 = (0, 10), shp 114 = (0, 10)]) rfl ⟨rfl, rfl⟩ ?_
              rw [show (M67.1 114 4) = (nI (z + i)) from (fr_eq hk69 (show (upd gr 13 (nI (i + 1))) 4 = (nI (z + i)) from ((pk_un (by decide)).trans hfr_4)))]
              rw [show ((nI (z + i)) + (nI 1)) = (nI ((z + i) + 1)) from (n_add rfl rfl)]
              generalize hM74 : (mI M67 114 (upd (M67.1 114) 4 (nI ((z + i) + 1)))) = M73
              have hk75 := fI_up hM74 hk69
              have hu76 := fI_ne hM74 (by decide) hu70
              have hF77 := fr_sI hF71 hM74 (by decide)
              have hj78 := jc_oI hM74 hj72
              show Wn _ 57 _ (295, [(3, .int (nI 1)), (2, .int (nI 1)), (1, .int (pkI T L z)), (0, .ref 114)], [], M73)
              refine Wn.run (tab := tb_m_next) rfl 1 (c' := (181, [(3, .int (nI 1)), (2, .int (nI 1)), (1, .int (pkI T L z)), (0, .ref 114)], [], M73)) (o := []) rfl trivial ?_
              have q1 : isS (T (z + i)) := by omega
              have q2 : ¬ isD (T (z + i)) := by omega
              have e8 : nLt T z (i + 1) = nLt T z i + 1 := by show nLt T z i + (if isS (T (z + i)) then 1 else 0) = _; rw [if_pos q1]
              have e9 : nDg T z (i + 1) = nDg T z i + 0 := by show nDg T z i + (if isD (T (z + i)) then 1 else 0) = _; rw [if_neg q2]
              have e6 : nVl T z (i + 1) = nVl T z i := by show (if isD (T (z + i)) then _ else _) = _; rw [if_neg q2]
              have e7 : nNm T z (i + 1) = (nNm T z i <<< ((nI 8).toInt64 &&& 63)) ||| (nI (T (z + i))).toInt64 := by show (if isS (T (z + i)) then _ else _) = _; rw [if_pos q1]
              have ea : (nI 1) = (b2 (nDg T z (i + 1) = 0)) := by rw [b2_t (by omega)]; rfl
              have key9 := ih ((L - z) - (i + 1)) (by omega) (i + 1) M73 rfl (by omega) (by rw [hk75]; exact pk_us) (by rw [hk75]; exact ((pk_un (by decide)).trans pk_us)) (by rw [hk75]; exact ((pk_un (by decide)).trans ((pk_un (by decide)).trans hfr_3))) (by rw [hk75]; exact ((pk_un (by decide)).trans ((pk_un (by decide)).trans hfr_5))) (by rw [hk75]; exact (Gx_up (Gx_up hxr (by decide)) (by decide))) (by rw [hk75]; exact ((pk_un (by decide)).trans ((pk_un (by decide)).trans hfr_12))) (fun a1 a2 => absurd a1 (by omega)) (fun a1 a2 => absurd a2 (by omega)) (fun k9 hk9 => (jo_I hM74 hk9 (jo_I hM68 hk9 (loop_8 k9 hk9)))) hu76 hF77 (fun k9 hk => if e : k9 = i then (by rw [e]; exact ⟨by omega, by omega⟩) else loop_x0 k9 (by omega))
              rw [← ea] at key9
              exact key9
            · show Wn _ 57 _ (256, [(3, .int (nI 1)), (2, .int (nI 1)), (1, .int (pkI T L z)), (0, .ref 114)], [], N)
              have h7 := mt (n_le rfl (fr_eq hgr (show gr 13 = (nI i) from hfr_13)) (by omega) (by omega)).mpr h7
              refine Wn.run (tab := tb_m_next) rfl 6 (c' := (265, [(3, .int (nI 1)), (2, .int (nI 1)), (1, .int (pkI T L z)), (0, .ref 114)], [.ref 114, .int ((nI 10) * (N.1 114 14)), .ref 114], N)) (o := [shp 114 = (0, 10)]) rfl rfl ?_
              rw [show (N.1 114 14) = n9 from (fr_eq hgr (show gr 14 = n9 from hn9))]
              refine Wn.callV (p := 114) (n := 1) (ix := 152) (ci := (10)) (fun r0 M0 => r0 = some (.int (pkI T L (z + i))) ∧ N = M0) [] [.int ((nI 10) * n9), .ref 114] rfl rfl rfl rfl (Nat.le_of_ble_eq_true rfl) (Nat.le_of_ble_eq_true rfl) (w_m_peek _ N T L (z + i) (by rw [hgr]; exact hfr_4) (by rw [hgr]; exact hfr_3) (by rw [loop_9]; exact hT) hL9 (by omega) _ ⟨rfl, rfl⟩) ?_
              rintro _ _ ⟨rfl, rfl⟩
              show Wn _ 57 _ (268, [(3, .int (nI 1)), (2, .int (nI 1)), (1, .int (pkI T L z)), (0, .ref 114)], [.int (pkI T L (z + i)), .int ((nI 10) * n9), .ref 114], N)
              refine Wn.run (tab := tb_m_next) rfl 4 (c' := (275, [(3, .int (nI 1)), (2, .int (nI 1)), (1, .int (pkI T L z)), (0, .ref 114)], [], (mI N 114 (upd (N.1 114) 14 ((((nI 10) * n9) + (pkI T L (z + i))) - (nI 48)))))) (o := [shp 114 = (0, 10)]) rfl rfl ?_
              generalize hM80 : (mI N 114 (upd (N.1 114) 14 ((((nI 10) * n9) + (pkI T L (z + i))) - (nI 48)))) = M79
              have hk81 := fI_up hM80 hgr
              have hu82 := fI_ne hM80 (by decide) loop_9
              have hF83 := fr_sI loop_10 hM80 (by decide)
              have hj84 := jc_oI hM80 hw9
              show Wn _ 57 _ (275, [(3, .int (nI 1)), (2, .int (nI 1)), (1, .int (pkI T L z)), (0, .ref 114)], [], M79)
              refine Wn.run (tab := tb_m_next) rfl 6 (c' := (285, [(3, .int (nI 1)), (2, .int (nI 1)), (1, .int (pkI T L z)), (0, .ref 114)], [], (mI M79 114 (upd (M79.1 114) 13 ((M79.1 114 13) + (nI 1)))))) (o := [shp 114 = (0, 10), shp 114 = (0, 10)]) rfl ⟨rfl, rfl⟩ ?_
              rw [show (M79.1 114 13) = (nI i) from (fr_eq hk81 (show (upd gr 14 ((((nI 10) * n9) + (pkI T L (z + i))) - (nI 48))) 13 = (nI i) from ((pk_un (by decide)).trans hfr_13)))]
              rw [show ((nI i) + (nI 1)) = (nI (i + 1)) from (n_add rfl rfl)]
              generalize hM86 : (mI M79 114 (upd (M79.1 114) 13 (nI (i + 1)))) = M85
              have hk87 := fI_up hM86 hk81
              have hu88 := fI_ne hM86 (by decide) hu82
              have hF89 := fr_sI hF83 hM86 (by decide)
              have hj90 := jc_oI hM86 hj84
              show Wn _ 57 _ (285, [(3, .int (nI 1)), (2, .int (nI 1)), (1, .int (pkI T L z)), (0, .ref 114)], [], M85)
              refine Wn.run (tab := tb_m_next) rfl 6 (c' := (295, [(3, .int (nI 1)), (2, .int (nI 1)), (1, .int (pkI T L z)), (0, .ref 114)], [], (mI M85 114 (upd (M85.1 114) 4 ((M85.1 114 4) + (nI 1)))))) (o := [shp 114 = (0, 10), shp 114 = (0, 10)]) rfl ⟨rfl, rfl⟩ ?_
              rw [show (M85.1 114 4) = (nI (z + i)) from (fr_eq hk87 (show (upd (upd gr 14 ((((nI 10) * n9) + (pkI T L (z + i))) - (nI 48))) 13 (nI (i + 1))) 4 = (nI (z + i)) from ((pk_un (by decide)).trans ((pk_un (by decide)).trans hfr_4))))]
              rw [show ((nI (z + i)) + (nI 1)) = (nI ((z + i) + 1)) from (n_add rfl rfl)]
              generalize hM92 : (mI M85 114 (upd (M85.1 114) 4 (nI ((z + i) + 1)))) = M91
              have hk93 := fI_up hM92 hk87
              have hu94 := fI_ne hM92 (by decide) hu88
              have hF95 := fr_sI hF89 hM92 (by decide)
              have hj96 := jc_oI hM92 hj90
              show Wn _ 57 _ (295, [(3, .int (nI 1)), (2, .int (nI 1)), (1, .int (pkI T L z)), (0, .ref 114)], [], M91)
              refine Wn.run (tab := tb_m_next) rfl 1 (c' := (181, [(3, .int (nI 1)), (2, .int (nI 1)), (1, .int (pkI T L z)), (0, .ref 114)], [], M91)) (o := []) rfl trivial ?_
              have q1 : isS (T (z + i)) := by omega
              have q2 : ¬ isD (T (z + i)) := by omega
              have e8 : nLt T z (i + 1) = nLt T z i + 1 := by show nLt T z i + (if isS (T (z + i)) then 1 else 0) = _; rw [if_pos q1]
              have e9 : nDg T z (i + 1) = nDg T z i + 0 := by show nDg T z i + (if isD (T (z + i)) then 1 else 0) = _; rw [if_neg q2]
              have e6 : nVl T z (i + 1) = nVl T z i := by show (if isD (T (z + i)) then _ else _) = _; rw [if_neg q2]
              have e7 : nNm T z (i + 1) = (nNm T z i <<< ((nI 8).toInt64 &&& 63)) ||| (nI (T (z + i))).toInt64 := by show (if isS (T (z + i)) then _ else _) = _; rw [if_pos q1]
              have ea : (nI 1) = (b2 (nDg T z (i + 1) = 0)) := by rw [b2_t (by omega)]; rfl
              have key9 := ih ((L - z) - (i + 1)) (by omega) (i + 1) M91 rfl (by omega) (by rw [hk93]; exact pk_us) (by rw [hk93]; exact ((pk_un (by decide)).trans pk_us)) (by rw [hk93]; exact ((pk_un (by decide)).trans ((pk_un (by decide)).trans ((pk_un (by decide)).trans hfr_3)))) (by rw [hk93]; exact ((pk_un (by decide)).trans ((pk_un (by decide)).trans ((pk_un (by decide)).trans hfr_5)))) (by rw [hk93]; exact (Gx_up (Gx_up (Gx_up hxr (by decide)) (by decide)) (by decide))) (by rw [hk93]; exact ((pk_un (by decide)).trans ((pk_un (by decide)).trans ((pk_un (by decide)).trans hfr_12)))) (fun a1 a2 => absurd a1 (by omega)) (fun a1 a2 => absurd a2 (by omega)) (fun k9 hk9 => (jo_I hM92 hk9 (jo_I hM86 hk9 (jo_I hM80 hk9 (loop_8 k9 hk9))))) hu94 hF95 (fun k9 hk => if e : k9 = i then (by rw [e]; exact ⟨by omega, by omega⟩) else loop_x0 k9 (by omega))
              rw [← ea] at key9
              exact key9
          · show Wn _ 57 _ (231, [(3, .int (nI 1)), (2, .int (nI 1)), (1, .int (pkI T L z)), (0, .ref 114)], [], N)
            have h6 := mt (n_le rfl (fr_eq hgr (show gr 13 = (nI i) from hfr_13)) (by omega) (by omega)).mpr h6
            refine Wn.run (tab := tb_m_next) rfl 6 (c' := (240, [(3, .int (nI 1)), (2, .int (nI 1)), (1, .int (pkI T L z)), (0, .ref 114)], [.ref 114, .long ((N.2.1 114 17) <<< (((nI 8)).toInt64 &&& 63)), .ref 114], N)) (o := [shp 114 = (0, 10)]) rfl rfl ?_
            rw [show (N.2.1 114 17) = w9 from hw9]
            refine Wn.callV (p := 114) (n := 1) (ix := 152) (ci := (10)) (fun r0 M0 => r0 = some (.int (pkI T L (z + i))) ∧ N = M0) [] [.long (w9 <<< (((nI 8)).toInt64 &&& 63)), .ref 114] rfl rfl rfl rfl (Nat.le_of_ble_eq_true rfl) (Nat.le_of_ble_eq_true rfl) (w_m_peek _ N T L (z + i) (by rw [hgr]; exact hfr_4) (by rw [hgr]; exact hfr_3) (by rw [loop_9]; exact hT) hL9 (by omega) _ ⟨rfl, rfl⟩) ?_
            rintro _ _ ⟨rfl, rfl⟩
            show Wn _ 57 _ (243, [(3, .int (nI 1)), (2, .int (nI 1)), (1, .int (pkI T L z)), (0, .ref 114)], [.int (pkI T L (z + i)), .long (w9 <<< (((nI 8)).toInt64 &&& 63)), .ref 114], N)
            refine Wn.run (tab := tb_m_next) rfl 3 (c' := (248, [(3, .int (nI 1)), (2, .int (nI 1)), (1, .int (pkI T L z)), (0, .ref 114)], [], (mJ N 114 (vp_updL (N.2.1 114) 17 ((w9 <<< (((nI 8)).toInt64 &&& 63)) ||| ((pkI T L (z + i))).toInt64))))) (o := [shp 114 = (0, 10)]) rfl rfl ?_
            generalize hM98 : (mJ N 114 (vp_updL (N.2.1 114) 17 ((w9 <<< (((nI 8)).toInt64 &&& 63)) ||| ((pkI T L (z + i))).toInt64))) = M97
            have hk99 := fI_oJ hM98 hgr
            have hu100 := fI_oJ hM98 loop_9
            have hF101 := fr_sJ loop_10 hM98 (by decide)
            have hj102 := jc_eq hM98
            show Wn _ 57 _ (248, [(3, .int (nI 1)), (2, .int (nI 1)), (1, .int (pkI T L z)), (0, .ref 114)], [], M97)
            refine Wn.run (tab := tb_m_next) rfl 4 (c' := (if (nI 3) ≤ (M97.1 114 13) then 275 else 256, [(3, .int (nI 1)), (2, .int (nI 1)), (1, .int (pkI T L z)), (0, .ref 114)], [], M97)) (o := [shp 114 = (0, 10)]) rfl rfl ?_
            refine Wn.br (fun h8 => ?_) (fun h8 => ?_)
            · show Wn _ 57 _ (275, [(3, .int (nI 1)), (2, .int (nI 1)), (1, .int (pkI T L z)), (0, .ref 114)], [], M97)
              have h8 := (n_le rfl (fr_eq hk99 (show gr 13 = (nI i) from hfr_13)) (by omega) (by omega)).mp h8
              refine Wn.run (tab := tb_m_next) rfl 6 (c' := (285, [(3, .int (nI 1)), (2, .int (nI 1)), (1, .int (pkI T L z)), (0, .ref 114)], [], (mI M97 114 (upd (M97.1 114) 13 ((M97.1 114 13) + (nI 1)))))) (o := [shp 114 = (0, 10), shp 114 = (0, 10)]) rfl ⟨rfl, rfl⟩ ?_
              rw [show (M97.1 114 13) = (nI i) from (fr_eq hk99 (show gr 13 = (nI i) from hfr_13))]
              rw [show ((nI i) + (nI 1)) = (nI (i + 1)) from (n_add rfl rfl)]
              generalize hM104 : (mI M97 114 (upd (M97.1 114) 13 (nI (i + 1)))) = M103
              have hk105 := fI_up hM104 hk99
              have hu106 := fI_ne hM104 (by decide) hu100
              have hF107 := fr_sI hF101 hM104 (by decide)
              have hj108 := jc_oI hM104 hj102
              show Wn _ 57 _ (285, [(3, .int (nI 1)), (2, .int (nI 1)), (1, .int (pkI T L z)), (0, .ref 114)], [], M103)
              refine Wn.run (tab := tb_m_next) rfl 6 (c' := (295, [(3, .int (nI 1)), (2, .int (nI 1)), (1, .int (pkI T L z)), (0, .ref 114)], [], (mI M103 114 (upd (M103.1 114) 4 ((M103.1 114 4) + (nI 1)))))) (o := [shp 114 = (0, 10), shp 114 = (0, 10)]) rfl ⟨rfl, rfl⟩ ?_
              rw [show (M103.1 114 4) = (nI (z + i)) from (fr_eq hk105 (show (upd gr 13 (nI (i + 1))) 4 = (nI (z + i)) from ((pk_un (by decide)).trans hfr_4)))]
              rw [show ((nI (z + i)) + (nI 1)) = (nI ((z + i) + 1)) from (n_add rfl rfl)]
              generalize hM110 : (mI M103 114 (upd (M103.1 114) 4 (nI ((z + i) + 1)))) = M109
              have hk111 := fI_up hM110 hk105
              have hu112 := fI_ne hM110 (by decide) hu106
              have hF113 := fr_sI hF107 hM110 (by decide)
              have hj114 := jc_oI hM110 hj108
              show Wn _ 57 _ (295, [(3, .int (nI 1)), (2, .int (nI 1)), (1, .int (pkI T L z)), (0, .ref 114)], [], M109)
              refine Wn.run (tab := tb_m_next) rfl 1 (c' := (181, [(3, .int (nI 1)), (2, .int (nI 1)), (1, .int (pkI T L z)), (0, .ref 114)], [], M109)) (o := []) rfl trivial ?_
              have q1 : isS (T (z + i)) := by omega
              have q2 : ¬ isD (T (z + i)) := by omega
              have e8 : nLt T z (i + 1) = nLt T z i + 1 := by show nLt T z i + (if isS (T (z + i)) then 1 else 0) = _; rw [if_pos q1]
              have e9 : nDg T z (i + 1) = nDg T z i + 0 := by show nDg T z i + (if isD (T (z + i)) then 1 else 0) = _; rw [if_neg q2]
              have e6 : nVl T z (i + 1) = nVl T z i := by show (if isD (T (z + i)) then _ else _) = _; rw [if_neg q2]
              have e7 : nNm T z (i + 1) = (nNm T z i <<< ((nI 8).toInt64 &&& 63)) ||| (nI (T (z + i))).toInt64 := by show (if isS (T (z + i)) then _ else _) = _; rw [if_pos q1]
              have ea : (nI 1) = (b2 (nDg T z (i + 1) = 0)) := by rw [b2_t (by omega)]; rfl
              have key9 := ih ((L - z) - (i + 1)) (by omega) (i + 1) M109 rfl (by omega) (by rw [hk111]; exact pk_us) (by rw [hk111]; exact ((pk_un (by decide)).trans pk_us)) (by rw [hk111]; exact ((pk_un (by decide)).trans ((pk_un (by decide)).trans hfr_3))) (by rw [hk111]; exact ((pk_un (by decide)).trans ((pk_un (by decide)).trans hfr_5))) (by rw [hk111]; exact (Gx_up (Gx_up hxr (by decide)) (by decide))) (by rw [hk111]; exact ((pk_un (by decide)).trans ((pk_un (by decide)).trans hfr_12))) (fun a1 a2 => absurd a1 (by omega)) (fun a1 a2 => by rw [hj114, e7, hwrd (by omega) (by omega), pkI_y (by omega)]) (fun k9 hk9 => (jo_I hM110 hk9 (jo_I hM104 hk9 (jo_J hM98 hk9 (loop_8 k9 hk9))))) hu112 hF113 (fun k9 hk => if e : k9 = i then (by rw [e]; exact ⟨by omega, by omega⟩) else loop_x0 k9 (by omega))
              rw [← ea] at key9
              exact key9
            · show Wn _ 57 _ (256, [(3, .int (nI 1)), (2, .int (nI 1)), (1, .int (pkI T L z)), (0, .ref 114)], [], M97)
              have h8 := mt (n_le rfl (fr_eq hk99 (show gr 13 = (nI i) from hfr_13)) (by omega) (by omega)).mpr h8
              refine Wn.run (tab := tb_m_next) rfl 6 (c' := (265, [(3, .int (nI 1)), (2, .int (nI 1)), (1, .int (pkI T L z)), (0, .ref 114)], [.ref 114, .int ((nI 10) * (M97.1 114 14)), .ref 114], M97)) (o := [shp 114 = (0, 10)]) rfl rfl ?_
              rw [show (M97.1 114 14) = n9 from (fr_eq hk99 (show gr 14 = n9 from hn9))]
              refine Wn.callV (p := 114) (n := 1) (ix := 152) (ci := (10)) (fun r0 M0 => r0 = some (.int (pkI T L (z + i))) ∧ M97 = M0) [] [.int ((nI 10) * n9), .ref 114] rfl rfl rfl rfl (Nat.le_of_ble_eq_true rfl) (Nat.le_of_ble_eq_true rfl) (w_m_peek _ M97 T L (z + i) (by rw [hk99]; exact hfr_4) (by rw [hk99]; exact hfr_3) (by rw [hu100]; exact hT) hL9 (by omega) _ ⟨rfl, rfl⟩) ?_
              rintro _ _ ⟨rfl, rfl⟩
              show Wn _ 57 _ (268, [(3, .int (nI 1)), (2, .int (nI 1)), (1, .int (pkI T L z)), (0, .ref 114)], [.int (pkI T L (z + i)), .int ((nI 10) * n9), .ref 114], M97)
              refine Wn.run (tab := tb_m_next) rfl 4 (c' := (275, [(3, .int (nI 1)), (2, .int (nI 1)), (1, .int (pkI T L z)), (0, .ref 114)], [], (mI M97 114 (upd (M97.1 114) 14 ((((nI 10) * n9) + (pkI T L (z + i))) - (nI 48)))))) (o := [shp 114 = (0, 10)]) rfl rfl ?_
              generalize hM116 : (mI M97 114 (upd (M97.1 114) 14 ((((nI 10) * n9) + (pkI T L (z + i))) - (nI 48)))) = M115
              have hk117 := fI_up hM116 hk99
              have hu118 := fI_ne hM116 (by decide) hu100
              have hF119 := fr_sI hF101 hM116 (by decide)
              have hj120 := jc_oI hM116 hj102
              show Wn _ 57 _ (275, [(3, .int (nI 1)), (2, .int (nI 1)), (1, .int (pkI T L z)), (0, .ref 114)], [], M115)
              refine Wn.run (tab := tb_m_next) rfl 6 (c' := (285, [(3, .int (nI 1)), (2, .int (nI 1)), (1, .int (pkI T L z)), (0, .ref 114)], [], (mI M115 114 (upd (M115.1 114) 13 ((M115.1 114 13) + (nI 1)))))) (o := [shp 114 = (0, 10), shp 114 = (0, 10)]) rfl ⟨rfl, rfl⟩ ?_
              rw [show (M115.1 114 13) = (nI i) from (fr_eq hk117 (show (upd gr 14 ((((nI 10) * n9) + (pkI T L (z + i))) - (nI 48))) 13 = (nI i) from ((pk_un (by decide)).trans hfr_13)))]
              rw [show ((nI i) + (nI 1)) = (nI (i + 1)) from (n_add rfl rfl)]
              generalize hM122 : (mI M115 114 (upd (M115.1 114) 13 (nI (i + 1)))) = M121
              have hk123 := fI_up hM122 hk117
              have hu124 := fI_ne hM122 (by decide) hu118
              have hF125 := fr_sI hF119 hM122 (by decide)
              have hj126 := jc_oI hM122 hj120
              show Wn _ 57 _ (285, [(3, .int (nI 1)), (2, .int (nI 1)), (1, .int (pkI T L z)), (0, .ref 114)], [], M121)
              refine Wn.run (tab := tb_m_next) rfl 6 (c' := (295, [(3, .int (nI 1)), (2, .int (nI 1)), (1, .int (pkI T L z)), (0, .ref 114)], [], (mI M121 114 (upd (M121.1 114) 4 ((M121.1 114 4) + (nI 1)))))) (o := [shp 114 = (0, 10), shp 114 = (0, 10)]) rfl ⟨rfl, rfl⟩ ?_
              rw [show (M121.1 114 4) = (nI (z + i)) from (fr_eq hk123 (show (upd (upd gr 14 ((((nI 10) * n9) + (pkI T L (z + i))) - (nI 48))) 13 (nI (i + 1))) 4 = (nI (z + i)) from ((pk_un (by decide)).trans ((pk_un (by decide)).trans hfr_4))))]
              rw [show ((nI (z + i)) + (nI 1)) = (nI ((z + i) + 1)) from (n_add rfl rfl)]
              generalize hM128 : (mI M121 114 (upd (M121.1 114) 4 (nI ((z + i) + 1)))) = M127
              have hk129 := fI_up hM128 hk123
              have hu130 := fI_ne hM128 (by decide) hu124
              have hF131 := fr_sI hF125 hM128 (by decide)
              have hj132 := jc_oI hM128 hj126
              show Wn _ 57 _ (295, [(3, .int (nI 1)), (2, .int (nI 1)), (1, .int (pkI T L z)), (0, .ref 114)], [], M127)
              refine Wn.run (tab := tb_m_next) rfl 1 (c' := (181, [(3, .int (nI 1)), (2, .int (nI 1)), (1, .int (pkI T L z)), (0, .ref 114)], [], M127)) (o := []) rfl trivial ?_
              have q1 : isS (T (z + i)) := by omega
              have q2 : ¬ isD (T (z + i)) := by omega
              have e8 : nLt T z (i + 1) = nLt T z i + 1 := by show nLt T z i + (if isS (T (z + i)) then 1 else 0) = _; rw [if_pos q1]
              have e9 : nDg T z (i + 1) = nDg T z i + 0 := by show nDg T z i + (if isD (T (z + i)) then 1 else 0) = _; rw [if_neg q2]
              have e6 : nVl T z (i + 1) = nVl T z i := by show (if isD (T (z + i)) then _ else _) = _; rw [if_neg q2]
              have e7 : nNm T z (i + 1) = (nNm T z i <<< ((nI 8).toInt64 &&& 63)) ||| (nI (T (z + i))).toInt64 := by show (if isS (T (z + i)) then _ else _) = _; rw [if_pos q1]
              have ea : (nI 1) = (b2 (nDg T z (i + 1) = 0)) := by rw [b2_t (by omega)]; rfl
              have key9 := ih ((L - z) - (i + 1)) (by omega) (i + 1) M127 rfl (by omega) (by rw [hk129]; exact pk_us) (by rw [hk129]; exact ((pk_un (by decide)).trans pk_us)) (by rw [hk129]; exact ((pk_un (by decide)).trans ((pk_un (by decide)).trans ((pk_un (by decide)).trans hfr_3)))) (by rw [hk129]; exact ((pk_un (by decide)).trans ((pk_un (by decide)).trans ((pk_un (by decide)).trans hfr_5)))) (by rw [hk129]; exact (Gx_up (Gx_up (Gx_up hxr (by decide)) (by decide)) (by decide))) (by rw [hk129]; exact ((pk_un (by decide)).trans ((pk_un (by decide)).trans ((pk_un (by decide)).trans hfr_12)))) (fun a1 a2 => absurd a1 (by omega)) (fun a1 a2 => by rw [hj132, e7, hwrd (by omega) (by omega), pkI_y (by omega)]) (fun k9 hk9 => (jo_I hM128 hk9 (jo_I hM122 hk9 (jo_I hM116 hk9 (jo_J hM98 hk9 (loop_8 k9 hk9)))))) hu130 hF131 (fun k9 hk => if e : k9 = i then (by rw [e]; exact ⟨by omega, by omega⟩) else loop_x0 k9 (by omega))
              rw [← ea] at key9
              exact key9
      · show Wn _ 57 _ (191, [(3, .int (b2 (nDg T z i = 0))), (2, .int (nI 1)), (1, .int (pkI T L z)), (0, .ref 114)], [], N)
        have h1 := b2_nneg h1
        refine Wn.run (tab := tb_m_next) rfl 1 (c' := (192, [(3, .int (b2 (nDg T z i = 0))), (2, .int (nI 1)), (1, .int (pkI T L z)), (0, .ref 114)], [.ref 114], N)) (o := []) rfl trivial ?_
        refine Wn.callV (p := 114) (n := 1) (ix := 152) (ci := (10)) (fun r0 M0 => r0 = some (.int (pkI T L (z + i))) ∧ N = M0) [] [] rfl rfl rfl rfl (Nat.le_of_ble_eq_true rfl) (Nat.le_of_ble_eq_true rfl) (w_m_peek _ N T L (z + i) (by rw [hgr]; exact hfr_4) (by rw [hgr]; exact hfr_3) (by rw [loop_9]; exact hT) hL9 (by omega) _ ⟨rfl, rfl⟩) ?_
        rintro _ _ ⟨rfl, rfl⟩
        show Wn _ 57 _ (195, [(3, .int (b2 (nDg T z i = 0))), (2, .int (nI 1)), (1, .int (pkI T L z)), (0, .ref 114)], [.int (pkI T L (z + i))], N)
        refine Wn.callS (n := 1) (ix := 169) (fun r0 M0 => r0 = some (.int (b2 ((z + i) < L ∧ isD (T (z + i))))) ∧ N = M0) [.int (pkI T L (z + i))] [] rfl rfl rfl (Nat.le_of_ble_eq_true rfl) (Nat.le_of_ble_eq_true rfl) (w_m_isDigitP _ T L (z + i) hTb N _ ⟨rfl, rfl⟩) ?_
        rintro _ _ ⟨rfl, rfl⟩
        show Wn _ 57 _ (198, [(3, .int (b2 (nDg T z i = 0))), (2, .int (nI 1)), (1, .int (pkI T L z)), (0, .ref 114)], [.int (b2 ((z + i) < L ∧ isD (T (z + i))))], N)
        refine Wn.run (tab := tb_m_next) rfl 1 (c' := (if (b2 ((z + i) < L ∧ isD (T (z + i)))) = 0 then 298 else 201, [(3, .int (b2 (nDg T z i = 0))), (2, .int (nI 1)), (1, .int (pkI T L z)), (0, .ref 114)], [], N)) (o := []) rfl trivial ?_
        refine Wn.br (fun h9 => ?_) (fun h9 => ?_)
        · show Wn _ 57 _ (298, [(3, .int (b2 (nDg T z i = 0))), (2, .int (nI 1)), (1, .int (pkI T L z)), (0, .ref 114)], [], N)
          have h9 := b2_neg h9
          refine Wn.run (tab := tb_m_next) rfl 3 (c' := (if (b2 (nDg T z i = 0)) = 0 then 320 else 303, [(3, .int (b2 (nDg T z i = 0))), (2, .int (nI 1)), (1, .int (pkI T L z)), (0, .ref 114)], [.ref 114], N)) (o := []) rfl trivial ?_
          refine Wn.br (fun h10 => ?_) (fun h10 => ?_)
          · show Wn _ 57 _ (320, [(3, .int (b2 (nDg T z i = 0))), (2, .int (nI 1)), (1, .int (pkI T L z)), (0, .ref 114)], [.ref 114], N)
            have h10 := b2_neg h10
            refine Wn.run (tab := tb_m_next) rfl 3 (c' := (336, [(3, .int (b2 (nDg T z i = 0))), (2, .int (nI 1)), (1, .int (pkI T L z)), (0, .ref 114)], [], (mI N 114 (upd (N.1 114) 11 (nI 4))))) (o := [shp 114 = (0, 10)]) rfl rfl ?_
            generalize hM134 : (mI N 114 (upd (N.1 114) 11 (nI 4))) = M133
            have hk135 := fI_up hM134 hgr
            have hu136 := fI_ne hM134 (by decide) loop_9
            have hF137 := fr_sI loop_10 hM134 (by decide)
            have hj138 := jc_oI hM134 hw9
            show Wn _ 57 _ (336, [(3, .int (b2 (nDg T z i = 0))), (2, .int (nI 1)), (1, .int (pkI T L z)), (0, .ref 114)], [], M133)
            have er : tRl T L p = i := by unfold tRl; rw [sk9]; exact rl_eq loop_x0 (by unfold isW; omega)
            have tc := tKd_cases (mo := mo) (p := p) hTb
            rw [er, sk9] at tc
            have ld9 := nLD i loop_x0
            have i1 : ¬ i = 0 := by intro h; rw [h, Nat.add_zero] at h1; exact h1 hfst
            have ps := nLt_pos hfst.2 i i1
            have e2 : tKd T L mo p = 1 := by omega
            have e4 : tCd (tKd T L mo p) = 4 := by unfold tCd; rw [e2]; rfl
            have e3 : tAt T L mo p = z := by unfold tAt; rw [sk9]; exact if_pos (by omega)
            refine Wn.vret rfl ⟨rfl, ⟨by rw [hk135]; exact ((pk_un (by decide)).trans hfr_3), by rw [hk135]; exact ((pk_un (by decide)).trans hfr_5), by rw [hk135, e3]; exact ((pk_un (by decide)).trans hfr_12), by rw [hk135, e4]; exact pk_us, fun q1 q2 => ?_, fun q1 => ?_, fun q1 => ?_, fun q1 => ?_, by rw [hu136]; exact hT, hL9, hm9, hpL⟩, by rw [hk135]; exact (Gx_up hxr (by decide)), fun k9 hk9 => ?_, hF137⟩
            · exact (by rw [hk135, show tNx T L p = z + i from by unfold tNx; rw [er, if_neg i1, sk9]]; exact ((pk_un (by decide)).trans hfr_4))
            · exact absurd q1 (by omega)
            · exact absurd q1 (by omega)
            · exact absurd q1 (by omega)
            · exact (by rw [hj]; exact (jo_I hM134 hk9 (loop_8 k9 hk9)))
          · show Wn _ 57 _ (303, [(3, .int (b2 (nDg T z i = 0))), (2, .int (nI 1)), (1, .int (pkI T L z)), (0, .ref 114)], [.ref 114], N)
            have h10 := b2_pos h10
            refine Wn.run (tab := tb_m_next) rfl 4 (c' := (if (nI 1) = 0 then 316 else 311, [(3, .int (b2 (nDg T z i = 0))), (2, .int (nI 1)), (1, .int (pkI T L z)), (0, .ref 114)], [.int (N.1 114 13), .ref 114], N)) (o := [shp 114 = (0, 10)]) rfl rfl ?_
            rw [if_neg (show ¬ ((nI 1) = 0) by decide)]
            show Wn _ 57 _ (311, [(3, .int (b2 (nDg T z i = 0))), (2, .int (nI 1)), (1, .int (pkI T L z)), (0, .ref 114)], [.int (N.1 114 13), .ref 114], N)
            rw [show (N.1 114 13) = (nI i) from (fr_eq hgr (show gr 13 = (nI i) from hfr_13))]
            refine Wn.run (tab := tb_m_next) rfl 3 (c' := (if (nI i) ≤ (nI 7) then 324 else 320, [(3, .int (b2 (nDg T z i = 0))), (2, .int (nI 1)), (1, .int (pkI T L z)), (0, .ref 114)], [.ref 114], N)) (o := []) rfl trivial ?_
            refine Wn.br (fun h11 => ?_) (fun h11 => ?_)
            · show Wn _ 57 _ (324, [(3, .int (b2 (nDg T z i = 0))), (2, .int (nI 1)), (1, .int (pkI T L z)), (0, .ref 114)], [.ref 114], N)
              have h11 := (n_le rfl rfl (by omega) (by omega)).mp h11
              refine Wn.run (tab := tb_m_next) rfl 2 (c' := (if (nI 1) = 0 then 332 else 328, [(3, .int (b2 (nDg T z i = 0))), (2, .int (nI 1)), (1, .int (pkI T L z)), (0, .ref 114)], [.ref 114], N)) (o := []) rfl trivial ?_
              rw [if_neg (show ¬ ((nI 1) = 0) by decide)]
              show Wn _ 57 _ (328, [(3, .int (b2 (nDg T z i = 0))), (2, .int (nI 1)), (1, .int (pkI T L z)), (0, .ref 114)], [.ref 114], N)
              refine Wn.run (tab := tb_m_next) rfl 3 (c' := (336, [(3, .int (b2 (nDg T z i = 0))), (2, .int (nI 1)), (1, .int (pkI T L z)), (0, .ref 114)], [], (mI N 114 (upd (N.1 114) 11 (nI 1))))) (o := [shp 114 = (0, 10)]) rfl rfl ?_
              generalize hM140 : (mI N 114 (upd (N.1 114) 11 (nI 1))) = M139
              have hk141 := fI_up hM140 hgr
              have hu142 := fI_ne hM140 (by decide) loop_9
              have hF143 := fr_sI loop_10 hM140 (by decide)
              have hj144 := jc_oI hM140 hw9
              show Wn _ 57 _ (336, [(3, .int (b2 (nDg T z i = 0))), (2, .int (nI 1)), (1, .int (pkI T L z)), (0, .ref 114)], [], M139)
              have er : tRl T L p = i := by unfold tRl; rw [sk9]; exact rl_eq loop_x0 (by unfold isW; omega)
              have tc := tKd_cases (mo := mo) (p := p) hTb
              rw [er, sk9] at tc
              have ld9 := nLD i loop_x0
              have i1 : ¬ i = 0 := by intro h; rw [h, Nat.add_zero] at h1; exact h1 hfst
              have ps := nLt_pos hfst.2 i i1
              have e2 : (tKd T L mo p = 3 ∨ (10 ≤ tKd T L mo p ∧ tKd T L mo p < 36)) := by omega
              have e4 : tCd (tKd T L mo p) = 1 := by unfold tCd; repeat (first | omega | split)
              have e3 : tAt T L mo p = z := by unfold tAt; rw [sk9]; exact if_pos (by omega)
              refine Wn.vret rfl ⟨rfl, ⟨by rw [hk141]; exact ((pk_un (by decide)).trans hfr_3), by rw [hk141]; exact ((pk_un (by decide)).trans hfr_5), by rw [hk141, e3]; exact ((pk_un (by decide)).trans hfr_12), by rw [hk141, e4]; exact pk_us, fun q1 q2 => ?_, fun q1 => ?_, fun q1 => ?_, fun q1 => ?_, by rw [hu142]; exact hT, hL9, hm9, hpL⟩, by rw [hk141]; exact (Gx_up hxr (by decide)), fun k9 hk9 => ?_, hF143⟩
              · exact (by rw [hk141, show tNx T L p = z + i from by unfold tNx; rw [er, if_neg i1, sk9]]; exact ((pk_un (by decide)).trans hfr_4))
              · exact absurd q1 (by omega)
              · exact absurd q1 (by omega)
              · exact (by rw [show tNm T L p = nNm T z i from by unfold tNm; rw [er, sk9], ← hwrd (by omega) (by omega)]; exact hj144)
              · exact (by rw [hj]; exact (jo_I hM140 hk9 (loop_8 k9 hk9)))
            · show Wn _ 57 _ (320, [(3, .int (b2 (nDg T z i = 0))), (2, .int (nI 1)), (1, .int (pkI T L z)), (0, .ref 114)], [.ref 114], N)
              have h11 := mt (n_le rfl rfl (by omega) (by omega)).mpr h11
              refine Wn.run (tab := tb_m_next) rfl 3 (c' := (336, [(3, .int (b2 (nDg T z i = 0))), (2, .int (nI 1)), (1, .int (pkI T L z)), (0, .ref 114)], [], (mI N 114 (upd (N.1 114) 11 (nI 4))))) (o := [shp 114 = (0, 10)]) rfl rfl ?_
              generalize hM146 : (mI N 114 (upd (N.1 114) 11 (nI 4))) = M145
              have hk147 := fI_up hM146 hgr
              have hu148 := fI_ne hM146 (by decide) loop_9
              have hF149 := fr_sI loop_10 hM146 (by decide)
              have hj150 := jc_oI hM146 hw9
              show Wn _ 57 _ (336, [(3, .int (b2 (nDg T z i = 0))), (2, .int (nI 1)), (1, .int (pkI T L z)), (0, .ref 114)], [], M145)
              have er : tRl T L p = i := by unfold tRl; rw [sk9]; exact rl_eq loop_x0 (by unfold isW; omega)
              have tc := tKd_cases (mo := mo) (p := p) hTb
              rw [er, sk9] at tc
              have ld9 := nLD i loop_x0
              have i1 : ¬ i = 0 := by intro h; rw [h, Nat.add_zero] at h1; exact h1 hfst
              have ps := nLt_pos hfst.2 i i1
              have e2 : tKd T L mo p = 1 := by omega
              have e4 : tCd (tKd T L mo p) = 4 := by unfold tCd; rw [e2]; rfl
              have e3 : tAt T L mo p = z := by unfold tAt; rw [sk9]; exact if_pos (by omega)
              refine Wn.vret rfl ⟨rfl, ⟨by rw [hk147]; exact ((pk_un (by decide)).trans hfr_3), by rw [hk147]; exact ((pk_un (by decide)).trans hfr_5), by rw [hk147, e3]; exact ((pk_un (by decide)).trans hfr_12), by rw [hk147, e4]; exact pk_us, fun q1 q2 => ?_, fun q1 => ?_, fun q1 => ?_, fun q1 => ?_, by rw [hu148]; exact hT, hL9, hm9, hpL⟩, by rw [hk147]; exact (Gx_up hxr (by decide)), fun k9 hk9 => ?_, hF149⟩
              · exact (by rw [hk147, show tNx T L p = z + i from by unfold tNx; rw [er, if_neg i1, sk9]]; exact ((pk_un (by decide)).trans hfr_4))
              · exact absurd q1 (by omega)
              · exact absurd q1 (by omega)
              · exact absurd q1 (by omega)
              · exact (by rw [hj]; exact (jo_I hM146 hk9 (loop_8 k9 hk9)))
        · show Wn _ 57 _ (201, [(3, .int (b2 (nDg T z i = 0))), (2, .int (nI 1)), (1, .int (pkI T L z)), (0, .ref 114)], [], N)
          have h9 := b2_pos h9
          refine Wn.run (tab := tb_m_next) rfl 2 (c' := (if (b2 (nDg T z i = 0)) = 0 then 220 else 205, [(3, .int (b2 (nDg T z i = 0))), (2, .int (nI 1)), (1, .int (pkI T L z)), (0, .ref 114)], [], N)) (o := []) rfl trivial ?_
          refine Wn.br (fun h12 => ?_) (fun h12 => ?_)
          · show Wn _ 57 _ (220, [(3, .int (b2 (nDg T z i = 0))), (2, .int (nI 1)), (1, .int (pkI T L z)), (0, .ref 114)], [], N)
            have h12 := b2_neg h12
            refine Wn.run (tab := tb_m_next) rfl 6 (c' := (if (nI 7) ≤ (N.1 114 13) then 248 else 231, [(3, .int (nI 0)), (2, .int (nI 1)), (1, .int (pkI T L z)), (0, .ref 114)], [], N)) (o := [shp 114 = (0, 10)]) rfl rfl ?_
            refine Wn.br (fun h13 => ?_) (fun h13 => ?_)
            · show Wn _ 57 _ (248, [(3, .int (nI 0)), (2, .int (nI 1)), (1, .int (pkI T L z)), (0, .ref 114)], [], N)
              have h13 := (n_le rfl (fr_eq hgr (show gr 13 = (nI i) from hfr_13)) (by omega) (by omega)).mp h13
              refine Wn.run (tab := tb_m_next) rfl 4 (c' := (if (nI 3) ≤ (N.1 114 13) then 275 else 256, [(3, .int (nI 0)), (2, .int (nI 1)), (1, .int (pkI T L z)), (0, .ref 114)], [], N)) (o := [shp 114 = (0, 10)]) rfl rfl ?_
              refine Wn.br (fun h14 => ?_) (fun h14 => ?_)
              · show Wn _ 57 _ (275, [(3, .int (nI 0)), (2, .int (nI 1)), (1, .int (pkI T L z)), (0, .ref 114)], [], N)
                have h14 := (n_le rfl (fr_eq hgr (show gr 13 = (nI i) from hfr_13)) (by omega) (by omega)).mp h14
                refine Wn.run (tab := tb_m_next) rfl 6 (c' := (285, [(3, .int (nI 0)), (2, .int (nI 1)), (1, .int (pkI T L z)), (0, .ref 114)], [], (mI N 114 (upd (N.1 114) 13 ((N.1 114 13) + (nI 1)))))) (o := [shp 114 = (0, 10), shp 114 = (0, 10)]) rfl ⟨rfl, rfl⟩ ?_
                rw [show (N.1 114 13) = (nI i) from (fr_eq hgr (show gr 13 = (nI i) from hfr_13))]
                rw [show ((nI i) + (nI 1)) = (nI (i + 1)) from (n_add rfl rfl)]
                generalize hM152 : (mI N 114 (upd (N.1 114) 13 (nI (i + 1)))) = M151
                have hk153 := fI_up hM152 hgr
                have hu154 := fI_ne hM152 (by decide) loop_9
                have hF155 := fr_sI loop_10 hM152 (by decide)
                have hj156 := jc_oI hM152 hw9
                show Wn _ 57 _ (285, [(3, .int (nI 0)), (2, .int (nI 1)), (1, .int (pkI T L z)), (0, .ref 114)], [], M151)
                refine Wn.run (tab := tb_m_next) rfl 6 (c' := (295, [(3, .int (nI 0)), (2, .int (nI 1)), (1, .int (pkI T L z)), (0, .ref 114)], [], (mI M151 114 (upd (M151.1 114) 4 ((M151.1 114 4) + (nI 1)))))) (o := [shp 114 = (0, 10), shp 114 = (0, 10)]) rfl ⟨rfl, rfl⟩ ?_
                rw [show (M151.1 114 4) = (nI (z + i)) from (fr_eq hk153 (show (upd gr 13 (nI (i + 1))) 4 = (nI (z + i)) from ((pk_un (by decide)).trans hfr_4)))]
                rw [show ((nI (z + i)) + (nI 1)) = (nI ((z + i) + 1)) from (n_add rfl rfl)]
                generalize hM158 : (mI M151 114 (upd (M151.1 114) 4 (nI ((z + i) + 1)))) = M157
                have hk159 := fI_up hM158 hk153
                have hu160 := fI_ne hM158 (by decide) hu154
                have hF161 := fr_sI hF155 hM158 (by decide)
                have hj162 := jc_oI hM158 hj156
                show Wn _ 57 _ (295, [(3, .int (nI 0)), (2, .int (nI 1)), (1, .int (pkI T L z)), (0, .ref 114)], [], M157)
                refine Wn.run (tab := tb_m_next) rfl 1 (c' := (181, [(3, .int (nI 0)), (2, .int (nI 1)), (1, .int (pkI T L z)), (0, .ref 114)], [], M157)) (o := []) rfl trivial ?_
                have q1 : isD (T (z + i)) := by omega
                have q2 : ¬ isS (T (z + i)) := by omega
                have e8 : nLt T z (i + 1) = nLt T z i + 0 := by show nLt T z i + (if isS (T (z + i)) then 1 else 0) = _; rw [if_neg q2]
                have e9 : nDg T z (i + 1) = nDg T z i + 1 := by show nDg T z i + (if isD (T (z + i)) then 1 else 0) = _; rw [if_pos q1]
                have e6 : nVl T z (i + 1) = 10 * nVl T z i + T (z + i) - 48 := by show (if isD (T (z + i)) then _ else _) = _; rw [if_pos q1]
                have e7 : nNm T z (i + 1) = nNm T z i := by show (if isS (T (z + i)) then _ else _) = _; rw [if_neg q2]
                have ea : (nI 0) = (b2 (nDg T z (i + 1) = 0)) := by rw [b2_f (by omega)]; rfl
                have key9 := ih ((L - z) - (i + 1)) (by omega) (i + 1) M157 rfl (by omega) (by rw [hk159]; exact pk_us) (by rw [hk159]; exact ((pk_un (by decide)).trans pk_us)) (by rw [hk159]; exact ((pk_un (by decide)).trans ((pk_un (by decide)).trans hfr_3))) (by rw [hk159]; exact ((pk_un (by decide)).trans ((pk_un (by decide)).trans hfr_5))) (by rw [hk159]; exact (Gx_up (Gx_up hxr (by decide)) (by decide))) (by rw [hk159]; exact ((pk_un (by decide)).trans ((pk_un (by decide)).trans hfr_12))) (fun a1 a2 => absurd a2 (by omega)) (fun a1 a2 => absurd a1 (by omega)) (fun k9 hk9 => (jo_I hM158 hk9 (jo_I hM152 hk9 (loop_8 k9 hk9)))) hu160 hF161 (fun k9 hk => if e : k9 = i then (by rw [e]; exact ⟨by omega, by omega⟩) else loop_x0 k9 (by omega))
                rw [← ea] at key9
                exact key9
              · show Wn _ 57 _ (256, [(3, .int (nI 0)), (2, .int (nI 1)), (1, .int (pkI T L z)), (0, .ref 114)], [], N)
                have h14 := mt (n_le rfl (fr_eq hgr (show gr 13 = (nI i) from hfr_13)) (by omega) (by omega)).mpr h14
                refine Wn.run (tab := tb_m_next) rfl 6 (c' := (265, [(3, .int (nI 0)), (2, .int (nI 1)), (1, .int (pkI T L z)), (0, .ref 114)], [.ref 114, .int ((nI 10) * (N.1 114 14)), .ref 114], N)) (o := [shp 114 = (0, 10)]) rfl rfl ?_
                rw [show (N.1 114 14) = n9 from (fr_eq hgr (show gr 14 = n9 from hn9))]
                refine Wn.callV (p := 114) (n := 1) (ix := 152) (ci := (10)) (fun r0 M0 => r0 = some (.int (pkI T L (z + i))) ∧ N = M0) [] [.int ((nI 10) * n9), .ref 114] rfl rfl rfl rfl (Nat.le_of_ble_eq_true rfl) (Nat.le_of_ble_eq_true rfl) (w_m_peek _ N T L (z + i) (by rw [hgr]; exact hfr_4) (by rw [hgr]; exact hfr_3) (by rw [loop_9]; exact hT) hL9 (by omega) _ ⟨rfl, rfl⟩) ?_
                rintro _ _ ⟨rfl, rfl⟩
                show Wn _ 57 _ (268, [(3, .int (nI 0)), (2, .int (nI 1)), (1, .int (pkI T L z)), (0, .ref 114)], [.int (pkI T L (z + i)), .int ((nI 10) * n9), .ref 114], N)
                refine Wn.run (tab := tb_m_next) rfl 4 (c' := (275, [(3, .int (nI 0)), (2, .int (nI 1)), (1, .int (pkI T L z)), (0, .ref 114)], [], (mI N 114 (upd (N.1 114) 14 ((((nI 10) * n9) + (pkI T L (z + i))) - (nI 48)))))) (o := [shp 114 = (0, 10)]) rfl rfl ?_
                generalize hM164 : (mI N 114 (upd (N.1 114) 14 ((((nI 10) * n9) + (pkI T L (z + i))) - (nI 48)))) = M163
                have hk165 := fI_up hM164 hgr
                have hu166 := fI_ne hM164 (by decide) loop_9
                have hF167 := fr_sI loop_10 hM164 (by decide)
                have hj168 := jc_oI hM164 hw9
                show Wn _ 57 _ (275, [(3, .int (nI 0)), (2, .int (nI 1)), (1, .int (pkI T L z)), (0, .ref 114)], [], M163)
                refine Wn.run (tab := tb_m_next) rfl 6 (c' := (285, [(3, .int (nI 0)), (2, .int (nI 1)), (1, .int (pkI T L z)), (0, .ref 114)], [], (mI M163 114 (upd (M163.1 114) 13 ((M163.1 114 13) + (nI 1)))))) (o := [shp 114 = (0, 10), shp 114 = (0, 10)]) rfl ⟨rfl, rfl⟩ ?_
                rw [show (M163.1 114 13) = (nI i) from (fr_eq hk165 (show (upd gr 14 ((((nI 10) * n9) + (pkI T L (z + i))) - (nI 48))) 13 = (nI i) from ((pk_un (by decide)).trans hfr_13)))]
                rw [show ((nI i) + (nI 1)) = (nI (i + 1)) from (n_add rfl rfl)]
                generalize hM170 : (mI M163 114 (upd (M163.1 114) 13 (nI (i + 1)))) = M169
                have hk171 := fI_up hM170 hk165
                have hu172 := fI_ne hM170 (by decide) hu166
                have hF173 := fr_sI hF167 hM170 (by decide)
                have hj174 := jc_oI hM170 hj168
                show Wn _ 57 _ (285, [(3, .int (nI 0)), (2, .int (nI 1)), (1, .int (pkI T L z)), (0, .ref 114)], [], M169)
                refine Wn.run (tab := tb_m_next) rfl 6 (c' := (295, [(3, .int (nI 0)), (2, .int (nI 1)), (1, .int (pkI T L z)), (0, .ref 114)], [], (mI M169 114 (upd (M169.1 114) 4 ((M169.1 114 4) + (nI 1)))))) (o := [shp 114 = (0, 10), shp 114 = (0, 10)]) rfl ⟨rfl, rfl⟩ ?_
                rw [show (M169.1 114 4) = (nI (z + i)) from (fr_eq hk171 (show (upd (upd gr 14 ((((nI 10) * n9) + (pkI T L (z + i))) - (nI 48))) 13 (nI (i + 1))) 4 = (nI (z + i)) from ((pk_un (by decide)).trans ((pk_un (by decide)).trans hfr_4))))]
                rw [show ((nI (z + i)) + (nI 1)) = (nI ((z + i) + 1)) from (n_add rfl rfl)]
                generalize hM176 : (mI M169 114 (upd (M169.1 114) 4 (nI ((z + i) + 1)))) = M175
                have hk177 := fI_up hM176 hk171
                have hu178 := fI_ne hM176 (by decide) hu172
                have hF179 := fr_sI hF173 hM176 (by decide)
                have hj180 := jc_oI hM176 hj174
                show Wn _ 57 _ (295, [(3, .int (nI 0)), (2, .int (nI 1)), (1, .int (pkI T L z)), (0, .ref 114)], [], M175)
                refine Wn.run (tab := tb_m_next) rfl 1 (c' := (181, [(3, .int (nI 0)), (2, .int (nI 1)), (1, .int (pkI T L z)), (0, .ref 114)], [], M175)) (o := []) rfl trivial ?_
                have q1 : isD (T (z + i)) := by omega
                have q2 : ¬ isS (T (z + i)) := by omega
                have e8 : nLt T z (i + 1) = nLt T z i + 0 := by show nLt T z i + (if isS (T (z + i)) then 1 else 0) = _; rw [if_neg q2]
                have e9 : nDg T z (i + 1) = nDg T z i + 1 := by show nDg T z i + (if isD (T (z + i)) then 1 else 0) = _; rw [if_pos q1]
                have e6 : nVl T z (i + 1) = 10 * nVl T z i + T (z + i) - 48 := by show (if isD (T (z + i)) then _ else _) = _; rw [if_pos q1]
                have e7 : nNm T z (i + 1) = nNm T z i := by show (if isS (T (z + i)) then _ else _) = _; rw [if_neg q2]
                have ea : (nI 0) = (b2 (nDg T z (i + 1) = 0)) := by rw [b2_f (by omega)]; rfl
                have key9 := ih ((L - z) - (i + 1)) (by omega) (i + 1) M175 rfl (by omega) (by rw [hk177]; exact pk_us) (by rw [hk177]; exact ((pk_un (by decide)).trans pk_us)) (by rw [hk177]; exact ((pk_un (by decide)).trans ((pk_un (by decide)).trans ((pk_un (by decide)).trans hfr_3)))) (by rw [hk177]; exact ((pk_un (by decide)).trans ((pk_un (by decide)).trans ((pk_un (by decide)).trans hfr_5)))) (by rw [hk177]; exact (Gx_up (Gx_up (Gx_up hxr (by decide)) (by decide)) (by decide))) (by rw [hk177]; exact ((pk_un (by decide)).trans ((pk_un (by decide)).trans ((pk_un (by decide)).trans hfr_12)))) (fun a1 a2 => by rw [hk177, show (upd (upd (upd gr 14 ((((nI 10) * n9) + (pkI T L (z + i))) - (nI 48))) 13 (nI (i + 1))) 4 (nI ((z + i) + 1))) 14 = ((((nI 10) * n9) + (pkI T L (z + i))) - (nI 48)) from ((pk_un (by decide)).trans ((pk_un (by decide)).trans pk_us)), e6, hnum (by omega) (by omega), pk_mul, pkI_y (by omega), nI_add, pk_sub (by omega)]) (fun a1 a2 => absurd a1 (by omega)) (fun k9 hk9 => (jo_I hM176 hk9 (jo_I hM170 hk9 (jo_I hM164 hk9 (loop_8 k9 hk9))))) hu178 hF179 (fun k9 hk => if e : k9 = i then (by rw [e]; exact ⟨by omega, by omega⟩) else loop_x0 k9 (by omega))
                rw [← ea] at key9
                exact key9
            · show Wn _ 57 _ (231, [(3, .int (nI 0)), (2, .int (nI 1)), (1, .int (pkI T L z)), (0, .ref 114)], [], N)
              have h13 := mt (n_le rfl (fr_eq hgr (show gr 13 = (nI i) from hfr_13)) (by omega) (by omega)).mpr h13
              refine Wn.run (tab := tb_m_next) rfl 6 (c' := (240, [(3, .int (nI 0)), (2, .int (nI 1)), (1, .int (pkI T L z)), (0, .ref 114)], [.ref 114, .long ((N.2.1 114 17) <<< (((nI 8)).toInt64 &&& 63)), .ref 114], N)) (o := [shp 114 = (0, 10)]) rfl rfl ?_
              rw [show (N.2.1 114 17) = w9 from hw9]
              refine Wn.callV (p := 114) (n := 1) (ix := 152) (ci := (10)) (fun r0 M0 => r0 = some (.int (pkI T L (z + i))) ∧ N = M0) [] [.long (w9 <<< (((nI 8)).toInt64 &&& 63)), .ref 114] rfl rfl rfl rfl (Nat.le_of_ble_eq_true rfl) (Nat.le_of_ble_eq_true rfl) (w_m_peek _ N T L (z + i) (by rw [hgr]; exact hfr_4) (by rw [hgr]; exact hfr_3) (by rw [loop_9]; exact hT) hL9 (by omega) _ ⟨rfl, rfl⟩) ?_
              rintro _ _ ⟨rfl, rfl⟩
              show Wn _ 57 _ (243, [(3, .int (nI 0)), (2, .int (nI 1)), (1, .int (pkI T L z)), (0, .ref 114)], [.int (pkI T L (z + i)), .long (w9 <<< (((nI 8)).toInt64 &&& 63)), .ref 114], N)
              refine Wn.run (tab := tb_m_next) rfl 3 (c' := (248, [(3, .int (nI 0)), (2, .int (nI 1)), (1, .int (pkI T L z)), (0, .ref 114)], [], (mJ N 114 (vp_updL (N.2.1 114) 17 ((w9 <<< (((nI 8)).toInt64 &&& 63)) ||| ((pkI T L (z + i))).toInt64))))) (o := [shp 114 = (0, 10)]) rfl rfl ?_
              generalize hM182 : (mJ N 114 (vp_updL (N.2.1 114) 17 ((w9 <<< (((nI 8)).toInt64 &&& 63)) ||| ((pkI T L (z + i))).toInt64))) = M181
              have hk183 := fI_oJ hM182 hgr
              have hu184 := fI_oJ hM182 loop_9
              have hF185 := fr_sJ loop_10 hM182 (by decide)
              have hj186 := jc_eq hM182
              show Wn _ 57 _ (248, [(3, .int (nI 0)), (2, .int (nI 1)), (1, .int (pkI T L z)), (0, .ref 114)], [], M181)
              refine Wn.run (tab := tb_m_next) rfl 4 (c' := (if (nI 3) ≤ (M181.1 114 13) then 275 else 256, [(3, .int (nI 0)), (2, .int (nI 1)), (1, .int (pkI T L z)), (0, .ref 114)], [], M181)) (o := [shp 114 = (0, 10)]) rfl rfl ?_
              refine Wn.br (fun h15 => ?_) (fun h15 => ?_)
              · show Wn _ 57 _ (275, [(3, .int (nI 0)), (2, .int (nI 1)), (1, .int (pkI T L z)), (0, .ref 114)], [], M181)
                have h15 := (n_le rfl (fr_eq hk183 (show gr 13 = (nI i) from hfr_13)) (by omega) (by omega)).mp h15
                refine Wn.run (tab := tb_m_next) rfl 6 (c' := (285, [(3, .int (nI 0)), (2, .int (nI 1)), (1, .int (pkI T L z)), (0, .ref 114)], [], (mI M181 114 (upd (M181.1 114) 13 ((M181.1 114 13) + (nI 1)))))) (o := [shp 114 = (0, 10), shp 114 = (0, 10)]) rfl ⟨rfl, rfl⟩ ?_
                rw [show (M181.1 114 13) = (nI i) from (fr_eq hk183 (show gr 13 = (nI i) from hfr_13))]
                rw [show ((nI i) + (nI 1)) = (nI (i + 1)) from (n_add rfl rfl)]
                generalize hM188 : (mI M181 114 (upd (M181.1 114) 13 (nI (i + 1)))) = M187
                have hk189 := fI_up hM188 hk183
                have hu190 := fI_ne hM188 (by decide) hu184
                have hF191 := fr_sI hF185 hM188 (by decide)
                have hj192 := jc_oI hM188 hj186
                show Wn _ 57 _ (285, [(3, .int (nI 0)), (2, .int (nI 1)), (1, .int (pkI T L z)), (0, .ref 114)], [], M187)
                refine Wn.run (tab := tb_m_next) rfl 6 (c' := (295, [(3, .int (nI 0)), (2, .int (nI 1)), (1, .int (pkI T L z)), (0, .ref 114)], [], (mI M187 114 (upd (M187.1 114) 4 ((M187.1 114 4) + (nI 1)))))) (o := [shp 114 = (0, 10), shp 114 = (0, 10)]) rfl ⟨rfl, rfl⟩ ?_
                rw [show (M187.1 114 4) = (nI (z + i)) from (fr_eq hk189 (show (upd gr 13 (nI (i + 1))) 4 = (nI (z + i)) from ((pk_un (by decide)).trans hfr_4)))]
                rw [show ((nI (z + i)) + (nI 1)) = (nI ((z + i) + 1)) from (n_add rfl rfl)]
                generalize hM194 : (mI M187 114 (upd (M187.1 114) 4 (nI ((z + i) + 1)))) = M193
                have hk195 := fI_up hM194 hk189
                have hu196 := fI_ne hM194 (by decide) hu190
                have hF197 := fr_sI hF191 hM194 (by decide)
                have hj198 := jc_oI hM194 hj192
                show Wn _ 57 _ (295, [(3, .int (nI 0)), (2, .int (nI 1)), (1, .int (pkI T L z)), (0, .ref 114)], [], M193)
                refine Wn.run (tab := tb_m_next) rfl 1 (c' := (181, [(3, .int (nI 0)), (2, .int (nI 1)), (1, .int (pkI T L z)), (0, .ref 114)], [], M193)) (o := []) rfl trivial ?_
                have q1 : isD (T (z + i)) := by omega
                have q2 : ¬ isS (T (z + i)) := by omega
                have e8 : nLt T z (i + 1) = nLt T z i + 0 := by show nLt T z i + (if isS (T (z + i)) then 1 else 0) = _; rw [if_neg q2]
                have e9 : nDg T z (i + 1) = nDg T z i + 1 := by show nDg T z i + (if isD (T (z + i)) then 1 else 0) = _; rw [if_pos q1]
                have e6 : nVl T z (i + 1) = 10 * nVl T z i + T (z + i) - 48 := by show (if isD (T (z + i)) then _ else _) = _; rw [if_pos q1]
                have e7 : nNm T z (i + 1) = nNm T z i := by show (if isS (T (z + i)) then _ else _) = _; rw [if_neg q2]
                have ea : (nI 0) = (b2 (nDg T z (i + 1) = 0)) := by rw [b2_f (by omega)]; rfl
                have key9 := ih ((L - z) - (i + 1)) (by omega) (i + 1) M193 rfl (by omega) (by rw [hk195]; exact pk_us) (by rw [hk195]; exact ((pk_un (by decide)).trans pk_us)) (by rw [hk195]; exact ((pk_un (by decide)).trans ((pk_un (by decide)).trans hfr_3))) (by rw [hk195]; exact ((pk_un (by decide)).trans ((pk_un (by decide)).trans hfr_5))) (by rw [hk195]; exact (Gx_up (Gx_up hxr (by decide)) (by decide))) (by rw [hk195]; exact ((pk_un (by decide)).trans ((pk_un (by decide)).trans hfr_12))) (fun a1 a2 => absurd a2 (by omega)) (fun a1 a2 => absurd a1 (by omega)) (fun k9 hk9 => (jo_I hM194 hk9 (jo_I hM188 hk9 (jo_J hM182 hk9 (loop_8 k9 hk9))))) hu196 hF197 (fun k9 hk => if e : k9 = i then (by rw [e]; exact ⟨by omega, by omega⟩) else loop_x0 k9 (by omega))
                rw [← ea] at key9
                exact key9
              · show Wn _ 57 _ (256, [(3, .int (nI 0)), (2, .int (nI 1)), (1, .int (pkI T L z)), (0, .ref 114)], [], M181)
                have h15 := mt (n_le rfl (fr_eq hk183 (show gr 13 = (nI i) from hfr_13)) (by omega) (by omega)).mpr h15
                refine Wn.run (tab := tb_m_next) rfl 6 (c' := (265, [(3, .int (nI 0)), (2, .int (nI 1)), (1, .int (pkI T L z)), (0, .ref 114)], [.ref 114, .int ((nI 10) * (M181.1 114 14)), .ref 114], M181)) (o := [shp 114 = (0, 10)]) rfl rfl ?_
                rw [show (M181.1 114 14) = n9 from (fr_eq hk183 (show gr 14 = n9 from hn9))]
                refine Wn.callV (p := 114) (n := 1) (ix := 152) (ci := (10)) (fun r0 M0 => r0 = some (.int (pkI T L (z + i))) ∧ M181 = M0) [] [.int ((nI 10) * n9), .ref 114] rfl rfl rfl rfl (Nat.le_of_ble_eq_true rfl) (Nat.le_of_ble_eq_true rfl) (w_m_peek _ M181 T L (z + i) (by rw [hk183]; exact hfr_4) (by rw [hk183]; exact hfr_3) (by rw [hu184]; exact hT) hL9 (by omega) _ ⟨rfl, rfl⟩) ?_
                rintro _ _ ⟨rfl, rfl⟩
                show Wn _ 57 _ (268, [(3, .int (nI 0)), (2, .int (nI 1)), (1, .int (pkI T L z)), (0, .ref 114)], [.int (pkI T L (z + i)), .int ((nI 10) * n9), .ref 114], M181)
                refine Wn.run (tab := tb_m_next) rfl 4 (c' := (275, [(3, .int (nI 0)), (2, .int (nI 1)), (1, .int (pkI T L z)), (0, .ref 114)], [], (mI M181 114 (upd (M181.1 114) 14 ((((nI 10) * n9) + (pkI T L (z + i))) - (nI 48)))))) (o := [shp 114 = (0, 10)]) rfl rfl ?_
                generalize hM200 : (mI M181 114 (upd (M181.1 114) 14 ((((nI 10) * n9) + (pkI T L (z + i))) - (nI 48)))) = M199
                have hk201 := fI_up hM200 hk183
                have hu202 := fI_ne hM200 (by decide) hu184
                have hF203 := fr_sI hF185 hM200 (by decide)
                have hj204 := jc_oI hM200 hj186
                show Wn _ 57 _ (275, [(3, .int (nI 0)), (2, .int (nI 1)), (1, .int (pkI T L z)), (0, .ref 114)], [], M199)
                refine Wn.run (tab := tb_m_next) rfl 6 (c' := (285, [(3, .int (nI 0)), (2, .int (nI 1)), (1, .int (pkI T L z)), (0, .ref 114)], [], (mI M199 114 (upd (M199.1 114) 13 ((M199.1 114 13) + (nI 1)))))) (o := [shp 114 = (0, 10), shp 114 = (0, 10)]) rfl ⟨rfl, rfl⟩ ?_
                rw [show (M199.1 114 13) = (nI i) from (fr_eq hk201 (show (upd gr 14 ((((nI 10) * n9) + (pkI T L (z + i))) - (nI 48))) 13 = (nI i) from ((pk_un (by decide)).trans hfr_13)))]
                rw [show ((nI i) + (nI 1)) = (nI (i + 1)) from (n_add rfl rfl)]
                generalize hM206 : (mI M199 114 (upd (M199.1 114) 13 (nI (i + 1)))) = M205
                have hk207 := fI_up hM206 hk201
                have hu208 := fI_ne hM206 (by decide) hu202
                have hF209 := fr_sI hF203 hM206 (by decide)
                have hj210 := jc_oI hM206 hj204
                show Wn _ 57 _ (285, [(3, .int (nI 0)), (2, .int (nI 1)), (1, .int (pkI T L z)), (0, .ref 114)], [], M205)
                refine Wn.run (tab := tb_m_next) rfl 6 (c' := (295, [(3, .int (nI 0)), (2, .int (nI 1)), (1, .int (pkI T L z)), (0, .ref 114)], [], (mI M205 114 (upd (M205.1 114) 4 ((M205.1 114 4) + (nI 1)))))) (o := [shp 114 = (0, 10), shp 114 = (0, 10)]) rfl ⟨rfl, rfl⟩ ?_
                rw [show (M205.1 114 4) = (nI (z + i)) from (fr_eq hk207 (show (upd (upd gr 14 ((((nI 10) * n9) + (pkI T L (z + i))) - (nI 48))) 13 (nI (i + 1))) 4 = (nI (z + i)) from ((pk_un (by decide)).trans ((pk_un (by decide)).trans hfr_4))))]
                rw [show ((nI (z + i)) + (nI 1)) = (nI ((z + i) + 1)) from (n_add rfl rfl)]
                generalize hM212 : (mI M205 114 (upd (M205.1 114) 4 (nI ((z + i) + 1)))) = M211
                have hk213 := fI_up hM212 hk207
                have hu214 := fI_ne hM212 (by decide) hu208
                have hF215 := fr_sI hF209 hM212 (by decide)
                have hj216 := jc_oI hM212 hj210
                show Wn _ 57 _ (295, [(3, .int (nI 0)), (2, .int (nI 1)), (1, .int (pkI T L z)), (0, .ref 114)], [], M211)
                refine Wn.run (tab := tb_m_next) rfl 1 (c' := (181, [(3, .int (nI 0)), (2, .int (nI 1)), (1, .int (pkI T L z)), (0, .ref 114)], [], M211)) (o := []) rfl trivial ?_
                have q1 : isD (T (z + i)) := by omega
                have q2 : ¬ isS (T (z + i)) := by omega
                have e8 : nLt T z (i + 1) = nLt T z i + 0 := by show nLt T z i + (if isS (T (z + i)) then 1 else 0) = _; rw [if_neg q2]
                have e9 : nDg T z (i + 1) = nDg T z i + 1 := by show nDg T z i + (if isD (T (z + i)) then 1 else 0) = _; rw [if_pos q1]
                have e6 : nVl T z (i + 1) = 10 * nVl T z i + T (z + i) - 48 := by show (if isD (T (z + i)) then _ else _) = _; rw [if_pos q1]
                have e7 : nNm T z (i + 1) = nNm T z i := by show (if isS (T (z + i)) then _ else _) = _; rw [if_neg q2]
                have ea : (nI 0) = (b2 (nDg T z (i + 1) = 0)) := by rw [b2_f (by omega)]; rfl
                have key9 := ih ((L - z) - (i + 1)) (by omega) (i + 1) M211 rfl (by omega) (by rw [hk213]; exact pk_us) (by rw [hk213]; exact ((pk_un (by decide)).trans pk_us)) (by rw [hk213]; exact ((pk_un (by decide)).trans ((pk_un (by decide)).trans ((pk_un (by decide)).trans hfr_3)))) (by rw [hk213]; exact ((pk_un (by decide)).trans ((pk_un (by decide)).trans ((pk_un (by decide)).trans hfr_5)))) (by rw [hk213]; exact (Gx_up (Gx_up (Gx_up hxr (by decide)) (by decide)) (by decide))) (by rw [hk213]; exact ((pk_un (by decide)).trans ((pk_un (by decide)).trans ((pk_un (by decide)).trans hfr_12)))) (fun a1 a2 => by rw [hk213, show (upd (upd (upd gr 14 ((((nI 10) * n9) + (pkI T L (z + i))) - (nI 48))) 13 (nI (i + 1))) 4 (nI ((z + i) + 1))) 14 = ((((nI 10) * n9) + (pkI T L (z + i))) - (nI 48)) from ((pk_un (by decide)).trans ((pk_un (by decide)).trans pk_us)), e6, hnum (by omega) (by omega), pk_mul, pkI_y (by omega), nI_add, pk_sub (by omega)]) (fun a1 a2 => absurd a1 (by omega)) (fun k9 hk9 => (jo_I hM212 hk9 (jo_I hM206 hk9 (jo_I hM200 hk9 (jo_J hM182 hk9 (loop_8 k9 hk9)))))) hu214 hF215 (fun k9 hk => if e : k9 = i then (by rw [e]; exact ⟨by omega, by omega⟩) else loop_x0 k9 (by omega))
                rw [← ea] at key9
                exact key9
          · show Wn _ 57 _ (205, [(3, .int (b2 (nDg T z i = 0))), (2, .int (nI 1)), (1, .int (pkI T L z)), (0, .ref 114)], [], N)
            have h12 := b2_pos h12
            refine Wn.run (tab := tb_m_next) rfl 1 (c' := (206, [(3, .int (b2 (nDg T z i = 0))), (2, .int (nI 1)), (1, .int (pkI T L z)), (0, .ref 114)], [.ref 114], N)) (o := []) rfl trivial ?_
            refine Wn.callV (p := 114) (n := 1) (ix := 152) (ci := (10)) (fun r0 M0 => r0 = some (.int (pkI T L (z + i))) ∧ N = M0) [] [] rfl rfl rfl rfl (Nat.le_of_ble_eq_true rfl) (Nat.le_of_ble_eq_true rfl) (w_m_peek _ N T L (z + i) (by rw [hgr]; exact hfr_4) (by rw [hgr]; exact hfr_3) (by rw [loop_9]; exact hT) hL9 (by omega) _ ⟨rfl, rfl⟩) ?_
            rintro _ _ ⟨rfl, rfl⟩
            show Wn _ 57 _ (209, [(3, .int (b2 (nDg T z i = 0))), (2, .int (nI 1)), (1, .int (pkI T L z)), (0, .ref 114)], [.int (pkI T L (z + i))], N)
            refine Wn.callS (n := 1) (ix := 165) (fun r0 M0 => r0 = some (.int (b2 ((z + i) < L ∧ isS (T (z + i))))) ∧ N = M0) [.int (pkI T L (z + i))] [] rfl rfl rfl (Nat.le_of_ble_eq_true rfl) (Nat.le_of_ble_eq_true rfl) (w_m_isSmallP _ T L (z + i) hTb N _ ⟨rfl, rfl⟩) ?_
            rintro _ _ ⟨rfl, rfl⟩
            show Wn _ 57 _ (212, [(3, .int (b2 (nDg T z i = 0))), (2, .int (nI 1)), (1, .int (pkI T L z)), (0, .ref 114)], [.int (b2 ((z + i) < L ∧ isS (T (z + i))))], N)
            rw [show (b2 ((z + i) < L ∧ isS (T (z + i)))) = (nI 0) from (b2_f (by omega))]
            refine Wn.run (tab := tb_m_next) rfl 2 (c' := (if ¬ (nI 0) = (nI 1) then 220 else 216, [(3, .int (b2 (nDg T z i = 0))), (2, .int (nI 1)), (1, .int (pkI T L z)), (0, .ref 114)], [], N)) (o := []) rfl trivial ?_
            rw [if_pos (show ¬ (nI 0) = (nI 1) by decide)]
            show Wn _ 57 _ (220, [(3, .int (b2 (nDg T z i = 0))), (2, .int (nI 1)), (1, .int (pkI T L z)), (0, .ref 114)], [], N)
            refine Wn.run (tab := tb_m_next) rfl 6 (c' := (if (nI 7) ≤ (N.1 114 13) then 248 else 231, [(3, .int (nI 0)), (2, .int (nI 1)), (1, .int (pkI T L z)), (0, .ref 114)], [], N)) (o := [shp 114 = (0, 10)]) rfl rfl ?_
            refine Wn.br (fun h16 => ?_) (fun h16 => ?_)
            · show Wn _ 57 _ (248, [(3, .int (nI 0)), (2, .int (nI 1)), (1, .int (pkI T L z)), (0, .ref 114)], [], N)
              have h16 := (n_le rfl (fr_eq hgr (show gr 13 = (nI i) from hfr_13)) (by omega) (by omega)).mp h16
              refine Wn.run (tab := tb_m_next) rfl 4 (c' := (if (nI 3) ≤ (N.1 114 13) then 275 else 256, [(3, .int (nI 0)), (2, .int (nI 1)), (1, .int (pkI T L z)), (0, .ref 114)], [], N)) (o := [shp 114 = (0, 10)]) rfl rfl ?_
              refine Wn.br (fun h17 => ?_) (fun h17 => ?_)
              · show Wn _ 57 _ (275, [(3, .int (nI 0)), (2, .int (nI 1)), (1, .int (pkI T L z)), (0, .ref 114)], [], N)
                have h17 := (n_le rfl (fr_eq hgr (show gr 13 = (nI i) from hfr_13)) (by omega) (by omega)).mp h17
                refine Wn.run (tab := tb_m_next) rfl 6 (c' := (285, [(3, .int (nI 0)), (2, .int (nI 1)), (1, .int (pkI T L z)), (0, .ref 114)], [], (mI N 114 (upd (N.1 114) 13 ((N.1 114 13) + (nI 1)))))) (o := [shp 114 = (0, 10), shp 114 = (0, 10)]) rfl ⟨rfl, rfl⟩ ?_
                rw [show (N.1 114 13) = (nI i) from (fr_eq hgr (show gr 13 = (nI i) from hfr_13))]
                rw [show ((nI i) + (nI 1)) = (nI (i + 1)) from (n_add rfl rfl)]
                generalize hM218 : (mI N 114 (upd (N.1 114) 13 (nI (i + 1)))) = M217
                have hk219 := fI_up hM218 hgr
                have hu220 := fI_ne hM218 (by decide) loop_9
                have hF221 := fr_sI loop_10 hM218 (by decide)
                have hj222 := jc_oI hM218 hw9
                show Wn _ 57 _ (285, [(3, .int (nI 0)), (2, .int (nI 1)), (1, .int (pkI T L z)), (0, .ref 114)], [], M217)
                refine Wn.run (tab := tb_m_next) rfl 6 (c' := (295, [(3, .int (nI 0)), (2, .int (nI 1)), (1, .int (pkI T L z)), (0, .ref 114)], [], (mI M217 114 (upd (M217.1 114) 4 ((M217.1 114 4) + (nI 1)))))) (o := [shp 114 = (0, 10), shp 114 = (0, 10)]) rfl ⟨rfl, rfl⟩ ?_
                rw [show (M217.1 114 4) = (nI (z + i)) from (fr_eq hk219 (show (upd gr 13 (nI (i + 1))) 4 = (nI (z + i)) from ((pk_un (by decide)).trans hfr_4)))]
                rw [show ((nI (z + i)) + (nI 1)) = (nI ((z + i) + 1)) from (n_add rfl rfl)]
                generalize hM224 : (mI M217 114 (upd (M217.1 114) 4 (nI ((z + i) + 1)))) = M223
                have hk225 := fI_up hM224 hk219
                have hu226 := fI_ne hM224 (by decide) hu220
                have hF227 := fr_sI hF221 hM224 (by decide)
                have hj228 := jc_oI hM224 hj222
                show Wn _ 57 _ (295, [(3, .int (nI 0)), (2, .int (nI 1)), (1, .int (pkI T L z)), (0, .ref 114)], [], M223)
                refine Wn.run (tab := tb_m_next) rfl 1 (c' := (181, [(3, .int (nI 0)), (2, .int (nI 1)), (1, .int (pkI T L z)), (0, .ref 114)], [], M223)) (o := []) rfl trivial ?_
                have q1 : isD (T (z + i)) := by omega
                have q2 : ¬ isS (T (z + i)) := by omega
                have e8 : nLt T z (i + 1) = nLt T z i + 0 := by show nLt T z i + (if isS (T (z + i)) then 1 else 0) = _; rw [if_neg q2]
                have e9 : nDg T z (i + 1) = nDg T z i + 1 := by show nDg T z i + (if isD (T (z + i)) then 1 else 0) = _; rw [if_pos q1]
                have e6 : nVl T z (i + 1) = 10 * nVl T z i + T (z + i) - 48 := by show (if isD (T (z + i)) then _ else _) = _; rw [if_pos q1]
                have e7 : nNm T z (i + 1) = nNm T z i := by show (if isS (T (z + i)) then _ else _) = _; rw [if_neg q2]
                have ea : (nI 0) = (b2 (nDg T z (i + 1) = 0)) := by rw [b2_f (by omega)]; rfl
                have key9 := ih ((L - z) - (i + 1)) (by omega) (i + 1) M223 rfl (by omega) (by rw [hk225]; exact pk_us) (by rw [hk225]; exact ((pk_un (by decide)).trans pk_us)) (by rw [hk225]; exact ((pk_un (by decide)).trans ((pk_un (by decide)).trans hfr_3))) (by rw [hk225]; exact ((pk_un (by decide)).trans ((pk_un (by decide)).trans hfr_5))) (by rw [hk225]; exact (Gx_up (Gx_up hxr (by decide)) (by decide))) (by rw [hk225]; exact ((pk_un (by decide)).trans ((pk_un (by decide)).trans hfr_12))) (fun a1 a2 => absurd a2 (by omega)) (fun a1 a2 => absurd a1 (by omega)) (fun k9 hk9 => (jo_I hM224 hk9 (jo_I hM218 hk9 (loop_8 k9 hk9)))) hu226 hF227 (fun k9 hk => if e : k9 = i then (by rw [e]; exact ⟨by omega, by omega⟩) else loop_x0 k9 (by omega))
                rw [← ea] at key9
                exact key9
              · show Wn _ 57 _ (256, [(3, .int (nI 0)), (2, .int (nI 1)), (1, .int (pkI T L z)), (0, .ref 114)], [], N)
                have h17 := mt (n_le rfl (fr_eq hgr (show gr 13 = (nI i) from hfr_13)) (by omega) (by omega)).mpr h17
                refine Wn.run (tab := tb_m_next) rfl 6 (c' := (265, [(3, .int (nI 0)), (2, .int (nI 1)), (1, .int (pkI T L z)), (0, .ref 114)], [.ref 114, .int ((nI 10) * (N.1 114 14)), .ref 114], N)) (o := [shp 114 = (0, 10)]) rfl rfl ?_
                rw [show (N.1 114 14) = n9 from (fr_eq hgr (show gr 14 = n9 from hn9))]
                refine Wn.callV (p := 114) (n := 1) (ix := 152) (ci := (10)) (fun r0 M0 => r0 = some (.int (pkI T L (z + i))) ∧ N = M0) [] [.int ((nI 10) * n9), .ref 114] rfl rfl rfl rfl (Nat.le_of_ble_eq_true rfl) (Nat.le_of_ble_eq_true rfl) (w_m_peek _ N T L (z + i) (by rw [hgr]; exact hfr_4) (by rw [hgr]; exact hfr_3) (by rw [loop_9]; exact hT) hL9 (by omega) _ ⟨rfl, rfl⟩) ?_
                rintro _ _ ⟨rfl, rfl⟩
                show Wn _ 57 _ (268, [(3, .int (nI 0)), (2, .int (nI 1)), (1, .int (pkI T L z)), (0, .ref 114)], [.int (pkI T L (z + i)), .int ((nI 10) * n9), .ref 114], N)
                refine Wn.run (tab := tb_m_next) rfl 4 (c' := (275, [(3, .int (nI 0)), (2, .int (nI 1)), (1, .int (pkI T L z)), (0, .ref 114)], [], (mI N 114 (upd (N.1 114) 14 ((((nI 10) * n9) + (pkI T L (z + i))) - (nI 48)))))) (o := [shp 114 = (0, 10)]) rfl rfl ?_
                generalize hM230 : (mI N 114 (upd (N.1 114) 14 ((((nI 10) * n9) + (pkI T L (z + i))) - (nI 48)))) = M229
                have hk231 := fI_up hM230 hgr
                have hu232 := fI_ne hM230 (by decide) loop_9
                have hF233 := fr_sI loop_10 hM230 (by decide)
                have hj234 := jc_oI hM230 hw9
                show Wn _ 57 _ (275, [(3, .int (nI 0)), (2, .int (nI 1)), (1, .int (pkI T L z)), (0, .ref 114)], [], M229)
                refine Wn.run (tab := tb_m_next) rfl 6 (c' := (285, [(3, .int (nI 0)), (2, .int (nI 1)), (1, .int (pkI T L z)), (0, .ref 114)], [], (mI M229 114 (upd (M229.1 114) 13 ((M229.1 114 13) + (nI 1)))))) (o := [shp 114 = (0, 10), shp 114 = (0, 10)]) rfl ⟨rfl, rfl⟩ ?_
                rw [show (M229.1 114 13) = (nI i) from (fr_eq hk231 (show (upd gr 14 ((((nI 10) * n9) + (pkI T L (z + i))) - (nI 48))) 13 = (nI i) from ((pk_un (by decide)).trans hfr_13)))]
                rw [show ((nI i) + (nI 1)) = (nI (i + 1)) from (n_add rfl rfl)]
                generalize hM236 : (mI M229 114 (upd (M229.1 114) 13 (nI (i + 1)))) = M235
                have hk237 := fI_up hM236 hk231
                have hu238 := fI_ne hM236 (by decide) hu232
                have hF239 := fr_sI hF233 hM236 (by decide)
                have hj240 := jc_oI hM236 hj234
                show Wn _ 57 _ (285, [(3, .int (nI 0)), (2, .int (nI 1)), (1, .int (pkI T L z)), (0, .ref 114)], [], M235)
                refine Wn.run (tab := tb_m_next) rfl 6 (c' := (295, [(3, .int (nI 0)), (2, .int (nI 1)), (1, .int (pkI T L z)), (0, .ref 114)], [], (mI M235 114 (upd (M235.1 114) 4 ((M235.1 114 4) + (nI 1)))))) (o := [shp 114 = (0, 10), shp 114 = (0, 10)]) rfl ⟨rfl, rfl⟩ ?_
                rw [show (M235.1 114 4) = (nI (z + i)) from (fr_eq hk237 (show (upd (upd gr 14 ((((nI 10) * n9) + (pkI T L (z + i))) - (nI 48))) 13 (nI (i + 1))) 4 = (nI (z + i)) from ((pk_un (by decide)).trans ((pk_un (by decide)).trans hfr_4))))]
                rw [show ((nI (z + i)) + (nI 1)) = (nI ((z + i) + 1)) from (n_add rfl rfl)]
                generalize hM242 : (mI M235 114 (upd (M235.1 114) 4 (nI ((z + i) + 1)))) = M241
                have hk243 := fI_up hM242 hk237
                have hu244 := fI_ne hM242 (by decide) hu238
                have hF245 := fr_sI hF239 hM242 (by decide)
                have hj246 := jc_oI hM242 hj240
                show Wn _ 57 _ (295, [(3, .int (nI 0)), (2, .int (nI 1)), (1, .int (pkI T L z)), (0, .ref 114)], [], M241)
                refine Wn.run (tab := tb_m_next) rfl 1 (c' := (181, [(3, .int (nI 0)), (2, .int (nI 1)), (1, .int (pkI T L z)), (0, .ref 114)], [], M241)) (o := []) rfl trivial ?_
                have q1 : isD (T (z + i)) := by omega
                have q2 : ¬ isS (T (z + i)) := by omega
                have e8 : nLt T z (i + 1) = nLt T z i + 0 := by show nLt T z i + (if isS (T (z + i)) then 1 else 0) = _; rw [if_neg q2]
                have e9 : nDg T z (i + 1) = nDg T z i + 1 := by show nDg T z i + (if isD (T (z + i)) then 1 else 0) = _; rw [if_pos q1]
                have e6 : nVl T z (i + 1) = 10 * nVl T z i + T (z + i) - 48 := by show (if isD (T (z + i)) then _ else _) = _; rw [if_pos q1]
                have e7 : nNm T z (i + 1) = nNm T z i := by show (if isS (T (z + i)) then _ else _) = _; rw [if_neg q2]
                have ea : (nI 0) = (b2 (nDg T z (i + 1) = 0)) := by rw [b2_f (by omega)]; rfl
                have key9 := ih ((L - z) - (i + 1)) (by omega) (i + 1) M241 rfl (by omega) (by rw [hk243]; exact pk_us) (by rw [hk243]; exact ((pk_un (by decide)).trans pk_us)) (by rw [hk243]; exact ((pk_un (by decide)).trans ((pk_un (by decide)).trans ((pk_un (by decide)).trans hfr_3)))) (by rw [hk243]; exact ((pk_un (by decide)).trans ((pk_un (by decide)).trans ((pk_un (by decide)).trans hfr_5)))) (by rw [hk243]; exact (Gx_up (Gx_up (Gx_up hxr (by decide)) (by decide)) (by decide))) (by rw [hk243]; exact ((pk_un (by decide)).trans ((pk_un (by decide)).trans ((pk_un (by decide)).trans hfr_12)))) (fun a1 a2 => by rw [hk243, show (upd (upd (upd gr 14 ((((nI 10) * n9) + (pkI T L (z + i))) - (nI 48))) 13 (nI (i + 1))) 4 (nI ((z + i) + 1))) 14 = ((((nI 10) * n9) + (pkI T L (z + i))) - (nI 48)) from ((pk_un (by decide)).trans ((pk_un (by decide)).trans pk_us)), e6, hnum (by omega) (by omega), pk_mul, pkI_y (by omega), nI_add, pk_sub (by omega)]) (fun a1 a2 => absurd a1 (by omega)) (fun k9 hk9 => (jo_I hM242 hk9 (jo_I hM236 hk9 (jo_I hM230 hk9 (loop_8 k9 hk9))))) hu244 hF245 (fun k9 hk => if e : k9 = i then (by rw [e]; exact ⟨by omega, by omega⟩) else loop_x0 k9 (by omega))
                rw [← ea] at key9
                exact key9
            · show Wn _ 57 _ (231, [(3, .int (nI 0)), (2, .int (nI 1)), (1, .int (pkI T L z)), (0, .ref 114)], [], N)
              have h16 := mt (n_le rfl (fr_eq hgr (show gr 13 = (nI i) from hfr_13)) (by omega) (by omega)).mpr h16
              refine Wn.run (tab := tb_m_next) rfl 6 (c' := (240, [(3, .int (nI 0)), (2, .int (nI 1)), (1, .int (pkI T L z)), (0, .ref 114)], [.ref 114, .long ((N.2.1 114 17) <<< (((nI 8)).toInt64 &&& 63)), .ref 114], N)) (o := [shp 114 = (0, 10)]) rfl rfl ?_
              rw [show (N.2.1 114 17) = w9 from hw9]
              refine Wn.callV (p := 114) (n := 1) (ix := 152) (ci := (10)) (fun r0 M0 => r0 = some (.int (pkI T L (z + i))) ∧ N = M0) [] [.long (w9 <<< (((nI 8)).toInt64 &&& 63)), .ref 114] rfl rfl rfl rfl (Nat.le_of_ble_eq_true rfl) (Nat.le_of_ble_eq_true rfl) (w_m_peek _ N T L (z + i) (by rw [hgr]; exact hfr_4) (by rw [hgr]; exact hfr_3) (by rw [loop_9]; exact hT) hL9 (by omega) _ ⟨rfl, rfl⟩) ?_
              rintro _ _ ⟨rfl, rfl⟩
              show Wn _ 57 _ (243, [(3, .int (nI 0)), (2, .int (nI 1)), (1, .int (pkI T L z)), (0, .ref 114)], [.int (pkI T L (z + i)), .long (w9 <<< (((nI 8)).toInt64 &&& 63)), .ref 114], N)
              refine Wn.run (tab := tb_m_next) rfl 3 (c' := (248, [(3, .int (nI 0)), (2, .int (nI 1)), (1, .int (pkI T L z)), (0, .ref 114)], [], (mJ N 114 (vp_updL (N.2.1 114) 17 ((w9 <<< (((nI 8)).toInt64 &&& 63)) ||| ((pkI T L (z + i))).toInt64))))) (o := [shp 114 = (0, 10)]) rfl rfl ?_
              generalize hM248 : (mJ N 114 (vp_updL (N.2.1 114) 17 ((w9 <<< (((nI 8)).toInt64 &&& 63)) ||| ((pkI T L (z + i))).toInt64))) = M247
              have hk249 := fI_oJ hM248 hgr
              have hu250 := fI_oJ hM248 loop_9
              have hF251 := fr_sJ loop_10 hM248 (by decide)
              have hj252 := jc_eq hM248
              show Wn _ 57 _ (248, [(3, .int (nI 0)), (2, .int (nI 1)), (1, .int (pkI T L z)), (0, .ref 114)], [], M247)
              refine Wn.run (tab := tb_m_next) rfl 4 (c' := (if (nI 3) ≤ (M247.1 114 13) then 275 else 256, [(3, .int (nI 0)), (2, .int (nI 1)), (1, .int (pkI T L z)), (0, .ref 114)], [], M247)) (o := [shp 114 = (0, 10)]) rfl rfl ?_
              refine Wn.br (fun h18 => ?_) (fun h18 => ?_)
              · show Wn _ 57 _ (275, [(3, .int (nI 0)), (2, .int (nI 1)), (1, .int (pkI T L z)), (0, .ref 114)], [], M247)
                have h18 := (n_le rfl (fr_eq hk249 (show gr 13 = (nI i) from hfr_13)) (by omega) (by omega)).mp h18
                refine Wn.run (tab := tb_m_next) rfl 6 (c' := (285, [(3, .int (nI 0)), (2, .int (nI 1)), (1, .int (pkI T L z)), (0, .ref 114)], [], (mI M247 114 (upd (M247.1 114) 13 ((M247.1 114 13) + (nI 1)))))) (o := [shp 114 = (0, 10), shp 114 = (0, 10)]) rfl ⟨rfl, rfl⟩ ?_
                rw [show (M247.1 114 13) = (nI i) from (fr_eq hk249 (show gr 13 = (nI i) from hfr_13))]
                rw [show ((nI i) + (nI 1)) = (nI (i + 1)) from (n_add rfl rfl)]
                generalize hM254 : (mI M247 114 (upd (M247.1 114) 13 (nI (i + 1)))) = M253
                have hk255 := fI_up hM254 hk249
                have hu256 := fI_ne hM254 (by decide) hu250
                have hF257 := fr_sI hF251 hM254 (by decide)
                have hj258 := jc_oI hM254 hj252
                show Wn _ 57 _ (285, [(3, .int (nI 0)), (2, .int (nI 1)), (1, .int (pkI T L z)), (0, .ref 114)], [], M253)
                refine Wn.run (tab := tb_m_next) rfl 6 (c' := (295, [(3, .int (nI 0)), (2, .int (nI 1)), (1, .int (pkI T L z)), (0, .ref 114)], [], (mI M253 114 (upd (M253.1 114) 4 ((M253.1 114 4) + (nI 1)))))) (o := [shp 114 = (0, 10), shp 114 = (0, 10)]) rfl ⟨rfl, rfl⟩ ?_
                rw [show (M253.1 114 4) = (nI (z + i)) from (fr_eq hk255 (show (upd gr 13 (nI (i + 1))) 4 = (nI (z + i)) from ((pk_un (by decide)).trans hfr_4)))]
                rw [show ((nI (z + i)) + (nI 1)) = (nI ((z + i) + 1)) from (n_add rfl rfl)]
                generalize hM260 : (mI M253 114 (upd (M253.1 114) 4 (nI ((z + i) + 1)))) = M259
                have hk261 := fI_up hM260 hk255
                have hu262 := fI_ne hM260 (by decide) hu256
                have hF263 := fr_sI hF257 hM260 (by decide)
                have hj264 := jc_oI hM260 hj258
                show Wn _ 57 _ (295, [(3, .int (nI 0)), (2, .int (nI 1)), (1, .int (pkI T L z)), (0, .ref 114)], [], M259)
                refine Wn.run (tab := tb_m_next) rfl 1 (c' := (181, [(3, .int (nI 0)), (2, .int (nI 1)), (1, .int (pkI T L z)), (0, .ref 114)], [], M259)) (o := []) rfl trivial ?_
                have q1 : isD (T (z + i)) := by omega
                have q2 : ¬ isS (T (z + i)) := by omega
                have e8 : nLt T z (i + 1) = nLt T z i + 0 := by show nLt T z i + (if isS (T (z + i)) then 1 else 0) = _; rw [if_neg q2]
                have e9 : nDg T z (i + 1) = nDg T z i + 1 := by show nDg T z i + (if isD (T (z + i)) then 1 else 0) = _; rw [if_pos q1]
                have e6 : nVl T z (i + 1) = 10 * nVl T z i + T (z + i) - 48 := by show (if isD (T (z + i)) then _ else _) = _; rw [if_pos q1]
                have e7 : nNm T z (i + 1) = nNm T z i := by show (if isS (T (z + i)) then _ else _) = _; rw [if_neg q2]
                have ea : (nI 0) = (b2 (nDg T z (i + 1) = 0)) := by rw [b2_f (by omega)]; rfl
                have key9 := ih ((L - z) - (i + 1)) (by omega) (i + 1) M259 rfl (by omega) (by rw [hk261]; exact pk_us) (by rw [hk261]; exact ((pk_un (by decide)).trans pk_us)) (by rw [hk261]; exact ((pk_un (by decide)).trans ((pk_un (by decide)).trans hfr_3))) (by rw [hk261]; exact ((pk_un (by decide)).trans ((pk_un (by decide)).trans hfr_5))) (by rw [hk261]; exact (Gx_up (Gx_up hxr (by decide)) (by decide))) (by rw [hk261]; exact ((pk_un (by decide)).trans ((pk_un (by decide)).trans hfr_12))) (fun a1 a2 => absurd a2 (by omega)) (fun a1 a2 => absurd a1 (by omega)) (fun k9 hk9 => (jo_I hM260 hk9 (jo_I hM254 hk9 (jo_J hM248 hk9 (loop_8 k9 hk9))))) hu262 hF263 (fun k9 hk => if e : k9 = i then (by rw [e]; exact ⟨by omega, by omega⟩) else loop_x0 k9 (by omega))
                rw [← ea] at key9
                exact key9
              · show Wn _ 57 _ (256, [(3, .int (nI 0)), (2, .int (nI 1)), (1, .int (pkI T L z)), (0, .ref 114)], [], M247)
                have h18 := mt (n_le rfl (fr_eq hk249 (show gr 13 = (nI i) from hfr_13)) (by omega) (by omega)).mpr h18
                refine Wn.run (tab := tb_m_next) rfl 6 (c' := (265, [(3, .int (nI 0)), (2, .int (nI 1)), (1, .int (pkI T L z)), (0, .ref 114)], [.ref 114, .int ((nI 10) * (M247.1 114 14)), .ref 114], M247)) (o := [shp 114 = (0, 10)]) rfl rfl ?_
                rw [show (M247.1 114 14) = n9 from (fr_eq hk249 (show gr 14 = n9 from hn9))]
                refine Wn.callV (p := 114) (n := 1) (ix := 152) (ci := (10)) (fun r0 M0 => r0 = some (.int (pkI T L (z + i))) ∧ M247 = M0) [] [.int ((nI 10) * n9), .ref 114] rfl rfl rfl rfl (Nat.le_of_ble_eq_true rfl) (Nat.le_of_ble_eq_true rfl) (w_m_peek _ M247 T L (z + i) (by rw [hk249]; exact hfr_4) (by rw [hk249]; exact hfr_3) (by rw [hu250]; exact hT) hL9 (by omega) _ ⟨rfl, rfl⟩) ?_
                rintro _ _ ⟨rfl, rfl⟩
                show Wn _ 57 _ (268, [(3, .int (nI 0)), (2, .int (nI 1)), (1, .int (pkI T L z)), (0, .ref 114)], [.int (pkI T L (z + i)), .int ((nI 10) * n9), .ref 114], M247)
                refine Wn.run (tab := tb_m_next) rfl 4 (c' := (275, [(3, .int (nI 0)), (2, .int (nI 1)), (1, .int (pkI T L z)), (0, .ref 114)], [], (mI M247 114 (upd (M247.1 114) 14 ((((nI 10) * n9) + (pkI T L (z + i))) - (nI 48)))))) (o := [shp 114 = (0, 10)]) rfl rfl ?_
                generalize hM266 : (mI M247 114 (upd (M247.1 114) 14 ((((nI 10) * n9) + (pkI T L (z + i))) - (nI 48)))) = M265
                have hk267 := fI_up hM266 hk249
                have hu268 := fI_ne hM266 (by decide) hu250
                have hF269 := fr_sI hF251 hM266 (by decide)
                have hj270 := jc_oI hM266 hj252
                show Wn _ 57 _ (275, [(3, .int (nI 0)), (2, .int (nI 1)), (1, .int (pkI T L z)), (0, .ref 114)], [], M265)
                refine Wn.run (tab := tb_m_next) rfl 6 (c' := (285, [(3, .int (nI 0)), (2, .int (nI 1)), (1, .int (pkI T L z)), (0, .ref 114)], [], (mI M265 114 (upd (M265.1 114) 13 ((M265.1 114 13) + (nI 1)))))) (o := [shp 114 = (0, 10), shp 114 = (0, 10)]) rfl ⟨rfl, rfl⟩ ?_
                rw [show (M265.1 114 13) = (nI i) from (fr_eq hk267 (show (upd gr 14 ((((nI 10) * n9) + (pkI T L (z + i))) - (nI 48))) 13 = (nI i) from ((pk_un (by decide)).trans hfr_13)))]
                rw [show ((nI i) + (nI 1)) = (nI (i + 1)) from (n_add rfl rfl)]
                generalize hM272 : (mI M265 114 (upd (M265.1 114) 13 (nI (i + 1)))) = M271
                have hk273 := fI_up hM272 hk267
                have hu274 := fI_ne hM272 (by decide) hu268
                have hF275 := fr_sI hF269 hM272 (by decide)
                have hj276 := jc_oI hM272 hj270
                show Wn _ 57 _ (285, [(3, .int (nI 0)), (2, .int (nI 1)), (1, .int (pkI T L z)), (0, .ref 114)], [], M271)
                refine Wn.run (tab := tb_m_next) rfl 6 (c' := (295, [(3, .int (nI 0)), (2, .int (nI 1)), (1, .int (pkI T L z)), (0, .ref 114)], [], (mI M271 114 (upd (M271.1 114) 4 ((M271.1 114 4) + (nI 1)))))) (o := [shp 114 = (0, 10), shp 114 = (0, 10)]) rfl ⟨rfl, rfl⟩ ?_
                rw [show (M271.1 114 4) = (nI (z + i)) from (fr_eq hk273 (show (upd (upd gr 14 ((((nI 10) * n9) + (pkI T L (z + i))) - (nI 48))) 13 (nI (i + 1))) 4 = (nI (z + i)) from ((pk_un (by decide)).trans ((pk_un (by decide)).trans hfr_4))))]
                rw [show ((nI (z + i)) + (nI 1)) = (nI ((z + i) + 1)) from (n_add rfl rfl)]
                generalize hM278 : (mI M271 114 (upd (M271.1 114) 4 (nI ((z + i) + 1)))) = M277
                have hk279 := fI_up hM278 hk273
                have hu280 := fI_ne hM278 (by decide) hu274
                have hF281 := fr_sI hF275 hM278 (by decide)
                have hj282 := jc_oI hM278 hj276
                show Wn _ 57 _ (295, [(3, .int (nI 0)), (2, .int (nI 1)), (1, .int (pkI T L z)), (0, .ref 114)], [], M277)
                refine Wn.run (tab := tb_m_next) rfl 1 (c' := (181, [(3, .int (nI 0)), (2, .int (nI 1)), (1, .int (pkI T L z)), (0, .ref 114)], [], M277)) (o := []) rfl trivial ?_
                have q1 : isD (T (z + i)) := by omega
                have q2 : ¬ isS (T (z + i)) := by omega
                have e8 : nLt T z (i + 1) = nLt T z i + 0 := by show nLt T z i + (if isS (T (z + i)) then 1 else 0) = _; rw [if_neg q2]
                have e9 : nDg T z (i + 1) = nDg T z i + 1 := by show nDg T z i + (if isD (T (z + i)) then 1 else 0) = _; rw [if_pos q1]
                have e6 : nVl T z (i + 1) = 10 * nVl T z i + T (z + i) - 48 := by show (if isD (T (z + i)) then _ else _) = _; rw [if_pos q1]
                have e7 : nNm T z (i + 1) = nNm T z i := by show (if isS (T (z + i)) then _ else _) = _; rw [if_neg q2]
                have ea : (nI 0) = (b2 (nDg T z (i + 1) = 0)) := by rw [b2_f (by omega)]; rfl
                have key9 := ih ((L - z) - (i + 1)) (by omega) (i + 1) M277 rfl (by omega) (by rw [hk279]; exact pk_us) (by rw [hk279]; exact ((pk_un (by decide)).trans pk_us)) (by rw [hk279]; exact ((pk_un (by decide)).trans ((pk_un (by decide)).trans ((pk_un (by decide)).trans hfr_3)))) (by rw [hk279]; exact ((pk_un (by decide)).trans ((pk_un (by decide)).trans ((pk_un (by decide)).trans hfr_5)))) (by rw [hk279]; exact (Gx_up (Gx_up (Gx_up hxr (by decide)) (by decide)) (by decide))) (by rw [hk279]; exact ((pk_un (by decide)).trans ((pk_un (by decide)).trans ((pk_un (by decide)).trans hfr_12)))) (fun a1 a2 => by rw [hk279, show (upd (upd (upd gr 14 ((((nI 10) * n9) + (pkI T L (z + i))) - (nI 48))) 13 (nI (i + 1))) 4 (nI ((z + i) + 1))) 14 = ((((nI 10) * n9) + (pkI T L (z + i))) - (nI 48)) from ((pk_un (by decide)).trans ((pk_un (by decide)).trans pk_us)), e6, hnum (by omega) (by omega), pk_mul, pkI_y (by omega), nI_add, pk_sub (by omega)]) (fun a1 a2 => absurd a1 (by omega)) (fun k9 hk9 => (jo_I hM278 hk9 (jo_I hM272 hk9 (jo_I hM266 hk9 (jo_J hM248 hk9 (loop_8 k9 hk9)))))) hu280 hF281 (fun k9 hk => if e : k9 = i then (by rw [e]; exact ⟨by omega, by omega⟩) else loop_x0 k9 (by omega))
                rw [← ea] at key9
                exact key9
  exact loop ((L - z) - 0) 0 N0 rfl (by omega) (by rw [hg1]; exact h4) (by rw [hg1]; exact h13) (by rw [hg1]; exact h3) (by rw [hg1]; exact h5) (by rw [hg1]; exact hx) (by rw [hg1]; exact h12) (fun a1 a2 => by rw [hg1]; exact h14) (fun a1 a2 => hj17) hjo hu hF (fun k9 hk => absurd hk (by omega))
set_option maxRecDepth 20000 in
set_option maxHeartbeats 8000000 in
theorem next_runD (d : Nat) (M0 N0 : Mm) (g g1 : Nat → Int32) (jj : Nat → Int64) (u : Nat → Int32) (T : Nat → Nat) (L mo p z : Nat) (hg1 : N0.1 114 = g1) (h3 : g1 3 = nI L) (h5 : g1 5 = nI mo) (h4 : g1 4 = nI z) (h12 : g1 12 = nI z) (h13 : g1 13 = nI 0) (h14 : g1 14 = nI 0) (hx : Gx [4, 11, 12, 13, 14] g g1) (hj17 : N0.2.1 114 17 = 0) (hjo : ∀ k9, ¬ k9 = 17 → N0.2.1 114 k9 = jj k9) (hj : M0.2.1 114 = jj) (hu : N0.1 115 = u) (hT : TM u T L) (hF : Fr [114] M0 N0) (hL9 : L ≤ 940) (hm9 : mo ≤ 940) (hpL : p ≤ L) (sk9 : sk T L p = z) (hzB : z < mn L mo) (hfst : z < L ∧ isD (T z)) : Wn (d + 1) 57 (PNx M0 g T L mo p) (181, [(3, .int (nI 1)), (2, .int (nI 0)), (1, .int (pkI T L z)), (0, .ref 114)], [], N0) := by
  have hTb : ∀ k, k < L → T k < 256 := fun k hk => (hT k hk).2
  have loop : ∀ (m i : Nat) (N : Mm), (L - z) - i = m → i ≤ (L - z) → (N.1 114 4 = (nI (z + i))) → (N.1 114 13 = (nI i)) → (N.1 114 3 = (nI L)) → (N.1 114 5 = (nI mo)) → (Gx [4, 11, 12, 13, 14] g (N.1 114)) → (N.1 114 12 = (nI z)) → (nLt T z i = 0 → i ≤ 3 → N.1 114 14 = nI (nVl T z i)) → (nDg T z i = 0 → i ≤ 7 → N.2.1 114 17 = nNm T z i) → (∀ k9, ¬ k9 = 17 → N.2.1 114 k9 = jj k9) → (N.1 115 = u) → (Fr [114] M0 N) → (∀ k9, k9 < i → isW T L (z + k9)) → Wn (d + 1) 57 (PNx M0 g T L mo p) (181, [(3, .int (b2 (nLt T z i = 0))), (2, .int (nI 0)), (1, .int (pkI T L z)), (0, .ref 114)], [], N) := by
    intro m
    induction m using Nat.strongRecOn with
    | _ m ih =>
      intro i N hm hi loop_0 loop_1 loop_2 loop_3 loop_4 loop_5 loop_6 loop_7 loop_8 loop_9 loop_10 loop_x0
      obtain ⟨gr, hgr⟩ : ∃ g9, N.1 114 = g9 := ⟨_, rfl⟩
      have hfr_4 : gr 4 = (nI (z + i)) := by rw [← hgr]; exact loop_0
      have hfr_13 : gr 13 = (nI i) := by rw [← hgr]; exact loop_1
      have hfr_3 : gr 3 = (nI L) := by rw [← hgr]; exact loop_2
      have hfr_5 : gr 5 = (nI mo) := by rw [← hgr]; exact loop_3
      have hxr : Gx [4, 11, 12, 13, 14] g gr := by rw [← hgr]; exact loop_4
      have hfr_12 : gr 12 = (nI z) := by rw [← hgr]; exact loop_5
      obtain ⟨n9, hn9⟩ : ∃ v9, gr 14 = v9 := ⟨_, rfl⟩
      obtain ⟨w9, hw9⟩ : ∃ v9, N.2.1 114 17 = v9 := ⟨_, rfl⟩
      have hnum : nLt T z i = 0 → i ≤ 3 → n9 = nI (nVl T z i) := by rw [← hn9, ← hgr]; exact loop_6
      have hwrd : nDg T z i = 0 → i ≤ 7 → w9 = nNm T z i := by rw [← hw9]; exact loop_7
      refine Wn.run (tab := tb_m_next) rfl 1 (c' := (182, [(3, .int (b2 (nLt T z i = 0))), (2, .int (nI 0)), (1, .int (pkI T L z)), (0, .ref 114)], [.ref 114], N)) (o := []) rfl trivial ?_
      refine Wn.callV (p := 114) (n := 1) (ix := 152) (ci := (10)) (fun r0 M0 => r0 = some (.int (pkI T L (z + i))) ∧ N = M0) [] [] rfl rfl rfl rfl (Nat.le_of_ble_eq_true rfl) (Nat.le_of_ble_eq_true rfl) (w_m_peek _ N T L (z + i) (by rw [hgr]; exact hfr_4) (by rw [hgr]; exact hfr_3) (by rw [loop_9]; exact hT) hL9 (by omega) _ ⟨rfl, rfl⟩) ?_
      rintro _ _ ⟨rfl, rfl⟩
      show Wn _ 57 _ (185, [(3, .int (b2 (nLt T z i = 0))), (2, .int (nI 0)), (1, .int (pkI T L z)), (0, .ref 114)], [.int (pkI T L (z + i))], N)
      refine Wn.callS (n := 1) (ix := 165) (fun r0 M0 => r0 = some (.int (b2 ((z + i) < L ∧ isS (T (z + i))))) ∧ N = M0) [.int (pkI T L (z + i))] [] rfl rfl rfl (Nat.le_of_ble_eq_true rfl) (Nat.le_of_ble_eq_true rfl) (w_m_isSmallP _ T L (z + i) hTb N _ ⟨rfl, rfl⟩) ?_
      rintro _ _ ⟨rfl, rfl⟩
      show Wn _ 57 _ (188, [(3, .int (b2 (nLt T z i = 0))), (2, .int (nI 0)), (1, .int (pkI T L z)), (0, .ref 114)], [.int (b2 ((z + i) < L ∧ isS (T (z + i))))], N)
      refine Wn.run (tab := tb_m_next) rfl 1 (c' := (if ¬ (b2 ((z + i) < L ∧ isS (T (z + i)))) = 0 then 201 else 191, [(3, .int (b2 (nLt T z i = 0))), (2, .int (nI 0)), (1, .int (pkI T L z)), (0, .ref 114)], [], N)) (o := []) rfl trivial ?_
      refine Wn.br (fun h1 => ?_) (fun h1 => ?_)
      · show Wn _ 57 _ (201, [(3, .int (b2 (nLt T z i = 0))), (2, .int (nI 0)), (1, .int (pkI T L z)), (0, .ref 114)], [], N)
        have h1 := b2_pos h1
        refine Wn.run (tab := tb_m_next) rfl 2 (c' := (if (b2 (nLt T z i = 0)) = 0 then 220 else 205, [(3, .int (b2 (nLt T z i = 0))), (2, .int (nI 0)), (1, .int (pkI T L z)), (0, .ref 114)], [], N)) (o := []) rfl trivial ?_
        refine Wn.br (fun h2 => ?_) (fun h2 => ?_)
        · show Wn _ 57 _ (220, [(3, .int (b2 (nLt T z i = 0))), (2, .int (nI 0)), (1, .int (pkI T L z)), (0, .ref 114)], [], N)
          have h2 := b2_neg h2
          refine Wn.run (tab := tb_m_next) rfl 6 (c' := (if (nI 7) ≤ (N.1 114 13) then 248 else 231, [(3, .int (nI 0)), (2, .int (nI 0)), (1, .int (pkI T L z)), (0, .ref 114)], [], N)) (o := [shp 114 = (0, 10)]) rfl rfl ?_
          refine Wn.br (fun h3 => ?_) (fun h3 => ?_)
          · show Wn _ 57 _ (248, [(3, .int (nI 0)), (2, .int (nI 0)), (1, .int (pkI T L z)), (0, .ref 114)], [], N)
            have h3 := (n_le rfl (fr_eq hgr (show gr 13 = (nI i) from hfr_13)) (by omega) (by omega)).mp h3
            refine Wn.run (tab := tb_m_next) rfl 4 (c' := (if (nI 3) ≤ (N.1 114 13) then 275 else 256, [(3, .int (nI 0)), (2, .int (nI 0)), (1, .int (pkI T L z)), (0, .ref 114)], [], N)) (o := [shp 114 = (0, 10)]) rfl rfl ?_
            refine Wn.br (fun h4 => ?_) (fun h4 => ?_)
            · show Wn _ 57 _ (275, [(3, .int (nI 0)), (2, .int (nI 0)), (1, .int (pkI T L z)), (0, .ref 114)], [], N)
              have h4 := (n_le rfl (fr_eq hgr (show gr 13 = (nI i) from hfr_13)) (by omega) (by omega)).mp h4
              refine Wn.run (tab := tb_m_next) rfl 6 (c' := (285, [(3, .int (nI 0)), (2, .int (nI 0)), (1, .int (pkI T L z)), (0, .ref 114)], [], (mI N 114 (upd (N.1 114) 13 ((N.1 114 13) + (nI 1)))))) (o := [shp 114 = (0, 10), shp 114 = (0, 10)]) rfl ⟨rfl, rfl⟩ ?_
              rw [show (N.1 114 13) = (nI i) from (fr_eq hgr (show gr 13 = (nI i) from hfr_13))]
              rw [show ((nI i) + (nI 1)) = (nI (i + 1)) from (n_add rfl rfl)]
              generalize hM2 : (mI N 114 (upd (N.1 114) 13 (nI (i + 1)))) = M1
              have hk3 := fI_up hM2 hgr
              have hu4 := fI_ne hM2 (by decide) loop_9
              have hF5 := fr_sI loop_10 hM2 (by decide)
              have hj6 := jc_oI hM2 hw9
              show Wn _ 57 _ (285, [(3, .int (nI 0)), (2, .int (nI 0)), (1, .int (pkI T L z)), (0, .ref 114)], [], M1)
              refine Wn.run (tab := tb_m_next) rfl 6 (c' := (295, [(3, .int (nI 0)), (2, .int (nI 0)), (1, .int (pkI T L z)), (0, .ref 114)], [], (mI M1 114 (upd (M1.1 114) 4 ((M1.1 114 4) + (nI 1)))))) (o := [shp 114 = (0, 10), shp 114 = (0, 10)]) rfl ⟨rfl, rfl⟩ ?_
              rw [show (M1.1 114 4) = (nI (z + i)) from (fr_eq hk3 (show (upd gr 13 (nI (i + 1))) 4 = (nI (z + i)) from ((pk_un (by decide)).trans hfr_4)))]
              rw [show ((nI (z + i)) + (nI 1)) = (nI ((z + i) + 1)) from (n_add rfl rfl)]
              generalize hM8 : (mI M1 114 (upd (M1.1 114) 4 (nI ((z + i) + 1)))) = M7
              have hk9 := fI_up hM8 hk3
              have hu10 := fI_ne hM8 (by decide) hu4
              have hF11 := fr_sI hF5 hM8 (by decide)
              have hj12 := jc_oI hM8 hj6
              show Wn _ 57 _ (295, [(3, .int (nI 0)), (2, .int (nI 0)), (1, .int (pkI T L z)), (0, .ref 114)], [], M7)
              refine Wn.run (tab := tb_m_next) rfl 1 (c' := (181, [(3, .int (nI 0)), (2, .int (nI 0)), (1, .int (pkI T L z)), (0, .ref 114)], [], M7)) (o := []) rfl trivial ?_
              have q1 : isS (T (z + i)) := by omega
              have q2 : ¬ isD (T (z + i)) := by omega
              have e8 : nLt T z (i + 1) = nLt T z i + 1 := by show nLt T z i + (if isS (T (z + i)) then 1 else 0) = _; rw [if_pos q1]
              have e9 : nDg T z (i + 1) = nDg T z i + 0 := by show nDg T z i + (if isD (T (z + i)) then 1 else 0) = _; rw [if_neg q2]
              have e6 : nVl T z (i + 1) = nVl T z i := by show (if isD (T (z + i)) then _ else _) = _; rw [if_neg q2]
              have e7 : nNm T z (i + 1) = (nNm T z i <<< ((nI 8).toInt64 &&& 63)) ||| (nI (T (z + i))).toInt64 := by show (if isS (T (z + i)) then _ else _) = _; rw [if_pos q1]
              have ea : (nI 0) = (b2 (nLt T z (i + 1) = 0)) := by rw [b2_f (by omega)]; rfl
              have key9 := ih ((L - z) - (i + 1)) (by omega) (i + 1) M7 rfl (by omega) (by rw [hk9]; exact pk_us) (by rw [hk9]; exact ((pk_un (by decide)).trans pk_us)) (by rw [hk9]; exact ((pk_un (by decide)).trans ((pk_un (by decide)).trans hfr_3))) (by rw [hk9]; exact ((pk_un (by decide)).trans ((pk_un (by decide)).trans hfr_5))) (by rw [hk9]; exact (Gx_up (Gx_up hxr (by decide)) (by decide))) (by rw [hk9]; exact ((pk_un (by decide)).trans ((pk_un (by decide)).trans hfr_12))) (fun a1 a2 => absurd a1 (by omega)) (fun a1 a2 => absurd a2 (by omega)) (fun k9 hk9 => (jo_I hM8 hk9 (jo_I hM2 hk9 (loop_8 k9 hk9)))) hu10 hF11 (fun k9 hk => if e : k9 = i then (by rw [e]; exact ⟨by omega, by omega⟩) else loop_x0 k9 (by omega))
              rw [← ea] at key9
              exact key9
            · show Wn _ 57 _ (256, [(3, .int (nI 0)), (2, .int (nI 0)), (1, .int (pkI T L z)), (0, .ref 114)], [], N)
              have h4 := mt (n_le rfl (fr_eq hgr (show gr 13 = (nI i) from hfr_13)) (by omega) (by omega)).mpr h4
              refine Wn.run (tab := tb_m_next) rfl 6 (c' := (265, [(3, .int (nI 0)), (2, .int (nI 0)), (1, .int (pkI T L z)), (0, .ref 114)], [.ref 114, .int ((nI 10) * (N.1 114 14)), .ref 114], N)) (o := [shp 114 = (0, 10)]) rfl rfl ?_
              rw [show (N.1 114 14) = n9 from (fr_eq hgr (show gr 14 = n9 from hn9))]
              refine Wn.callV (p := 114) (n := 1) (ix := 152) (ci := (10)) (fun r0 M0 => r0 = some (.int (pkI T L (z + i))) ∧ N = M0) [] [.int ((nI 10) * n9), .ref 114] rfl rfl rfl rfl (Nat.le_of_ble_eq_true rfl) (Nat.le_of_ble_eq_true rfl) (w_m_peek _ N T L (z + i) (by rw [hgr]; exact hfr_4) (by rw [hgr]; exact hfr_3) (by rw [loop_9]; exact hT) hL9 (by omega) _ ⟨rfl, rfl⟩) ?_
              rintro _ _ ⟨rfl, rfl⟩
              show Wn _ 57 _ (268, [(3, .int (nI 0)), (2, .int (nI 0)), (1, .int (pkI T L z)), (0, .ref 114)], [.int (pkI T L (z + i)), .int ((nI 10) * n9), .ref 114], N)
              refine Wn.run (tab := tb_m_next) rfl 4 (c' := (275, [(3, .int (nI 0)), (2, .int (nI 0)), (1, .int (pkI T L z)), (0, .ref 114)], [], (mI N 114 (upd (N.1 114) 14 ((((nI 10) * n9) + (pkI T L (z + i))) - (nI 48)))))) (o := [shp 114 = (0, 10)]) rfl rfl ?_
              generalize hM14 : (mI N 114 (upd (N.1 114) 14 ((((nI 10) * n9) + (pkI T L (z + i))) - (nI 48)))) = M13
              have hk15 := fI_up hM14 hgr
              have hu16 := fI_ne hM14 (by decide) loop_9
              have hF17 := fr_sI loop_10 hM14 (by decide)
              have hj18 := jc_oI hM14 hw9
              show Wn _ 57 _ (275, [(3, .int (nI 0)), (2, .int (nI 0)), (1, .int (pkI T L z)), (0, .ref 114)], [], M13)
              refine Wn.run (tab := tb_m_next) rfl 6 (c' := (285, [(3, .int (nI 0)), (2, .int (nI 0)), (1, .int (pkI T L z)), (0, .ref 114)], [], (mI M13 114 (upd (M13.1 114) 13 ((M13.1 114 13) + (nI 1)))))) (o := [shp 114 = (0, 10), shp 114 = (0, 10)]) rfl ⟨rfl, rfl⟩ ?_
              rw [show (M13.1 114 13) = (nI i) from (fr_eq hk15 (show (upd gr 14 ((((nI 10) * n9) + (pkI T L (z + i))) - (nI 48))) 13 = (nI i) from ((pk_un (by decide)).trans hfr_13)))]
              rw [show ((nI i) + (nI 1)) = (nI (i + 1)) from (n_add rfl rfl)]
              generalize hM20 : (mI M13 114 (upd (M13.1 114) 13 (nI (i + 1)))) = M19
              have hk21 := fI_up hM20 hk15
              have hu22 := fI_ne hM20 (by decide) hu16
              have hF23 := fr_sI hF17 hM20 (by decide)
              have hj24 := jc_oI hM20 hj18
              show Wn _ 57 _ (285, [(3, .int (nI 0)), (2, .int (nI 0)), (1, .int (pkI T L z)), (0, .ref 114)], [], M19)
              refine Wn.run (tab := tb_m_next) rfl 6 (c' := (295, [(3, .int (nI 0)), (2, .int (nI 0)), (1, .int (pkI T L z)), (0, .ref 114)], [], (mI M19 114 (upd (M19.1 114) 4 ((M19.1 114 4) + (nI 1)))))) (o := [shp 114 = (0, 10), shp 114 = (0, 10)]) rfl ⟨rfl, rfl⟩ ?_
              rw [show (M19.1 114 4) = (nI (z + i)) from (fr_eq hk21 (show (upd (upd gr 14 ((((nI 10) * n9) + (pkI T L (z + i))) - (nI 48))) 13 (nI (i + 1))) 4 = (nI (z + i)) from ((pk_un (by decide)).trans ((pk_un (by decide)).trans hfr_4))))]
              rw [show ((nI (z + i)) + (nI 1)) = (nI ((z + i) + 1)) from (n_add rfl rfl)]
              generalize hM26 : (mI M19 114 (upd (M19.1 114) 4 (nI ((z + i) + 1)))) = M25
              have hk27 := fI_up hM26 hk21
              have hu28 := fI_ne hM26 (by decide) hu22
              have hF29 := fr_sI hF23 hM26 (by decide)
              have hj30 := jc_oI hM26 hj24
              show Wn _ 57 _ (295, [(3, .int (nI 0)), (2, .int (nI 0)), (1, .int (pkI T L z)), (0, .ref 114)], [], M25)
              refine Wn.run (tab := tb_m_next) rfl 1 (c' := (181, [(3, .int (nI 0)), (2, .int (nI 0)), (1, .int (pkI T L z)), (0, .ref 114)], [], M25)) (o := []) rfl trivial ?_
              have q1 : isS (T (z + i)) := by omega
              have q2 : ¬ isD (T (z + i)) := by omega
              have e8 : nLt T z (i + 1) = nLt T z i + 1 := by show nLt T z i + (if isS (T (z + i)) then 1 else 0) = _; rw [if_pos q1]
              have e9 : nDg T z (i + 1) = nDg T z i + 0 := by show nDg T z i + (if isD (T (z + i)) then 1 else 0) = _; rw [if_neg q2]
              have e6 : nVl T z (i + 1) = nVl T z i := by show (if isD (T (z + i)) then _ else _) = _; rw [if_neg q2]
              have e7 : nNm T z (i + 1) = (nNm T z i <<< ((nI 8).toInt64 &&& 63)) ||| (nI (T (z + i))).toInt64 := by show (if isS (T (z + i)) then _ else _) = _; rw [if_pos q1]
              have ea : (nI 0) = (b2 (nLt T z (i + 1) = 0)) := by rw [b2_f (by omega)]; rfl
              have key9 := ih ((L - z) - (i + 1)) (by omega) (i + 1) M25 rfl (by omega) (by rw [hk27]; exact pk_us) (by rw [hk27]; exact ((pk_un (by decide)).trans pk_us)) (by rw [hk27]; exact ((pk_un (by decide)).trans ((pk_un (by decide)).trans ((pk_un (by decide)).trans hfr_3)))) (by rw [hk27]; exact ((pk_un (by decide)).trans ((pk_un (by decide)).trans ((pk_un (by decide)).trans hfr_5)))) (by rw [hk27]; exact (Gx_up (Gx_up (Gx_up hxr (by decide)) (by decide)) (by decide))) (by rw [hk27]; exact ((pk_un (by decide)).trans ((pk_un (by decide)).trans ((pk_un (by decide)).trans hfr_12)))) (fun a1 a2 => absurd a1 (by omega)) (fun a1 a2 => absurd a2 (by omega)) (fun k9 hk9 => (jo_I hM26 hk9 (jo_I hM20 hk9 (jo_I hM14 hk9 (loop_8 k9 hk9))))) hu28 hF29 (fun k9 hk => if e : k9 = i then (by rw [e]; exact ⟨by omega, by omega⟩) else loop_x0 k9 (by omega))
              rw [← ea] at key9
              exact key9
          · show Wn _ 57 _ (231, [(3, .int (nI 0)), (2, .int (nI 0)), (1, .int (pkI T L z)), (0, .ref 114)], [], N)
            have h3 := mt (n_le rfl (fr_eq hgr (show gr 13 = (nI i) from hfr_13)) (by omega) (by omega)).mpr h3
            refine Wn.run (tab := tb_m_next) rfl 6 (c' := (240, [(3, .int (nI 0)), (2, .int (nI 0)), (1, .int (pkI T L z)), (0, .ref 114)], [.ref 114, .long ((N.2.1 114 17) <<< (((nI 8)).toInt64 &&& 63)), .ref 114], N)) (o := [shp 114 = (0, 10)]) rfl rfl ?_
            rw [show (N.2.1 114 17) = w9 from hw9]
            refine Wn.callV (p := 114) (n := 1) (ix := 152) (ci := (10)) (fun r0 M0 => r0 = some (.int (pkI T L (z + i))) ∧ N = M0) [] [.long (w9 <<< (((nI 8)).toInt64 &&& 63)), .ref 114] rfl rfl rfl rfl (Nat.le_of_ble_eq_true rfl) (Nat.le_of_ble_eq_true rfl) (w_m_peek _ N T L (z + i) (by rw [hgr]; exact hfr_4) (by rw [hgr]; exact hfr_3) (by rw [loop_9]; exact hT) hL9 (by omega) _ ⟨rfl, rfl⟩) ?_
            rintro _ _ ⟨rfl, rfl⟩
            show Wn _ 57 _ (243, [(3, .int (nI 0)), (2, .int (nI 0)), (1, .int (pkI T L z)), (0, .ref 114)], [.int (pkI T L (z + i)), .long (w9 <<< (((nI 8)).toInt64 &&& 63)), .ref 114], N)
            refine Wn.run (tab := tb_m_next) rfl 3 (c' := (248, [(3, .int (nI 0)), (2, .int (nI 0)), (1, .int (pkI T L z)), (0, .ref 114)], [], (mJ N 114 (vp_updL (N.2.1 114) 17 ((w9 <<< (((nI 8)).toInt64 &&& 63)) ||| ((pkI T L (z + i))).toInt64))))) (o := [shp 114 = (0, 10)]) rfl rfl ?_
            generalize hM32 : (mJ N 114 (vp_updL (N.2.1 114) 17 ((w9 <<< (((nI 8)).toInt64 &&& 63)) ||| ((pkI T L (z + i))).toInt64))) = M31
            have hk33 := fI_oJ hM32 hgr
            have hu34 := fI_oJ hM32 loop_9
            have hF35 := fr_sJ loop_10 hM32 (by decide)
            have hj36 := jc_eq hM32
            show Wn _ 57 _ (248, [(3, .int (nI 0)), (2, .int (nI 0)), (1, .int (pkI T L z)), (0, .ref 114)], [], M31)
            refine Wn.run (tab := tb_m_next) rfl 4 (c' := (if (nI 3) ≤ (M31.1 114 13) then 275 else 256, [(3, .int (nI 0)), (2, .int (nI 0)), (1, .int (pkI T L z)), (0, .ref 114)], [], M31)) (o := [shp 114 = (0, 10)]) rfl rfl ?_
            refine Wn.br (fun h5 => ?_) (fun h5 => ?_)
            · show Wn _ 57 _ (275, [(3, .int (nI 0)), (2, .int (nI 0)), (1, .int (pkI T L z)), (0, .ref 114)], [], M31)
              have h5 := (n_le rfl (fr_eq hk33 (show gr 13 = (nI i) from hfr_13)) (by omega) (by omega)).mp h5
              refine Wn.run (tab := tb_m_next) rfl 6 (c' := (285, [(3, .int (nI 0)), (2, .int (nI 0)), (1, .int (pkI T L z)), (0, .ref 114)], [], (mI M31 114 (upd (M31.1 114) 13 ((M31.1 114 13) + (nI 1)))))) (o := [shp 114 = (0, 10), shp 114 = (0, 10)]) rfl ⟨rfl, rfl⟩ ?_
              rw [show (M31.1 114 13) = (nI i) from (fr_eq hk33 (show gr 13 = (nI i) from hfr_13))]
              rw [show ((nI i) + (nI 1)) = (nI (i + 1)) from (n_add rfl rfl)]
              generalize hM38 : (mI M31 114 (upd (M31.1 114) 13 (nI (i + 1)))) = M37
              have hk39 := fI_up hM38 hk33
              have hu40 := fI_ne hM38 (by decide) hu34
              have hF41 := fr_sI hF35 hM38 (by decide)
              have hj42 := jc_oI hM38 hj36
              show Wn _ 57 _ (285, [(3, .int (nI 0)), (2, .int (nI 0)), (1, .int (pkI T L z)), (0, .ref 114)], [], M37)
              refine Wn.run (tab := tb_m_next) rfl 6 (c' := (295, [(3, .int (nI 0)), (2, .int (nI 0)), (1, .int (pkI T L z)), (0, .ref 114)], [], (mI M37 114 (upd (M37.1 114) 4 ((M37.1 114 4) + (nI 1)))))) (o := [shp 114 = (0, 10), shp 114 = (0, 10)]) rfl ⟨rfl, rfl⟩ ?_
              rw [show (M37.1 114 4) = (nI (z + i)) from (fr_eq hk39 (show (upd gr 13 (nI (i + 1))) 4 = (nI (z + i)) from ((pk_un (by decide)).trans hfr_4)))]
              rw [show ((nI (z + i)) + (nI 1)) = (nI ((z + i) + 1)) from (n_add rfl rfl)]
              generalize hM44 : (mI M37 114 (upd (M37.1 114) 4 (nI ((z + i) + 1)))) = M43
              have hk45 := fI_up hM44 hk39
              have hu46 := fI_ne hM44 (by decide) hu40
              have hF47 := fr_sI hF41 hM44 (by decide)
              have hj48 := jc_oI hM44 hj42
              show Wn _ 57 _ (295, [(3, .int (nI 0)), (2, .int (nI 0)), (1, .int (pkI T L z)), (0, .ref 114)], [], M43)
              refine Wn.run (tab := tb_m_next) rfl 1 (c' := (181, [(3, .int (nI 0)), (2, .int (nI 0)), (1, .int (pkI T L z)), (0, .ref 114)], [], M43)) (o := []) rfl trivial ?_
              have q1 : isS (T (z + i)) := by omega
              have q2 : ¬ isD (T (z + i)) := by omega
              have e8 : nLt T z (i + 1) = nLt T z i + 1 := by show nLt T z i + (if isS (T (z + i)) then 1 else 0) = _; rw [if_pos q1]
              have e9 : nDg T z (i + 1) = nDg T z i + 0 := by show nDg T z i + (if isD (T (z + i)) then 1 else 0) = _; rw [if_neg q2]
              have e6 : nVl T z (i + 1) = nVl T z i := by show (if isD (T (z + i)) then _ else _) = _; rw [if_neg q2]
              have e7 : nNm T z (i + 1) = (nNm T z i <<< ((nI 8).toInt64 &&& 63)) ||| (nI (T (z + i))).toInt64 := by show (if isS (T (z + i)) then _ else _) = _; rw [if_pos q1]
              have ea : (nI 0) = (b2 (nLt T z (i + 1) = 0)) := by rw [b2_f (by omega)]; rfl
              have key9 := ih ((L - z) - (i + 1)) (by omega) (i + 1) M43 rfl (by omega) (by rw [hk45]; exact pk_us) (by rw [hk45]; exact ((pk_un (by decide)).trans pk_us)) (by rw [hk45]; exact ((pk_un (by decide)).trans ((pk_un (by decide)).trans hfr_3))) (by rw [hk45]; exact ((pk_un (by decide)).trans ((pk_un (by decide)).trans hfr_5))) (by rw [hk45]; exact (Gx_up (Gx_up hxr (by decide)) (by decide))) (by rw [hk45]; exact ((pk_un (by decide)).trans ((pk_un (by decide)).trans hfr_12))) (fun a1 a2 => absurd a1 (by omega)) (fun a1 a2 => by rw [hj48, e7, hwrd (by omega) (by omega), pkI_y (by omega)]) (fun k9 hk9 => (jo_I hM44 hk9 (jo_I hM38 hk9 (jo_J hM32 hk9 (loop_8 k9 hk9))))) hu46 hF47 (fun k9 hk => if e : k9 = i then (by rw [e]; exact ⟨by omega, by omega⟩) else loop_x0 k9 (by omega))
              rw [← ea] at key9
              exact key9
            · show Wn _ 57 _ (256, [(3, .int (nI 0)), (2, .int (nI 0)), (1, .int (pkI T L z)), (0, .ref 114)], [], M31)
              have h5 := mt (n_le rfl (fr_eq hk33 (show gr 13 = (nI i) from hfr_13)) (by omega) (by omega)).mpr h5
              refine Wn.run (tab := tb_m_next) rfl 6 (c' := (265, [(3, .int (nI 0)), (2, .int (nI 0)), (1, .int (pkI T L z)), (0, .ref 114)], [.ref 114, .int ((nI 10) * (M31.1 114 14)), .ref 114], M31)) (o := [shp 114 = (0, 10)]) rfl rfl ?_
              rw [show (M31.1 114 14) = n9 from (fr_eq hk33 (show gr 14 = n9 from hn9))]
              refine Wn.callV (p := 114) (n := 1) (ix := 152) (ci := (10)) (fun r0 M0 => r0 = some (.int (pkI T L (z + i))) ∧ M31 = M0) [] [.int ((nI 10) * n9), .ref 114] rfl rfl rfl rfl (Nat.le_of_ble_eq_true rfl) (Nat.le_of_ble_eq_true rfl) (w_m_peek _ M31 T L (z + i) (by rw [hk33]; exact hfr_4) (by rw [hk33]; exact hfr_3) (by rw [hu34]; exact hT) hL9 (by omega) _ ⟨rfl, rfl⟩) ?_
              rintro _ _ ⟨rfl, rfl⟩
              show Wn _ 57 _ (268, [(3, .int (nI 0)), (2, .int (nI 0)), (1, .int (pkI T L z)), (0, .ref 114)], [.int (pkI T L (z + i)), .int ((nI 10) * n9), .ref 114], M31)
              refine Wn.run (tab := tb_m_next) rfl 4 (c' := (275, [(3, .int (nI 0)), (2, .int (nI 0)), (1, .int (pkI T L z)), (0, .ref 114)], [], (mI M31 114 (upd (M31.1 114) 14 ((((nI 10) * n9) + (pkI T L (z + i))) - (nI 48)))))) (o := [shp 114 = (0, 10)]) rfl rfl ?_
              generalize hM50 : (mI M31 114 (upd (M31.1 114) 14 ((((nI 10) * n9) + (pkI T L (z + i))) - (nI 48)))) = M49
              have hk51 := fI_up hM50 hk33
              have hu52 := fI_ne hM50 (by decide) hu34
              have hF53 := fr_sI hF35 hM50 (by decide)
              have hj54 := jc_oI hM50 hj36
              show Wn _ 57 _ (275, [(3, .int (nI 0)), (2, .int (nI 0)), (1, .int (pkI T L z)), (0, .ref 114)], [], M49)
              refine Wn.run (tab := tb_m_next) rfl 6 (c' := (285, [(3, .int (nI 0)), (2, .int (nI 0)), (1, .int (pkI T L z)), (0, .ref 114)], [], (mI M49 114 (upd (M49.1 114) 13 ((M49.1 114 13) + (nI 1)))))) (o := [shp 114 = (0, 10), shp 114 = (0, 10)]) rfl ⟨rfl, rfl⟩ ?_
              rw [show (M49.1 114 13) = (nI i) from (fr_eq hk51 (show (upd gr 14 ((((nI 10) * n9) + (pkI T L (z + i))) - (nI 48))) 13 = (nI i) from ((pk_un (by decide)).trans hfr_13)))]
              rw [show ((nI i) + (nI 1)) = (nI (i + 1)) from (n_add rfl rfl)]
              generalize hM56 : (mI M49 114 (upd (M49.1 114) 13 (nI (i + 1)))) = M55
              have hk57 := fI_up hM56 hk51
              have hu58 := fI_ne hM56 (by decide) hu52
              have hF59 := fr_sI hF53 hM56 (by decide)
              have hj60 := jc_oI hM56 hj54
              show Wn _ 57 _ (285, [(3, .int (nI 0)), (2, .int (nI 0)), (1, .int (pkI T L z)), (0, .ref 114)], [], M55)
              refine Wn.run (tab := tb_m_next) rfl 6 (c' := (295, [(3, .int (nI 0)), (2, .int (nI 0)), (1, .int (pkI T L z)), (0, .ref 114)], [], (mI M55 114 (upd (M55.1 114) 4 ((M55.1 114 4) + (nI 1)))))) (o := [shp 114 = (0, 10), shp 114 = (0, 10)]) rfl ⟨rfl, rfl⟩ ?_
              rw [show (M55.1 114 4) = (nI (z + i)) from (fr_eq hk57 (show (upd (upd gr 14 ((((nI 10) * n9) + (pkI T L (z + i))) - (nI 48))) 13 (nI (i + 1))) 4 = (nI (z + i)) from ((pk_un (by decide)).trans ((pk_un (by decide)).trans hfr_4))))]
              rw [show ((nI (z + i)) + (nI 1)) = (nI ((z + i) + 1)) from (n_add rfl rfl)]
              generalize hM62 : (mI M55 114 (upd (M55.1 114) 4 (nI ((z + i) + 1)))) = M61
              have hk63 := fI_up hM62 hk57
              have hu64 := fI_ne hM62 (by decide) hu58
              have hF65 := fr_sI hF59 hM62 (by decide)
              have hj66 := jc_oI hM62 hj60
              show Wn _ 57 _ (295, [(3, .int (nI 0)), (2, .int (nI 0)), (1, .int (pkI T L z)), (0, .ref 114)], [], M61)
              refine Wn.run (tab := tb_m_next) rfl 1 (c' := (181, [(3, .int (nI 0)), (2, .int (nI 0)), (1, .int (pkI T L z)), (0, .ref 114)], [], M61)) (o := []) rfl trivial ?_
              have q1 : isS (T (z + i)) := by omega
              have q2 : ¬ isD (T (z + i)) := by omega
              have e8 : nLt T z (i + 1) = nLt T z i + 1 := by show nLt T z i + (if isS (T (z + i)) then 1 else 0) = _; rw [if_pos q1]
              have e9 : nDg T z (i + 1) = nDg T z i + 0 := by show nDg T z i + (if isD (T (z + i)) then 1 else 0) = _; rw [if_neg q2]
              have e6 : nVl T z (i + 1) = nVl T z i := by show (if isD (T (z + i)) then _ else _) = _; rw [if_neg q2]
              have e7 : nNm T z (i + 1) = (nNm T z i <<< ((nI 8).toInt64 &&& 63)) ||| (nI (T (z + i))).toInt64 := by show (if isS (T (z + i)) then _ else _) = _; rw [if_pos q1]
              have ea : (nI 0) = (b2 (nLt T z (i + 1) = 0)) := by rw [b2_f (by omega)]; rfl
              have key9 := ih ((L - z) - (i + 1)) (by omega) (i + 1) M61 rfl (by omega) (by rw [hk63]; exact pk_us) (by rw [hk63]; exact ((pk_un (by decide)).trans pk_us)) (by rw [hk63]; exact ((pk_un (by decide)).trans ((pk_un (by decide)).trans ((pk_un (by decide)).trans hfr_3)))) (by rw [hk63]; exact ((pk_un (by decide)).trans ((pk_un (by decide)).trans ((pk_un (by decide)).trans hfr_5)))) (by rw [hk63]; exact (Gx_up (Gx_up (Gx_up hxr (by decide)) (by decide)) (by decide))) (by rw [hk63]; exact ((pk_un (by decide)).trans ((pk_un (by decide)).trans ((pk_un (by decide)).trans hfr_12)))) (fun a1 a2 => absurd a1 (by omega)) (fun a1 a2 => by rw [hj66, e7, hwrd (by omega) (by omega), pkI_y (by omega)]) (fun k9 hk9 => (jo_I hM62 hk9 (jo_I hM56 hk9 (jo_I hM50 hk9 (jo_J hM32 hk9 (loop_8 k9 hk9)))))) hu64 hF65 (fun k9 hk => if e : k9 = i then (by rw [e]; exact ⟨by omega, by omega⟩) else loop_x0 k9 (by omega))
              rw [← ea] at key9
              exact key9
        · show Wn _ 57 _ (205, [(3, .int (b2 (nLt T z i = 0))), (2, .int (nI 0)), (1, .int (pkI T L z)), (0, .ref 114)], [], N)
          have h2 := b2_pos h2
          refine Wn.run (tab := tb_m_next) rfl 1 (c' := (206, [(3, .int (b2 (nLt T z i = 0))), (2, .int (nI 0)), (1, .int (pkI T L z)), (0, .ref 114)], [.ref 114], N)) (o := []) rfl trivial ?_
          refine Wn.callV (p := 114) (n := 1) (ix := 152) (ci := (10)) (fun r0 M0 => r0 = some (.int (pkI T L (z + i))) ∧ N = M0) [] [] rfl rfl rfl rfl (Nat.le_of_ble_eq_true rfl) (Nat.le_of_ble_eq_true rfl) (w_m_peek _ N T L (z + i) (by rw [hgr]; exact hfr_4) (by rw [hgr]; exact hfr_3) (by rw [loop_9]; exact hT) hL9 (by omega) _ ⟨rfl, rfl⟩) ?_
          rintro _ _ ⟨rfl, rfl⟩
          show Wn _ 57 _ (209, [(3, .int (b2 (nLt T z i = 0))), (2, .int (nI 0)), (1, .int (pkI T L z)), (0, .ref 114)], [.int (pkI T L (z + i))], N)
          refine Wn.callS (n := 1) (ix := 165) (fun r0 M0 => r0 = some (.int (b2 ((z + i) < L ∧ isS (T (z + i))))) ∧ N = M0) [.int (pkI T L (z + i))] [] rfl rfl rfl (Nat.le_of_ble_eq_true rfl) (Nat.le_of_ble_eq_true rfl) (w_m_isSmallP _ T L (z + i) hTb N _ ⟨rfl, rfl⟩) ?_
          rintro _ _ ⟨rfl, rfl⟩
          show Wn _ 57 _ (212, [(3, .int (b2 (nLt T z i = 0))), (2, .int (nI 0)), (1, .int (pkI T L z)), (0, .ref 114)], [.int (b2 ((z + i) < L ∧ isS (T (z + i))))], N)
          rw [show (b2 ((z + i) < L ∧ isS (T (z + i)))) = (nI 1) from (b2_t (by omega))]
          refine Wn.run (tab := tb_m_next) rfl 2 (c' := (if ¬ (nI 1) = (nI 0) then 220 else 216, [(3, .int (b2 (nLt T z i = 0))), (2, .int (nI 0)), (1, .int (pkI T L z)), (0, .ref 114)], [], N)) (o := []) rfl trivial ?_
          rw [if_pos (show ¬ (nI 1) = (nI 0) by decide)]
          show Wn _ 57 _ (220, [(3, .int (b2 (nLt T z i = 0))), (2, .int (nI 0)), (1, .int (pkI T L z)), (0, .ref 114)], [], N)
          refine Wn.run (tab := tb_m_next) rfl 6 (c' := (if (nI 7) ≤ (N.1 114 13) then 248 else 231, [(3, .int (nI 0)), (2, .int (nI 0)), (1, .int (pkI T L z)), (0, .ref 114)], [], N)) (o := [shp 114 = (0, 10)]) rfl rfl ?_
          refine Wn.br (fun h6 => ?_) (fun h6 => ?_)
          · show Wn _ 57 _ (248, [(3, .int (nI 0)), (2, .int (nI 0)), (1, .int (pkI T L z)), (0, .ref 114)], [], N)
            have h6 := (n_le rfl (fr_eq hgr (show gr 13 = (nI i) from hfr_13)) (by omega) (by omega)).mp h6
            refine Wn.run (tab := tb_m_next) rfl 4 (c' := (if (nI 3) ≤ (N.1 114 13) then 275 else 256, [(3, .int (nI 0)), (2, .int (nI 0)), (1, .int (pkI T L z)), (0, .ref 114)], [], N)) (o := [shp 114 = (0, 10)]) rfl rfl ?_
            refine Wn.br (fun h7 => ?_) (fun h7 => ?_)
            · show Wn _ 57 _ (275, [(3, .int (nI 0)), (2, .int (nI 0)), (1, .int (pkI T L z)), (0, .ref 114)], [], N)
              have h7 := (n_le rfl (fr_eq hgr (show gr 13 = (nI i) from hfr_13)) (by omega) (by omega)).mp h7
              refine Wn.run (tab := tb_m_next) rfl 6 (c' := (285, [(3, .int (nI 0)), (2, .int (nI 0)), (1, .int (pkI T L z)), (0, .ref 114)], [], (mI N 114 (upd (N.1 114) 13 ((N.1 114 13) + (nI 1)))))) (o := [shp 114 = (0, 10), shp 114 = (0, 10)]) rfl ⟨rfl, rfl⟩ ?_
              rw [show (N.1 114 13) = (nI i) from (fr_eq hgr (show gr 13 = (nI i) from hfr_13))]
              rw [show ((nI i) + (nI 1)) = (nI (i + 1)) from (n_add rfl rfl)]
              generalize hM68 : (mI N 114 (upd (N.1 114) 13 (nI (i + 1)))) = M67
              have hk69 := fI_up hM68 hgr
              have hu70 := fI_ne hM68 (by decide) loop_9
              have hF71 := fr_sI loop_10 hM68 (by decide)
              have hj72 := jc_oI hM68 hw9
              show Wn _ 57 _ (285, [(3, .int (nI 0)), (2, .int (nI 0)), (1, .int (pkI T L z)), (0, .ref 114)], [], M67)
              refine Wn.run (tab := tb_m_next) rfl 6 (c' := (295, [(3, .int (nI 0)), (2, .int (nI 0)), (1, .int (pkI T L z)), (0, .ref 114)], [], (mI M67 114 (upd (M67.1 114) 4 ((M67.1 114 4) + (nI 1)))))) (o := [shp 114 = (0, 10), shp 114 = (0, 10)]) rfl ⟨rfl, rfl⟩ ?_
              rw [show (M67.1 114 4) = (nI (z + i)) from (fr_eq hk69 (show (upd gr 13 (nI (i + 1))) 4 = (nI (z + i)) from ((pk_un (by decide)).trans hfr_4)))]
              rw [show ((nI (z + i)) + (nI 1)) = (nI ((z + i) + 1)) from (n_add rfl rfl)]
              generalize hM74 : (mI M67 114 (upd (M67.1 114) 4 (nI ((z + i) + 1)))) = M73
              have hk75 := fI_up hM74 hk69
              have hu76 := fI_ne hM74 (by decide) hu70
              have hF77 := fr_sI hF71 hM74 (by decide)
              have hj78 := jc_oI hM74 hj72
              show Wn _ 57 _ (295, [(3, .int (nI 0)), (2, .int (nI 0)), (1, .int (pkI T L z)), (0, .ref 114)], [], M73)
              refine Wn.run (tab := tb_m_next) rfl 1 (c' := (181, [(3, .int (nI 0)), (2, .int (nI 0)), (1, .int (pkI T L z)), (0, .ref 114)], [], M73)) (o := []) rfl trivial ?_
              have q1 : isS (T (z + i)) := by omega
              have q2 : ¬ isD (T (z + i)) := by omega
              have e8 : nLt T z (i + 1) = nLt T z i + 1 := by show nLt T z i + (if isS (T (z + i)) then 1 else 0) = _; rw [if_pos q1]
              have e9 : nDg T z (i + 1) = nDg T z i + 0 := by show nDg T z i + (if isD (T (z + i)) then 1 else 0) = _; rw [if_neg q2]
              have e6 : nVl T z (i + 1) = nVl T z i := by show (if isD (T (z + i)) then _ else _) = _; rw [if_neg q2]
              have e7 : nNm T z (i + 1) = (nNm T z i <<< ((nI 8).toInt64 &&& 63)) ||| (nI (T (z + i))).toInt64 := by show (if isS (T (z + i)) then _ else _) = _; rw [if_pos q1]
              have ea : (nI 0) = (b2 (nLt T z (i + 1) = 0)) := by rw [b2_f (by omega)]; rfl
              have key9 := ih ((L - z) - (i + 1)) (by omega) (i + 1) M73 rfl (by omega) (by rw [hk75]; exact pk_us) (by rw [hk75]; exact ((pk_un (by decide)).trans pk_us)) (by rw [hk75]; exact ((pk_un (by decide)).trans ((pk_un (by decide)).trans hfr_3))) (by rw [hk75]; exact ((pk_un (by decide)).trans ((pk_un (by decide)).trans hfr_5))) (by rw [hk75]; exact (Gx_up (Gx_up hxr (by decide)) (by decide))) (by rw [hk75]; exact ((pk_un (by decide)).trans ((pk_un (by decide)).trans hfr_12))) (fun a1 a2 => absurd a1 (by omega)) (fun a1 a2 => absurd a2 (by omega)) (fun k9 hk9 => (jo_I hM74 hk9 (jo_I hM68 hk9 (loop_8 k9 hk9)))) hu76 hF77 (fun k9 hk => if e : k9 = i then (by rw [e]; exact ⟨by omega, by omega⟩) else loop_x0 k9 (by omega))
              rw [← ea] at key9
              exact key9
            · show Wn _ 57 _ (256, [(3, .int (nI 0)), (2, .int (nI 0)), (1, .int (pkI T L z)), (0, .ref 114)], [], N)
              have h7 := mt (n_le rfl (fr_eq hgr (show gr 13 = (nI i) from hfr_13)) (by omega) (by omega)).mpr h7
              refine Wn.run (tab := tb_m_next) rfl 6 (c' := (265, [(3, .int (nI 0)), (2, .int (nI 0)), (1, .int (pkI T L z)), (0, .ref 114)], [.ref 114, .int ((nI 10) * (N.1 114 14)), .ref 114], N)) (o := [shp 114 = (0, 10)]) rfl rfl ?_
              rw [show (N.1 114 14) = n9 from (fr_eq hgr (show gr 14 = n9 from hn9))]
              refine Wn.callV (p := 114) (n := 1) (ix := 152) (ci := (10)) (fun r0 M0 => r0 = some (.int (pkI T L (z + i))) ∧ N = M0) [] [.int ((nI 10) * n9), .ref 114] rfl rfl rfl rfl (Nat.le_of_ble_eq_true rfl) (Nat.le_of_ble_eq_true rfl) (w_m_peek _ N T L (z + i) (by rw [hgr]; exact hfr_4) (by rw [hgr]; exact hfr_3) (by rw [loop_9]; exact hT) hL9 (by omega) _ ⟨rfl, rfl⟩) ?_
              rintro _ _ ⟨rfl, rfl⟩
              show Wn _ 57 _ (268, [(3, .int (nI 0)), (2, .int (nI 0)), (1, .int (pkI T L z)), (0, .ref 114)], [.int (pkI T L (z + i)), .int ((nI 10) * n9), .ref 114], N)
              refine Wn.run (tab := tb_m_next) rfl 4 (c' := (275, [(3, .int (nI 0)), (2, .int (nI 0)), (1, .int (pkI T L z)), (0, .ref 114)], [], (mI N 114 (upd (N.1 114) 14 ((((nI 10) * n9) + (pkI T L (z + i))) - (nI 48)))))) (o := [shp 114 = (0, 10)]) rfl rfl ?_
              generalize hM80 : (mI N 114 (upd (N.1 114) 14 ((((nI 10) * n9) + (pkI T L (z + i))) - (nI 48)))) = M79
              have hk81 := fI_up hM80 hgr
              have hu82 := fI_ne hM80 (by decide) loop_9
              have hF83 := fr_sI loop_10 hM80 (by decide)
              have hj84 := jc_oI hM80 hw9
              show Wn _ 57 _ (275, [(3, .int (nI 0)), (2, .int (nI 0)), (1, .int (pkI T L z)), (0, .ref 114)], [], M79)
              refine Wn.run (tab := tb_m_next) rfl 6 (c' := (285, [(3, .int (nI 0)), (2, .int (nI 0)), (1, .int (pkI T L z)), (0, .ref 114)], [], (mI M79 114 (upd (M79.1 114) 13 ((M79.1 114 13) + (nI 1)))))) (o := [shp 114 = (0, 10), shp 114 = (0, 10)]) rfl ⟨rfl, rfl⟩ ?_
              rw [show (M79.1 114 13) = (nI i) from (fr_eq hk81 (show (upd gr 14 ((((nI 10) * n9) + (pkI T L (z + i))) - (nI 48))) 13 = (nI i) from ((pk_un (by decide)).trans hfr_13)))]
              rw [show ((nI i) + (nI 1)) = (nI (i + 1)) from (n_add rfl rfl)]
              generalize hM86 : (mI M79 114 (upd (M79.1 114) 13 (nI (i + 1)))) = M85
              have hk87 := fI_up hM86 hk81
              have hu88 := fI_ne hM86 (by decide) hu82
              have hF89 := fr_sI hF83 hM86 (by decide)
              have hj90 := jc_oI hM86 hj84
              show Wn _ 57 _ (285, [(3, .int (nI 0)), (2, .int (nI 0)), (1, .int (pkI T L z)), (0, .ref 114)], [], M85)
              refine Wn.run (tab := tb_m_next) rfl 6 (c' := (295, [(3, .int (nI 0)), (2, .int (nI 0)), (1, .int (pkI T L z)), (0, .ref 114)], [], (mI M85 114 (upd (M85.1 114) 4 ((M85.1 114 4) + (nI 1)))))) (o := [shp 114 = (0, 10), shp 114 = (0, 10)]) rfl ⟨rfl, rfl⟩ ?_
              rw [show (M85.1 114 4) = (nI (z + i)) from (fr_eq hk87 (show (upd (upd gr 14 ((((nI 10) * n9) + (pkI T L (z + i))) - (nI 48))) 13 (nI (i + 1))) 4 = (nI (z + i)) from ((pk_un (by decide)).trans ((pk_un (by decide)).trans hfr_4))))]
              rw [show ((nI (z + i)) + (nI 1)) = (nI ((z + i) + 1)) from (n_add rfl rfl)]
              generalize hM92 : (mI M85 114 (upd (M85.1 114) 4 (nI ((z + i) + 1)))) = M91
              have hk93 := fI_up hM92 hk87
              have hu94 := fI_ne hM92 (by decide) hu88
              have hF95 := fr_sI hF89 hM92 (by decide)
              have hj96 := jc_oI hM92 hj90
              show Wn _ 57 _ (295, [(3, .int (nI 0)), (2, .int (nI 0)), (1, .int (pkI T L z)), (0, .ref 114)], [], M91)
              refine Wn.run (tab := tb_m_next) rfl 1 (c' := (181, [(3, .int (nI 0)), (2, .int (nI 0)), (1, .int (pkI T L z)), (0, .ref 114)], [], M91)) (o := []) rfl trivial ?_
              have q1 : isS (T (z + i)) := by omega
              have q2 : ¬ isD (T (z + i)) := by omega
              have e8 : nLt T z (i + 1) = nLt T z i + 1 := by show nLt T z i + (if isS (T (z + i)) then 1 else 0) = _; rw [if_pos q1]
              have e9 : nDg T z (i + 1) = nDg T z i + 0 := by show nDg T z i + (if isD (T (z + i)) then 1 else 0) = _; rw [if_neg q2]
              have e6 : nVl T z (i + 1) = nVl T z i := by show (if isD (T (z + i)) then _ else _) = _; rw [if_neg q2]
              have e7 : nNm T z (i + 1) = (nNm T z i <<< ((nI 8).toInt64 &&& 63)) ||| (nI (T (z + i))).toInt64 := by show (if isS (T (z + i)) then _ else _) = _; rw [if_pos q1]
              have ea : (nI 0) = (b2 (nLt T z (i + 1) = 0)) := by rw [b2_f (by omega)]; rfl
              have key9 := ih ((L - z) - (i + 1)) (by omega) (i + 1) M91 rfl (by omega) (by rw [hk93]; exact pk_us) (by rw [hk93]; exact ((pk_un (by decide)).trans pk_us)) (by rw [hk93]; exact ((pk_un (by decide)).trans ((pk_un (by decide)).trans ((pk_un (by decide)).trans hfr_3)))) (by rw [hk93]; exact ((pk_un (by decide)).trans ((pk_un (by decide)).trans ((pk_un (by decide)).trans hfr_5)))) (by rw [hk93]; exact (Gx_up (Gx_up (Gx_up hxr (by decide)) (by decide)) (by decide))) (by rw [hk93]; exact ((pk_un (by decide)).trans ((pk_un (by decide)).trans ((pk_un (by decide)).trans hfr_12)))) (fun a1 a2 => absurd a1 (by omega)) (fun a1 a2 => absurd a2 (by omega)) (fun k9 hk9 => (jo_I hM92 hk9 (jo_I hM86 hk9 (jo_I hM80 hk9 (loop_8 k9 hk9))))) hu94 hF95 (fun k9 hk => if e : k9 = i then (by rw [e]; exact ⟨by omega, by omega⟩) else loop_x0 k9 (by omega))
              rw [← ea] at key9
              exact key9
          · show Wn _ 57 _ (231, [(3, .int (nI 0)), (2, .int (nI 0)), (1, .int (pkI T L z)), (0, .ref 114)], [], N)
            have h6 := mt (n_le rfl (fr_eq hgr (show gr 13 = (nI i) from hfr_13)) (by omega) (by omega)).mpr h6
            refine Wn.run (tab := tb_m_next) rfl 6 (c' := (240, [(3, .int (nI 0)), (2, .int (nI 0)), (1, .int (pkI T L z)), (0, .ref 114)], [.ref 114, .long ((N.2.1 114 17) <<< (((nI 8)).toInt64 &&& 63)), .ref 114], N)) (o := [shp 114 = (0, 10)]) rfl rfl ?_
            rw [show (N.2.1 114 17) = w9 from hw9]
            refine Wn.callV (p := 114) (n := 1) (ix := 152) (ci := (10)) (fun r0 M0 => r0 = some (.int (pkI T L (z + i))) ∧ N = M0) [] [.long (w9 <<< (((nI 8)).toInt64 &&& 63)), .ref 114] rfl rfl rfl rfl (Nat.le_of_ble_eq_true rfl) (Nat.le_of_ble_eq_true rfl) (w_m_peek _ N T L (z + i) (by rw [hgr]; exact hfr_4) (by rw [hgr]; exact hfr_3) (by rw [loop_9]; exact hT) hL9 (by omega) _ ⟨rfl, rfl⟩) ?_
            rintro _ _ ⟨rfl, rfl⟩
            show Wn _ 57 _ (243, [(3, .int (nI 0)), (2, .int (nI 0)), (1, .int (pkI T L z)), (0, .ref 114)], [.int (pkI T L (z + i)), .long (w9 <<< (((nI 8)).toInt64 &&& 63)), .ref 114], N)
            refine Wn.run (tab := tb_m_next) rfl 3 (c' := (248, [(3, .int (nI 0)), (2, .int (nI 0)), (1, .int (pkI T L z)), (0, .ref 114)], [], (mJ N 114 (vp_updL (N.2.1 114) 17 ((w9 <<< (((nI 8)).toInt64 &&& 63)) ||| ((pkI T L (z + i))).toInt64))))) (o := [shp 114 = (0, 10)]) rfl rfl ?_
            generalize hM98 : (mJ N 114 (vp_updL (N.2.1 114) 17 ((w9 <<< (((nI 8)).toInt64 &&& 63)) ||| ((pkI T L (z + i))).toInt64))) = M97
            have hk99 := fI_oJ hM98 hgr
            have hu100 := fI_oJ hM98 loop_9
            have hF101 := fr_sJ loop_10 hM98 (by decide)
            have hj102 := jc_eq hM98
            show Wn _ 57 _ (248, [(3, .int (nI 0)), (2, .int (nI 0)), (1, .int (pkI T L z)), (0, .ref 114)], [], M97)
            refine Wn.run (tab := tb_m_next) rfl 4 (c' := (if (nI 3) ≤ (M97.1 114 13) then 275 else 256, [(3, .int (nI 0)), (2, .int (nI 0)), (1, .int (pkI T L z)), (0, .ref 114)], [], M97)) (o := [shp 114 = (0, 10)]) rfl rfl ?_
            refine Wn.br (fun h8 => ?_) (fun h8 => ?_)
            · show Wn _ 57 _ (275, [(3, .int (nI 0)), (2, .int (nI 0)), (1, .int (pkI T L z)), (0, .ref 114)], [], M97)
              have h8 := (n_le rfl (fr_eq hk99 (show gr 13 = (nI i) from hfr_13)) (by omega) (by omega)).mp h8
              refine Wn.run (tab := tb_m_next) rfl 6 (c' := (285, [(3, .int (nI 0)), (2, .int (nI 0)), (1, .int (pkI T L z)), (0, .ref 114)], [], (mI M97 114 (upd (M97.1 114) 13 ((M97.1 114 13) + (nI 1)))))) (o := [shp 114 = (0, 10), shp 114 = (0, 10)]) rfl ⟨rfl, rfl⟩ ?_
              rw [show (M97.1 114 13) = (nI i) from (fr_eq hk99 (show gr 13 = (nI i) from hfr_13))]
              rw [show ((nI i) + (nI 1)) = (nI (i + 1)) from (n_add rfl rfl)]
              generalize hM104 : (mI M97 114 (upd (M97.1 114) 13 (nI (i + 1)))) = M103
              have hk105 := fI_up hM104 hk99
              have hu106 := fI_ne hM104 (by decide) hu100
              have hF107 := fr_sI hF101 hM104 (by decide)
              have hj108 := jc_oI hM104 hj102
              show Wn _ 57 _ (285, [(3, .int (nI 0)), (2, .int (nI 0)), (1, .int (pkI T L z)), (0, .ref 114)], [], M103)
              refine Wn.run (tab := tb_m_next) rfl 6 (c' := (295, [(3, .int (nI 0)), (2, .int (nI 0)), (1, .int (pkI T L z)), (0, .ref 114)], [], (mI M103 114 (upd (M103.1 114) 4 ((M103.1 114 4) + (nI 1)))))) (o := [shp 114 = (0, 10), shp 114 = (0, 10)]) rfl ⟨rfl, rfl⟩ ?_
              rw [show (M103.1 114 4) = (nI (z + i)) from (fr_eq hk105 (show (upd gr 13 (nI (i + 1))) 4 = (nI (z + i)) from ((pk_un (by decide)).trans hfr_4)))]
              rw [show ((nI (z + i)) + (nI 1)) = (nI ((z + i) + 1)) from (n_add rfl rfl)]
              generalize hM110 : (mI M103 114 (upd (M103.1 114) 4 (nI ((z + i) + 1)))) = M109
              have hk111 := fI_up hM110 hk105
              have hu112 := fI_ne hM110 (by decide) hu106
              have hF113 := fr_sI hF107 hM110 (by decide)
              have hj114 := jc_oI hM110 hj108
              show Wn _ 57 _ (295, [(3, .int (nI 0)), (2, .int (nI 0)), (1, .int (pkI T L z)), (0, .ref 114)], [], M109)
              refine Wn.run (tab := tb_m_next) rfl 1 (c' := (181, [(3, .int (nI 0)), (2, .int (nI 0)), (1, .int (pkI T L z)), (0, .ref 114)], [], M109)) (o := []) rfl trivial ?_
              have q1 : isS (T (z + i)) := by omega
              have q2 : ¬ isD (T (z + i)) := by omega
              have e8 : nLt T z (i + 1) = nLt T z i + 1 := by show nLt T z i + (if isS (T (z + i)) then 1 else 0) = _; rw [if_pos q1]
              have e9 : nDg T z (i + 1) = nDg T z i + 0 := by show nDg T z i + (if isD (T (z + i)) then 1 else 0) = _; rw [if_neg q2]
              have e6 : nVl T z (i + 1) = nVl T z i := by show (if isD (T (z + i)) then _ else _) = _; rw [if_neg q2]
              have e7 : nNm T z (i + 1) = (nNm T z i <<< ((nI 8).toInt64 &&& 63)) ||| (nI (T (z + i))).toInt64 := by show (if isS (T (z + i)) then _ else _) = _; rw [if_pos q1]
              have ea : (nI 0) = (b2 (nLt T z (i + 1) = 0)) := by rw [b2_f (by omega)]; rfl
              have key9 := ih ((L - z) - (i + 1)) (by omega) (i + 1) M109 rfl (by omega) (by rw [hk111]; exact pk_us) (by rw [hk111]; exact ((pk_un (by decide)).trans pk_us)) (by rw [hk111]; exact ((pk_un (by decide)).trans ((pk_un (by decide)).trans hfr_3))) (by rw [hk111]; exact ((pk_un (by decide)).trans ((pk_un (by decide)).trans hfr_5))) (by rw [hk111]; exact (Gx_up (Gx_up hxr (by decide)) (by decide))) (by rw [hk111]; exact ((pk_un (by decide)).trans ((pk_un (by decide)).trans hfr_12))) (fun a1 a2 => absurd a1 (by omega)) (fun a1 a2 => by rw [hj114, e7, hwrd (by omega) (by omega), pkI_y (by omega)]) (fun k9 hk9 => (jo_I hM110 hk9 (jo_I hM104 hk9 (jo_J hM98 hk9 (loop_8 k9 hk9))))) hu112 hF113 (fun k9 hk => if e : k9 = i then (by rw [e]; exact ⟨by omega, by omega⟩) else loop_x0 k9 (by omega))
              rw [← ea] at key9
              exact key9
            · show Wn _ 57 _ (256, [(3, .int (nI 0)), (2, .int (nI 0)), (1, .int (pkI T L z)), (0, .ref 114)], [], M97)
              have h8 := mt (n_le rfl (fr_eq hk99 (show gr 13 = (nI i) from hfr_13)) (by omega) (by omega)).mpr h8
              refine Wn.run (tab := tb_m_next) rfl 6 (c' := (265, [(3, .int (nI 0)), (2, .int (nI 0)), (1, .int (pkI T L z)), (0, .ref 114)], [.ref 114, .int ((nI 10) * (M97.1 114 14)), .ref 114], M97)) (o := [shp 114 = (0, 10)]) rfl rfl ?_
              rw [show (M97.1 114 14) = n9 from (fr_eq hk99 (show gr 14 = n9 from hn9))]
              refine Wn.callV (p := 114) (n := 1) (ix := 152) (ci := (10)) (fun r0 M0 => r0 = some (.int (pkI T L (z + i))) ∧ M97 = M0) [] [.int ((nI 10) * n9), .ref 114] rfl rfl rfl rfl (Nat.le_of_ble_eq_true rfl) (Nat.le_of_ble_eq_true rfl) (w_m_peek _ M97 T L (z + i) (by rw [hk99]; exact hfr_4) (by rw [hk99]; exact hfr_3) (by rw [hu100]; exact hT) hL9 (by omega) _ ⟨rfl, rfl⟩) ?_
              rintro _ _ ⟨rfl, rfl⟩
              show Wn _ 57 _ (268, [(3, .int (nI 0)), (2, .int (nI 0)), (1, .int (pkI T L z)), (0, .ref 114)], [.int (pkI T L (z + i)), .int ((nI 10) * n9), .ref 114], M97)
              refine Wn.run (tab := tb_m_next) rfl 4 (c' := (275, [(3, .int (nI 0)), (2, .int (nI 0)), (1, .int (pkI T L z)), (0, .ref 114)], [], (mI M97 114 (upd (M97.1 114) 14 ((((nI 10) * n9) + (pkI T L (z + i))) - (nI 48)))))) (o := [shp 114 = (0, 10)]) rfl rfl ?_
              generalize hM116 : (mI M97 114 (upd (M97.1 114) 14 ((((nI 10) * n9) + (pkI T L (z + i))) - (nI 48)))) = M115
              have hk117 := fI_up hM116 hk99
              have hu118 := fI_ne hM116 (by decide) hu100
              have hF119 := fr_sI hF101 hM116 (by decide)
              have hj120 := jc_oI hM116 hj102
              show Wn _ 57 _ (275, [(3, .int (nI 0)), (2, .int (nI 0)), (1, .int (pkI T L z)), (0, .ref 114)], [], M115)
              refine Wn.run (tab := tb_m_next) rfl 6 (c' := (285, [(3, .int (nI 0)), (2, .int (nI 0)), (1, .int (pkI T L z)), (0, .ref 114)], [], (mI M115 114 (upd (M115.1 114) 13 ((M115.1 114 13) + (nI 1)))))) (o := [shp 114 = (0, 10), shp 114 = (0, 10)]) rfl ⟨rfl, rfl⟩ ?_
              rw [show (M115.1 114 13) = (nI i) from (fr_eq hk117 (show (upd gr 14 ((((nI 10) * n9) + (pkI T L (z + i))) - (nI 48))) 13 = (nI i) from ((pk_un (by decide)).trans hfr_13)))]
              rw [show ((nI i) + (nI 1)) = (nI (i + 1)) from (n_add rfl rfl)]
              generalize hM122 : (mI M115 114 (upd (M115.1 114) 13 (nI (i + 1)))) = M121
              have hk123 := fI_up hM122 hk117
              have hu124 := fI_ne hM122 (by decide) hu118
              have hF125 := fr_sI hF119 hM122 (by decide)
              have hj126 := jc_oI hM122 hj120
              show Wn _ 57 _ (285, [(3, .int (nI 0)), (2, .int (nI 0)), (1, .int (pkI T L z)), (0, .ref 114)], [], M121)
              refine Wn.run (tab := tb_m_next) rfl 6 (c' := (295, [(3, .int (nI 0)), (2, .int (nI 0)), (1, .int (pkI T L z)), (0, .ref 114)], [], (mI M121 114 (upd (M121.1 114) 4 ((M121.1 114 4) + (nI 1)))))) (o := [shp 114 = (0, 10), shp 114 = (0, 10)]) rfl ⟨rfl, rfl⟩ ?_
              rw [show (M121.1 114 4) = (nI (z + i)) from (fr_eq hk123 (show (upd (upd gr 14 ((((nI 10) * n9) + (pkI T L (z + i))) - (nI 48))) 13 (nI (i + 1))) 4 = (nI (z + i)) from ((pk_un (by decide)).trans ((pk_un (by decide)).trans hfr_4))))]
              rw [show ((nI (z + i)) + (nI 1)) = (nI ((z + i) + 1)) from (n_add rfl rfl)]
              generalize hM128 : (mI M121 114 (upd (M121.1 114) 4 (nI ((z + i) + 1)))) = M127
              have hk129 := fI_up hM128 hk123
              have hu130 := fI_ne hM128 (by decide) hu124
              have hF131 := fr_sI hF125 hM128 (by decide)
              have hj132 := jc_oI hM128 hj126
              show Wn _ 57 _ (295, [(3, .int (nI 0)), (2, .int (nI 0)), (1, .int (pkI T L z)), (0, .ref 114)], [], M127)
              refine Wn.run (tab := tb_m_next) rfl 1 (c' := (181, [(3, .int (nI 0)), (2, .int (nI 0)), (1, .int (pkI T L z)), (0, .ref 114)], [], M127)) (o := []) rfl trivial ?_
              have q1 : isS (T (z + i)) := by omega
              have q2 : ¬ isD (T (z + i)) := by omega
              have e8 : nLt T z (i + 1) = nLt T z i + 1 := by show nLt T z i + (if isS (T (z + i)) then 1 else 0) = _; rw [if_pos q1]
              have e9 : nDg T z (i + 1) = nDg T z i + 0 := by show nDg T z i + (if isD (T (z + i)) then 1 else 0) = _; rw [if_neg q2]
              have e6 : nVl T z (i + 1) = nVl T z i := by show (if isD (T (z + i)) then _ else _) = _; rw [if_neg q2]
              have e7 : nNm T z (i + 1) = (nNm T z i <<< ((nI 8).toInt64 &&& 63)) ||| (nI (T (z + i))).toInt64 := by show (if isS (T (z + i)) then _ else _) = _; rw [if_pos q1]
              have ea : (nI 0) = (b2 (nLt T z (i + 1) = 0)) := by rw [b2_f (by omega)]; rfl
              have key9 := ih ((L - z) - (i + 1)) (by omega) (i + 1) M127 rfl (by omega) (by rw [hk129]; exact pk_us) (by rw [hk129]; exact ((pk_un (by decide)).trans pk_us)) (by rw [hk129]; exact ((pk_un (by decide)).trans ((pk_un (by decide)).trans ((pk_un (by decide)).trans hfr_3)))) (by rw [hk129]; exact ((pk_un (by decide)).trans ((pk_un (by decide)).trans ((pk_un (by decide)).trans hfr_5)))) (by rw [hk129]; exact (Gx_up (Gx_up (Gx_up hxr (by decide)) (by decide)) (by decide))) (by rw [hk129]; exact ((pk_un (by decide)).trans ((pk_un (by decide)).trans ((pk_un (by decide)).trans hfr_12)))) (fun a1 a2 => absurd a1 (by omega)) (fun a1 a2 => by rw [hj132, e7, hwrd (by omega) (by omega), pkI_y (by omega)]) (fun k9 hk9 => (jo_I hM128 hk9 (jo_I hM122 hk9 (jo_I hM116 hk9 (jo_J hM98 hk9 (loop_8 k9 hk9)))))) hu130 hF131 (fun k9 hk => if e : k9 = i then (by rw [e]; exact ⟨by omega, by omega⟩) else loop_x0 k9 (by omega))
              rw [← ea] at key9
              exact key9
      · show Wn _ 57 _ (191, [(3, .int (b2 (nLt T z i = 0))), (2, .int (nI 0)), (1, .int (pkI T L z)), (0, .ref 114)], [], N)
        have h1 := b2_nneg h1
        refine Wn.run (tab := tb_m_next) rfl 1 (c' := (192, [(3, .int (b2 (nLt T z i = 0))), (2, .int (nI 0)), (1, .int (pkI T L z)), (0, .ref 114)], [.ref 114], N)) (o := []) rfl trivial ?_
        refine Wn.callV (p := 114) (n := 1) (ix := 152) (ci := (10)) (fun r0 M0 => r0 = some (.int (pkI T L (z + i))) ∧ N = M0) [] [] rfl rfl rfl rfl (Nat.le_of_ble_eq_true rfl) (Nat.le_of_ble_eq_true rfl) (w_m_peek _ N T L (z + i) (by rw [hgr]; exact hfr_4) (by rw [hgr]; exact hfr_3) (by rw [loop_9]; exact hT) hL9 (by omega) _ ⟨rfl, rfl⟩) ?_
        rintro _ _ ⟨rfl, rfl⟩
        show Wn _ 57 _ (195, [(3, .int (b2 (nLt T z i = 0))), (2, .int (nI 0)), (1, .int (pkI T L z)), (0, .ref 114)], [.int (pkI T L (z + i))], N)
        refine Wn.callS (n := 1) (ix := 169) (fun r0 M0 => r0 = some (.int (b2 ((z + i) < L ∧ isD (T (z + i))))) ∧ N = M0) [.int (pkI T L (z + i))] [] rfl rfl rfl (Nat.le_of_ble_eq_true rfl) (Nat.le_of_ble_eq_true rfl) (w_m_isDigitP _ T L (z + i) hTb N _ ⟨rfl, rfl⟩) ?_
        rintro _ _ ⟨rfl, rfl⟩
        show Wn _ 57 _ (198, [(3, .int (b2 (nLt T z i = 0))), (2, .int (nI 0)), (1, .int (pkI T L z)), (0, .ref 114)], [.int (b2 ((z + i) < L ∧ isD (T (z + i))))], N)
        refine Wn.run (tab := tb_m_next) rfl 1 (c' := (if (b2 ((z + i) < L ∧ isD (T (z + i)))) = 0 then 298 else 201, [(3, .int (b2 (nLt T z i = 0))), (2, .int (nI 0)), (1, .int (pkI T L z)), (0, .ref 114)], [], N)) (o := []) rfl trivial ?_
        refine Wn.br (fun h9 => ?_) (fun h9 => ?_)
        · show Wn _ 57 _ (298, [(3, .int (b2 (nLt T z i = 0))), (2, .int (nI 0)), (1, .int (pkI T L z)), (0, .ref 114)], [], N)
          have h9 := b2_neg h9
          refine Wn.run (tab := tb_m_next) rfl 3 (c' := (if (b2 (nLt T z i = 0)) = 0 then 320 else 303, [(3, .int (b2 (nLt T z i = 0))), (2, .int (nI 0)), (1, .int (pkI T L z)), (0, .ref 114)], [.ref 114], N)) (o := []) rfl trivial ?_
          refine Wn.br (fun h10 => ?_) (fun h10 => ?_)
          · show Wn _ 57 _ (320, [(3, .int (b2 (nLt T z i = 0))), (2, .int (nI 0)), (1, .int (pkI T L z)), (0, .ref 114)], [.ref 114], N)
            have h10 := b2_neg h10
            refine Wn.run (tab := tb_m_next) rfl 3 (c' := (336, [(3, .int (b2 (nLt T z i = 0))), (2, .int (nI 0)), (1, .int (pkI T L z)), (0, .ref 114)], [], (mI N 114 (upd (N.1 114) 11 (nI 4))))) (o := [shp 114 = (0, 10)]) rfl rfl ?_
            generalize hM134 : (mI N 114 (upd (N.1 114) 11 (nI 4))) = M133
            have hk135 := fI_up hM134 hgr
            have hu136 := fI_ne hM134 (by decide) loop_9
            have hF137 := fr_sI loop_10 hM134 (by decide)
            have hj138 := jc_oI hM134 hw9
            show Wn _ 57 _ (336, [(3, .int (b2 (nLt T z i = 0))), (2, .int (nI 0)), (1, .int (pkI T L z)), (0, .ref 114)], [], M133)
            have er : tRl T L p = i := by unfold tRl; rw [sk9]; exact rl_eq loop_x0 (by unfold isW; omega)
            have tc := tKd_cases (mo := mo) (p := p) hTb
            rw [er, sk9] at tc
            have ld9 := nLD i loop_x0
            have i1 : ¬ i = 0 := by intro h; rw [h, Nat.add_zero] at h9; exact h9 hfst
            have ps := nDg_pos hfst.2 i i1
            have e2 : tKd T L mo p = 1 := by omega
            have e4 : tCd (tKd T L mo p) = 4 := by unfold tCd; rw [e2]; rfl
            have e3 : tAt T L mo p = z := by unfold tAt; rw [sk9]; exact if_pos (by omega)
            refine Wn.vret rfl ⟨rfl, ⟨by rw [hk135]; exact ((pk_un (by decide)).trans hfr_3), by rw [hk135]; exact ((pk_un (by decide)).trans hfr_5), by rw [hk135, e3]; exact ((pk_un (by decide)).trans hfr_12), by rw [hk135, e4]; exact pk_us, fun q1 q2 => ?_, fun q1 => ?_, fun q1 => ?_, fun q1 => ?_, by rw [hu136]; exact hT, hL9, hm9, hpL⟩, by rw [hk135]; exact (Gx_up hxr (by decide)), fun k9 hk9 => ?_, hF137⟩
            · exact (by rw [hk135, show tNx T L p = z + i from by unfold tNx; rw [er, if_neg i1, sk9]]; exact ((pk_un (by decide)).trans hfr_4))
            · exact absurd q1 (by omega)
            · exact absurd q1 (by omega)
            · exact absurd q1 (by omega)
            · exact (by rw [hj]; exact (jo_I hM134 hk9 (loop_8 k9 hk9)))
          · show Wn _ 57 _ (303, [(3, .int (b2 (nLt T z i = 0))), (2, .int (nI 0)), (1, .int (pkI T L z)), (0, .ref 114)], [.ref 114], N)
            have h10 := b2_pos h10
            refine Wn.run (tab := tb_m_next) rfl 4 (c' := (if (nI 0) = 0 then 316 else 311, [(3, .int (b2 (nLt T z i = 0))), (2, .int (nI 0)), (1, .int (pkI T L z)), (0, .ref 114)], [.int (N.1 114 13), .ref 114], N)) (o := [shp 114 = (0, 10)]) rfl rfl ?_
            rw [if_pos (show (nI 0) = 0 by decide)]
            show Wn _ 57 _ (316, [(3, .int (b2 (nLt T z i = 0))), (2, .int (nI 0)), (1, .int (pkI T L z)), (0, .ref 114)], [.int (N.1 114 13), .ref 114], N)
            rw [show (N.1 114 13) = (nI i) from (fr_eq hgr (show gr 13 = (nI i) from hfr_13))]
            refine Wn.run (tab := tb_m_next) rfl 2 (c' := (if (nI i) ≤ (nI 3) then 324 else 320, [(3, .int (b2 (nLt T z i = 0))), (2, .int (nI 0)), (1, .int (pkI T L z)), (0, .ref 114)], [.ref 114], N)) (o := []) rfl trivial ?_
            refine Wn.br (fun h11 => ?_) (fun h11 => ?_)
            · show Wn _ 57 _ (324, [(3, .int (b2 (nLt T z i = 0))), (2, .int (nI 0)), (1, .int (pkI T L z)), (0, .ref 114)], [.ref 114], N)
              have h11 := (n_le rfl rfl (by omega) (by omega)).mp h11
              refine Wn.run (tab := tb_m_next) rfl 2 (c' := (if (nI 0) = 0 then 332 else 328, [(3, .int (b2 (nLt T z i = 0))), (2, .int (nI 0)), (1, .int (pkI T L z)), (0, .ref 114)], [.ref 114], N)) (o := []) rfl trivial ?_
              rw [if_pos (show (nI 0) = 0 by decide)]
              show Wn _ 57 _ (332, [(3, .int (b2 (nLt T z i = 0))), (2, .int (nI 0)), (1, .int (pkI T L z)), (0, .ref 114)], [.ref 114], N)
              refine Wn.run (tab := tb_m_next) rfl 2 (c' := (336, [(3, .int (b2 (nLt T z i = 0))), (2, .int (nI 0)), (1, .int (pkI T L z)), (0, .ref 114)], [], (mI N 114 (upd (N.1 114) 11 (nI 2))))) (o := [shp 114 = (0, 10)]) rfl rfl ?_
              generalize hM140 : (mI N 114 (upd (N.1 114) 11 (nI 2))) = M139
              have hk141 := fI_up hM140 hgr
              have hu142 := fI_ne hM140 (by decide) loop_9
              have hF143 := fr_sI loop_10 hM140 (by decide)
              have hj144 := jc_oI hM140 hw9
              show Wn _ 57 _ (336, [(3, .int (b2 (nLt T z i = 0))), (2, .int (nI 0)), (1, .int (pkI T L z)), (0, .ref 114)], [], M139)
              have er : tRl T L p = i := by unfold tRl; rw [sk9]; exact rl_eq loop_x0 (by unfold isW; omega)
              have tc := tKd_cases (mo := mo) (p := p) hTb
              rw [er, sk9] at tc
              have ld9 := nLD i loop_x0
              have i1 : ¬ i = 0 := by intro h; rw [h, Nat.add_zero] at h9; exact h9 hfst
              have ps := nDg_pos hfst.2 i i1
              have e2 : tKd T L mo p = 2 := by omega
              have e4 : tCd (tKd T L mo p) = 2 := by unfold tCd; rw [e2]; rfl
              have e3 : tAt T L mo p = z := by unfold tAt; rw [sk9]; exact if_pos (by omega)
              refine Wn.vret rfl ⟨rfl, ⟨by rw [hk141]; exact ((pk_un (by decide)).trans hfr_3), by rw [hk141]; exact ((pk_un (by decide)).trans hfr_5), by rw [hk141, e3]; exact ((pk_un (by decide)).trans hfr_12), by rw [hk141, e4]; exact pk_us, fun q1 q2 => ?_, fun q1 => ?_, fun q1 => ?_, fun q1 => ?_, by rw [hu142]; exact hT, hL9, hm9, hpL⟩, by rw [hk141]; exact (Gx_up hxr (by decide)), fun k9 hk9 => ?_, hF143⟩
              · exact (by rw [hk141, show tNx T L p = z + i from by unfold tNx; rw [er, if_neg i1, sk9]]; exact ((pk_un (by decide)).trans hfr_4))
              · exact (by rw [hk141, show tVl T L p = nVl T z i from by unfold tVl; rw [er, sk9], ← hnum (by omega) (by omega)]; exact ((pk_un (by decide)).trans hn9))
              · exact absurd q1 (by omega)
              · exact absurd q1 (by omega)
              · exact (by rw [hj]; exact (jo_I hM140 hk9 (loop_8 k9 hk9)))
            · show Wn _ 57 _ (320, [(3, .int (b2 (nLt T z i = 0))), (2, .int (nI 0)), (1, .int (pkI T L z)), (0, .ref 114)], [.ref 114], N)
              have h11 := mt (n_le rfl rfl (by omega) (by omega)).mpr h11
              refine Wn.run (tab := tb_m_next) rfl 3 (c' := (336, [(3, .int (b2 (nLt T z i = 0))), (2, .int (nI 0)), (1, .int (pkI T L z)), (0, .ref 114)], [], (mI N 114 (upd (N.1 114) 11 (nI 4))))) (o := [shp 114 = (0, 10)]) rfl rfl ?_
              generalize hM146 : (mI N 114 (upd (N.1 114) 11 (nI 4))) = M145
              have hk147 := fI_up hM146 hgr
              have hu148 := fI_ne hM146 (by decide) loop_9
              have hF149 := fr_sI loop_10 hM146 (by decide)
              have hj150 := jc_oI hM146 hw9
              show Wn _ 57 _ (336, [(3, .int (b2 (nLt T z i = 0))), (2, .int (nI 0)), (1, .int (pkI T L z)), (0, .ref 114)], [], M145)
              have er : tRl T L p = i := by unfold tRl; rw [sk9]; exact rl_eq loop_x0 (by unfold isW; omega)
              have tc := tKd_cases (mo := mo) (p := p) hTb
              rw [er, sk9] at tc
              have ld9 := nLD i loop_x0
              have i1 : ¬ i = 0 := by intro h; rw [h, Nat.add_zero] at h9; exact h9 hfst
              have ps := nDg_pos hfst.2 i i1
              have e2 : tKd T L mo p = 1 := by omega
              have e4 : tCd (tKd T L mo p) = 4 := by unfold tCd; rw [e2]; rfl
              have e3 : tAt T L mo p = z := by unfold tAt; rw [sk9]; exact if_pos (by omega)
              refine Wn.vret rfl ⟨rfl, ⟨by rw [hk147]; exact ((pk_un (by decide)).trans hfr_3), by rw [hk147]; exact ((pk_un (by decide)).trans hfr_5), by rw [hk147, e3]; exact ((pk_un (by decide)).trans hfr_12), by rw [hk147, e4]; exact pk_us, fun q1 q2 => ?_, fun q1 => ?_, fun q1 => ?_, fun q1 => ?_, by rw [hu148]; exact hT, hL9, hm9, hpL⟩, by rw [hk147]; exact (Gx_up hxr (by decide)), fun k9 hk9 => ?_, hF149⟩
              · exact (by rw [hk147, show tNx T L p = z + i from by unfold tNx; rw [er, if_neg i1, sk9]]; exact ((pk_un (by decide)).trans hfr_4))
              · exact absurd q1 (by omega)
              · exact absurd q1 (by omega)
              · exact absurd q1 (by omega)
              · exact (by rw [hj]; exact (jo_I hM146 hk9 (loop_8 k9 hk9)))
        · show Wn _ 57 _ (201, [(3, .int (b2 (nLt T z i = 0))), (2, .int (nI 0)), (1, .int (pkI T L z)), (0, .ref 114)], [], N)
          have h9 := b2_pos h9
          refine Wn.run (tab := tb_m_next) rfl 2 (c' := (if (b2 (nLt T z i = 0)) = 0 then 220 else 205, [(3, .int (b2 (nLt T z i = 0))), (2, .int (nI 0)), (1, .int (pkI T L z)), (0, .ref 114)], [], N)) (o := []) rfl trivial ?_
          refine Wn.br (fun h12 => ?_) (fun h12 => ?_)
          · show Wn _ 57 _ (220, [(3, .int (b2 (nLt T z i = 0))), (2, .int (nI 0)), (1, .int (pkI T L z)), (0, .ref 114)], [], N)
            have h12 := b2_neg h12
            refine Wn.run (tab := tb_m_next) rfl 6 (c' := (if (nI 7) ≤ (N.1 114 13) then 248 else 231, [(3, .int (nI 0)), (2, .int (nI 0)), (1, .int (pkI T L z)), (0, .ref 114)], [], N)) (o := [shp 114 = (0, 10)]) rfl rfl ?_
            refine Wn.br (fun h13 => ?_) (fun h13 => ?_)
            · show Wn _ 57 _ (248, [(3, .int (nI 0)), (2, .int (nI 0)), (1, .int (pkI T L z)), (0, .ref 114)], [], N)
              have h13 := (n_le rfl (fr_eq hgr (show gr 13 = (nI i) from hfr_13)) (by omega) (by omega)).mp h13
              refine Wn.run (tab := tb_m_next) rfl 4 (c' := (if (nI 3) ≤ (N.1 114 13) then 275 else 256, [(3, .int (nI 0)), (2, .int (nI 0)), (1, .int (pkI T L z)), (0, .ref 114)], [], N)) (o := [shp 114 = (0, 10)]) rfl rfl ?_
              refine Wn.br (fun h14 => ?_) (fun h14 => ?_)
              · show Wn _ 57 _ (275, [(3, .int (nI 0)), (2, .int (nI 0)), (1, .int (pkI T L z)), (0, .ref 114)], [], N)
                have h14 := (n_le rfl (fr_eq hgr (show gr 13 = (nI i) from hfr_13)) (by omega) (by omega)).mp h14
                refine Wn.run (tab := tb_m_next) rfl 6 (c' := (285, [(3, .int (nI 0)), (2, .int (nI 0)), (1, .int (pkI T L z)), (0, .ref 114)], [], (mI N 114 (upd (N.1 114) 13 ((N.1 114 13) + (nI 1)))))) (o := [shp 114 = (0, 10), shp 114 = (0, 10)]) rfl ⟨rfl, rfl⟩ ?_
                rw [show (N.1 114 13) = (nI i) from (fr_eq hgr (show gr 13 = (nI i) from hfr_13))]
                rw [show ((nI i) + (nI 1)) = (nI (i + 1)) from (n_add rfl rfl)]
                generalize hM152 : (mI N 114 (upd (N.1 114) 13 (nI (i + 1)))) = M151
                have hk153 := fI_up hM152 hgr
                have hu154 := fI_ne hM152 (by decide) loop_9
                have hF155 := fr_sI loop_10 hM152 (by decide)
                have hj156 := jc_oI hM152 hw9
                show Wn _ 57 _ (285, [(3, .int (nI 0)), (2, .int (nI 0)), (1, .int (pkI T L z)), (0, .ref 114)], [], M151)
                refine Wn.run (tab := tb_m_next) rfl 6 (c' := (295, [(3, .int (nI 0)), (2, .int (nI 0)), (1, .int (pkI T L z)), (0, .ref 114)], [], (mI M151 114 (upd (M151.1 114) 4 ((M151.1 114 4) + (nI 1)))))) (o := [shp 114 = (0, 10), shp 114 = (0, 10)]) rfl ⟨rfl, rfl⟩ ?_
                rw [show (M151.1 114 4) = (nI (z + i)) from (fr_eq hk153 (show (upd gr 13 (nI (i + 1))) 4 = (nI (z + i)) from ((pk_un (by decide)).trans hfr_4)))]
                rw [show ((nI (z + i)) + (nI 1)) = (nI ((z + i) + 1)) from (n_add rfl rfl)]
                generalize hM158 : (mI M151 114 (upd (M151.1 114) 4 (nI ((z + i) + 1)))) = M157
                have hk159 := fI_up hM158 hk153
                have hu160 := fI_ne hM158 (by decide) hu154
                have hF161 := fr_sI hF155 hM158 (by decide)
                have hj162 := jc_oI hM158 hj156
                show Wn _ 57 _ (295, [(3, .int (nI 0)), (2, .int (nI 0)), (1, .int (pkI T L z)), (0, .ref 114)], [], M157)
                refine Wn.run (tab := tb_m_next) rfl 1 (c' := (181, [(3, .int (nI 0)), (2, .int (nI 0)), (1, .int (pkI T L z)), (0, .ref 114)], [], M157)) (o := []) rfl trivial ?_
                have q1 : isD (T (z + i)) := by omega
                have q2 : ¬ isS (T (z + i)) := by omega
                have e8 : nLt T z (i + 1) = nLt T z i + 0 := by show nLt T z i + (if isS (T (z + i)) then 1 else 0) = _; rw [if_neg q2]
                have e9 : nDg T z (i + 1) = nDg T z i + 1 := by show nDg T z i + (if isD (T (z + i)) then 1 else 0) = _; rw [if_pos q1]
                have e6 : nVl T z (i + 1) = 10 * nVl T z i + T (z + i) - 48 := by show (if isD (T (z + i)) then _ else _) = _; rw [if_pos q1]
                have e7 : nNm T z (i + 1) = nNm T z i := by show (if isS (T (z + i)) then _ else _) = _; rw [if_neg q2]
                have ea : (nI 0) = (b2 (nLt T z (i + 1) = 0)) := by rw [b2_f (by omega)]; rfl
                have key9 := ih ((L - z) - (i + 1)) (by omega) (i + 1) M157 rfl (by omega) (by rw [hk159]; exact pk_us) (by rw [hk159]; exact ((pk_un (by decide)).trans pk_us)) (by rw [hk159]; exact ((pk_un (by decide)).trans ((pk_un (by decide)).trans hfr_3))) (by rw [hk159]; exact ((pk_un (by decide)).trans ((pk_un (by decide)).trans hfr_5))) (by rw [hk159]; exact (Gx_up (Gx_up hxr (by decide)) (by decide))) (by rw [hk159]; exact ((pk_un (by decide)).trans ((pk_un (by decide)).trans hfr_12))) (fun a1 a2 => absurd a2 (by omega)) (fun a1 a2 => absurd a1 (by omega)) (fun k9 hk9 => (jo_I hM158 hk9 (jo_I hM152 hk9 (loop_8 k9 hk9)))) hu160 hF161 (fun k9 hk => if e : k9 = i then (by rw [e]; exact ⟨by omega, by omega⟩) else loop_x0 k9 (by omega))
                rw [← ea] at key9
                exact key9
              · show Wn _ 57 _ (256, [(3, .int (nI 0)), (2, .int (nI 0)), (1, .int (pkI T L z)), (0, .ref 114)], [], N)
                have h14 := mt (n_le rfl (fr_eq hgr (show gr 13 = (nI i) from hfr_13)) (by omega) (by omega)).mpr h14
                refine Wn.run (tab := tb_m_next) rfl 6 (c' := (265, [(3, .int (nI 0)), (2, .int (nI 0)), (1, .int (pkI T L z)), (0, .ref 114)], [.ref 114, .int ((nI 10) * (N.1 114 14)), .ref 114], N)) (o := [shp 114 = (0, 10)]) rfl rfl ?_
                rw [show (N.1 114 14) = n9 from (fr_eq hgr (show gr 14 = n9 from hn9))]
                refine Wn.callV (p := 114) (n := 1) (ix := 152) (ci := (10)) (fun r0 M0 => r0 = some (.int (pkI T L (z + i))) ∧ N = M0) [] [.int ((nI 10) * n9), .ref 114] rfl rfl rfl rfl (Nat.le_of_ble_eq_true rfl) (Nat.le_of_ble_eq_true rfl) (w_m_peek _ N T L (z + i) (by rw [hgr]; exact hfr_4) (by rw [hgr]; exact hfr_3) (by rw [loop_9]; exact hT) hL9 (by omega) _ ⟨rfl, rfl⟩) ?_
                rintro _ _ ⟨rfl, rfl⟩
                show Wn _ 57 _ (268, [(3, .int (nI 0)), (2, .int (nI 0)), (1, .int (pkI T L z)), (0, .ref 114)], [.int (pkI T L (z + i)), .int ((nI 10) * n9), .ref 114], N)
                refine Wn.run (tab := tb_m_next) rfl 4 (c' := (275, [(3, .int (nI 0)), (2, .int (nI 0)), (1, .int (pkI T L z)), (0, .ref 114)], [], (mI N 114 (upd (N.1 114) 14 ((((nI 10) * n9) + (pkI T L (z + i))) - (nI 48)))))) (o := [shp 114 = (0, 10)]) rfl rfl ?_
                generalize hM164 : (mI N 114 (upd (N.1 114) 14 ((((nI 10) * n9) + (pkI T L (z + i))) - (nI 48)))) = M163
                have hk165 := fI_up hM164 hgr
                have hu166 := fI_ne hM164 (by decide) loop_9
                have hF167 := fr_sI loop_10 hM164 (by decide)
                have hj168 := jc_oI hM164 hw9
                show Wn _ 57 _ (275, [(3, .int (nI 0)), (2, .int (nI 0)), (1, .int (pkI T L z)), (0, .ref 114)], [], M163)
                refine Wn.run (tab := tb_m_next) rfl 6 (c' := (285, [(3, .int (nI 0)), (2, .int (nI 0)), (1, .int (pkI T L z)), (0, .ref 114)], [], (mI M163 114 (upd (M163.1 114) 13 ((M163.1 114 13) + (nI 1)))))) (o := [shp 114 = (0, 10), shp 114 = (0, 10)]) rfl ⟨rfl, rfl⟩ ?_
                rw [show (M163.1 114 13) = (nI i) from (fr_eq hk165 (show (upd gr 14 ((((nI 10) * n9) + (pkI T L (z + i))) - (nI 48))) 13 = (nI i) from ((pk_un (by decide)).trans hfr_13)))]
                rw [show ((nI i) + (nI 1)) = (nI (i + 1)) from (n_add rfl rfl)]
                generalize hM170 : (mI M163 114 (upd (M163.1 114) 13 (nI (i + 1)))) = M169
                have hk171 := fI_up hM170 hk165
                have hu172 := fI_ne hM170 (by decide) hu166
                have hF173 := fr_sI hF167 hM170 (by decide)
                have hj174 := jc_oI hM170 hj168
                show Wn _ 57 _ (285, [(3, .int (nI 0)), (2, .int (nI 0)), (1, .int (pkI T L z)), (0, .ref 114)], [], M169)
                refine Wn.run (tab := tb_m_next) rfl 6 (c' := (295, [(3, .int (nI 0)), (2, .int (nI 0)), (1, .int (pkI T L z)), (0, .ref 114)], [], (mI M169 114 (upd (M169.1 114) 4 ((M169.1 114 4) + (nI 1)))))) (o := [shp 114 = (0, 10), shp 114 = (0, 10)]) rfl ⟨rfl, rfl⟩ ?_
                rw [show (M169.1 114 4) = (nI (z + i)) from (fr_eq hk171 (show (upd (upd gr 14 ((((nI 10) * n9) + (pkI T L (z + i))) - (nI 48))) 13 (nI (i + 1))) 4 = (nI (z + i)) from ((pk_un (by decide)).trans ((pk_un (by decide)).trans hfr_4))))]
                rw [show ((nI (z + i)) + (nI 1)) = (nI ((z + i) + 1)) from (n_add rfl rfl)]
                generalize hM176 : (mI M169 114 (upd (M169.1 114) 4 (nI ((z + i) + 1)))) = M175
                have hk177 := fI_up hM176 hk171
                have hu178 := fI_ne hM176 (by decide) hu172
                have hF179 := fr_sI hF173 hM176 (by decide)
                have hj180 := jc_oI hM176 hj174
                show Wn _ 57 _ (295, [(3, .int (nI 0)), (2, .int (nI 0)), (1, .int (pkI T L z)), (0, .ref 114)], [], M175)
                refine Wn.run (tab := tb_m_next) rfl 1 (c' := (181, [(3, .int (nI 0)), (2, .int (nI 0)), (1, .int (pkI T L z)), (0, .ref 114)], [], M175)) (o := []) rfl trivial ?_
                have q1 : isD (T (z + i)) := by omega
                have q2 : ¬ isS (T (z + i)) := by omega
                have e8 : nLt T z (i + 1) = nLt T z i + 0 := by show nLt T z i + (if isS (T (z + i)) then 1 else 0) = _; rw [if_neg q2]
                have e9 : nDg T z (i + 1) = nDg T z i + 1 := by show nDg T z i + (if isD (T (z + i)) then 1 else 0) = _; rw [if_pos q1]
                have e6 : nVl T z (i + 1) = 10 * nVl T z i + T (z + i) - 48 := by show (if isD (T (z + i)) then _ else _) = _; rw [if_pos q1]
                have e7 : nNm T z (i + 1) = nNm T z i := by show (if isS (T (z + i)) then _ else _) = _; rw [if_neg q2]
                have ea : (nI 0) = (b2 (nLt T z (i + 1) = 0)) := by rw [b2_f (by omega)]; rfl
                have key9 := ih ((L - z) - (i + 1)) (by omega) (i + 1) M175 rfl (by omega) (by rw [hk177]; exact pk_us) (by rw [hk177]; exact ((pk_un (by decide)).trans pk_us)) (by rw [hk177]; exact ((pk_un (by decide)).trans ((pk_un (by decide)).trans ((pk_un (by decide)).trans hfr_3)))) (by rw [hk177]; exact ((pk_un (by decide)).trans ((pk_un (by decide)).trans ((pk_un (by decide)).trans hfr_5)))) (by rw [hk177]; exact (Gx_up (Gx_up (Gx_up hxr (by decide)) (by decide)) (by decide))) (by rw [hk177]; exact ((pk_un (by decide)).trans ((pk_un (by decide)).trans ((pk_un (by decide)).trans hfr_12)))) (fun a1 a2 => by rw [hk177, show (upd (upd (upd gr 14 ((((nI 10) * n9) + (pkI T L (z + i))) - (nI 48))) 13 (nI (i + 1))) 4 (nI ((z + i) + 1))) 14 = ((((nI 10) * n9) + (pkI T L (z + i))) - (nI 48)) from ((pk_un (by decide)).trans ((pk_un (by decide)).trans pk_us)), e6, hnum (by omega) (by omega), pk_mul, pkI_y (by omega), nI_add, pk_sub (by omega)]) (fun a1 a2 => absurd a1 (by omega)) (fun k9 hk9 => (jo_I hM176 hk9 (jo_I hM170 hk9 (jo_I hM164 hk9 (loop_8 k9 hk9))))) hu178 hF179 (fun k9 hk => if e : k9 = i then (by rw [e]; exact ⟨by omega, by omega⟩) else loop_x0 k9 (by omega))
                rw [← ea] at key9
                exact key9
            · show Wn _ 57 _ (231, [(3, .int (nI 0)), (2, .int (nI 0)), (1, .int (pkI T L z)), (0, .ref 114)], [], N)
              have h13 := mt (n_le rfl (fr_eq hgr (show gr 13 = (nI i) from hfr_13)) (by omega) (by omega)).mpr h13
              refine Wn.run (tab := tb_m_next) rfl 6 (c' := (240, [(3, .int (nI 0)), (2, .int (nI 0)), (1, .int (pkI T L z)), (0, .ref 114)], [.ref 114, .long ((N.2.1 114 17) <<< (((nI 8)).toInt64 &&& 63)), .ref 114], N)) (o := [shp 114 = (0, 10)]) rfl rfl ?_
              rw [show (N.2.1 114 17) = w9 from hw9]
              refine Wn.callV (p := 114) (n := 1) (ix := 152) (ci := (10)) (fun r0 M0 => r0 = some (.int (pkI T L (z + i))) ∧ N = M0) [] [.long (w9 <<< (((nI 8)).toInt64 &&& 63)), .ref 114] rfl rfl rfl rfl (Nat.le_of_ble_eq_true rfl) (Nat.le_of_ble_eq_true rfl) (w_m_peek _ N T L (z + i) (by rw [hgr]; exact hfr_4) (by rw [hgr]; exact hfr_3) (by rw [loop_9]; exact hT) hL9 (by omega) _ ⟨rfl, rfl⟩) ?_
              rintro _ _ ⟨rfl, rfl⟩
              show Wn _ 57 _ (243, [(3, .int (nI 0)), (2, .int (nI 0)), (1, .int (pkI T L z)), (0, .ref 114)], [.int (pkI T L (z + i)), .long (w9 <<< (((nI 8)).toInt64 &&& 63)), .ref 114], N)
              refine Wn.run (tab := tb_m_next) rfl 3 (c' := (248, [(3, .int (nI 0)), (2, .int (nI 0)), (1, .int (pkI T L z)), (0, .ref 114)], [], (mJ N 114 (vp_updL (N.2.1 114) 17 ((w9 <<< (((nI 8)).toInt64 &&& 63)) ||| ((pkI T L (z + i))).toInt64))))) (o := [shp 114 = (0, 10)]) rfl rfl ?_
              generalize hM182 : (mJ N 114 (vp_updL (N.2.1 114) 17 ((w9 <<< (((nI 8)).toInt64 &&& 63)) ||| ((pkI T L (z + i))).toInt64))) = M181
              have hk183 := fI_oJ hM182 hgr
              have hu184 := fI_oJ hM182 loop_9
              have hF185 := fr_sJ loop_10 hM182 (by decide)
              have hj186 := jc_eq hM182
              show Wn _ 57 _ (248, [(3, .int (nI 0)), (2, .int (nI 0)), (1, .int (pkI T L z)), (0, .ref 114)], [], M181)
              refine Wn.run (tab := tb_m_next) rfl 4 (c' := (if (nI 3) ≤ (M181.1 114 13) then 275 else 256, [(3, .int (nI 0)), (2, .int (nI 0)), (1, .int (pkI T L z)), (0, .ref 114)], [], M181)) (o := [shp 114 = (0, 10)]) rfl rfl ?_
              refine Wn.br (fun h15 => ?_) (fun h15 => ?_)
              · show Wn _ 57 _ (275, [(3, .int (nI 0)), (2, .int (nI 0)), (1, .int (pkI T L z)), (0, .ref 114)], [], M181)
                have h15 := (n_le rfl (fr_eq hk183 (show gr 13 = (nI i) from hfr_13)) (by omega) (by omega)).mp h15
                refine Wn.run (tab := tb_m_next) rfl 6 (c' := (285, [(3, .int (nI 0)), (2, .int (nI 0)), (1, .int (pkI T L z)), (0, .ref 114)], [], (mI M181 114 (upd (M181.1 114) 13 ((M181.1 114 13) + (nI 1)))))) (o := [shp 114 = (0, 10), shp 114 = (0, 10)]) rfl ⟨rfl, rfl⟩ ?_
                rw [show (M181.1 114 13) = (nI i) from (fr_eq hk183 (show gr 13 = (nI i) from hfr_13))]
                rw [show ((nI i) + (nI 1)) = (nI (i + 1)) from (n_add rfl rfl)]
                generalize hM188 : (mI M181 114 (upd (M181.1 114) 13 (nI (i + 1)))) = M187
                have hk189 := fI_up hM188 hk183
                have hu190 := fI_ne hM188 (by decide) hu184
                have hF191 := fr_sI hF185 hM188 (by decide)
                have hj192 := jc_oI hM188 hj186
                show Wn _ 57 _ (285, [(3, .int (nI 0)), (2, .int (nI 0)), (1, .int (pkI T L z)), (0, .ref 114)], [], M187)
                refine Wn.run (tab := tb_m_next) rfl 6 (c' := (295, [(3, .int (nI 0)), (2, .int (nI 0)), (1, .int (pkI T L z)), (0, .ref 114)], [], (mI M187 114 (upd (M187.1 114) 4 ((M187.1 114 4) + (nI 1)))))) (o := [shp 114 = (0, 10), shp 114 = (0, 10)]) rfl ⟨rfl, rfl⟩ ?_
                rw [show (M187.1 114 4) = (nI (z + i)) from (fr_eq hk189 (show (upd gr 13 (nI (i + 1))) 4 = (nI (z + i)) from ((pk_un (by decide)).trans hfr_4)))]
                rw [show ((nI (z + i)) + (nI 1)) = (nI ((z + i) + 1)) from (n_add rfl rfl)]
                generalize hM194 : (mI M187 114 (upd (M187.1 114) 4 (nI ((z + i) + 1)))) = M193
                have hk195 := fI_up hM194 hk189
                have hu196 := fI_ne hM194 (by decide) hu190
                have hF197 := fr_sI hF191 hM194 (by decide)
                have hj198 := jc_oI hM194 hj192
                show Wn _ 57 _ (295, [(3, .int (nI 0)), (2, .int (nI 0)), (1, .int (pkI T L z)), (0, .ref 114)], [], M193)
                refine Wn.run (tab := tb_m_next) rfl 1 (c' := (181, [(3, .int (nI 0)), (2, .int (nI 0)), (1, .int (pkI T L z)), (0, .ref 114)], [], M193)) (o := []) rfl trivial ?_
                have q1 : isD (T (z + i)) := by omega
                have q2 : ¬ isS (T (z + i)) := by omega
                have e8 : nLt T z (i + 1) = nLt T z i + 0 := by show nLt T z i + (if isS (T (z + i)) then 1 else 0) = _; rw [if_neg q2]
                have e9 : nDg T z (i + 1) = nDg T z i + 1 := by show nDg T z i + (if isD (T (z + i)) then 1 else 0) = _; rw [if_pos q1]
                have e6 : nVl T z (i + 1) = 10 * nVl T z i + T (z + i) - 48 := by show (if isD (T (z + i)) then _ else _) = _; rw [if_pos q1]
                have e7 : nNm T z (i + 1) = nNm T z i := by show (if isS (T (z + i)) then _ else _) = _; rw [if_neg q2]
                have ea : (nI 0) = (b2 (nLt T z (i + 1) = 0)) := by rw [b2_f (by omega)]; rfl
                have key9 := ih ((L - z) - (i + 1)) (by omega) (i + 1) M193 rfl (by omega) (by rw [hk195]; exact pk_us) (by rw [hk195]; exact ((pk_un (by decide)).trans pk_us)) (by rw [hk195]; exact ((pk_un (by decide)).trans ((pk_un (by decide)).trans hfr_3))) (by rw [hk195]; exact ((pk_un (by decide)).trans ((pk_un (by decide)).trans hfr_5))) (by rw [hk195]; exact (Gx_up (Gx_up hxr (by decide)) (by decide))) (by rw [hk195]; exact ((pk_un (by decide)).trans ((pk_un (by decide)).trans hfr_12))) (fun a1 a2 => absurd a2 (by omega)) (fun a1 a2 => absurd a1 (by omega)) (fun k9 hk9 => (jo_I hM194 hk9 (jo_I hM188 hk9 (jo_J hM182 hk9 (loop_8 k9 hk9))))) hu196 hF197 (fun k9 hk => if e : k9 = i then (by rw [e]; exact ⟨by omega, by omega⟩) else loop_x0 k9 (by omega))
                rw [← ea] at key9
                exact key9
              · show Wn _ 57 _ (256, [(3, .int (nI 0)), (2, .int (nI 0)), (1, .int (pkI T L z)), (0, .ref 114)], [], M181)
                have h15 := mt (n_le rfl (fr_eq hk183 (show gr 13 = (nI i) from hfr_13)) (by omega) (by omega)).mpr h15
                refine Wn.run (tab := tb_m_next) rfl 6 (c' := (265, [(3, .int (nI 0)), (2, .int (nI 0)), (1, .int (pkI T L z)), (0, .ref 114)], [.ref 114, .int ((nI 10) * (M181.1 114 14)), .ref 114], M181)) (o := [shp 114 = (0, 10)]) rfl rfl ?_
                rw [show (M181.1 114 14) = n9 from (fr_eq hk183 (show gr 14 = n9 from hn9))]
                refine Wn.callV (p := 114) (n := 1) (ix := 152) (ci := (10)) (fun r0 M0 => r0 = some (.int (pkI T L (z + i))) ∧ M181 = M0) [] [.int ((nI 10) * n9), .ref 114] rfl rfl rfl rfl (Nat.le_of_ble_eq_true rfl) (Nat.le_of_ble_eq_true rfl) (w_m_peek _ M181 T L (z + i) (by rw [hk183]; exact hfr_4) (by rw [hk183]; exact hfr_3) (by rw [hu184]; exact hT) hL9 (by omega) _ ⟨rfl, rfl⟩) ?_
                rintro _ _ ⟨rfl, rfl⟩
                show Wn _ 57 _ (268, [(3, .int (nI 0)), (2, .int (nI 0)), (1, .int (pkI T L z)), (0, .ref 114)], [.int (pkI T L (z + i)), .int ((nI 10) * n9), .ref 114], M181)
                refine Wn.run (tab := tb_m_next) rfl 4 (c' := (275, [(3, .int (nI 0)), (2, .int (nI 0)), (1, .int (pkI T L z)), (0, .ref 114)], [], (mI M181 114 (upd (M181.1 114) 14 ((((nI 10) * n9) + (pkI T L (z + i))) - (nI 48)))))) (o := [shp 114 = (0, 10)]) rfl rfl ?_
                generalize hM200 : (mI M181 114 (upd (M181.1 114) 14 ((((nI 10) * n9) + (pkI T L (z + i))) - (nI 48)))) = M199
                have hk201 := fI_up hM200 hk183
                have hu202 := fI_ne hM200 (by decide) hu184
                have hF203 := fr_sI hF185 hM200 (by decide)
                have hj204 := jc_oI hM200 hj186
                show Wn _ 57 _ (275, [(3, .int (nI 0)), (2, .int (nI 0)), (1, .int (pkI T L z)), (0, .ref 114)], [], M199)
                refine Wn.run (tab := tb_m_next) rfl 6 (c' := (285, [(3, .int (nI 0)), (2, .int (nI 0)), (1, .int (pkI T L z)), (0, .ref 114)], [], (mI M199 114 (upd (M199.1 114) 13 ((M199.1 114 13) + (nI 1)))))) (o := [shp 114 = (0, 10), shp 114 = (0, 10)]) rfl ⟨rfl, rfl⟩ ?_
                rw [show (M199.1 114 13) = (nI i) from (fr_eq hk201 (show (upd gr 14 ((((nI 10) * n9) + (pkI T L (z + i))) - (nI 48))) 13 = (nI i) from ((pk_un (by decide)).trans hfr_13)))]
                rw [show ((nI i) + (nI 1)) = (nI (i + 1)) from (n_add rfl rfl)]
                generalize hM206 : (mI M199 114 (upd (M199.1 114) 13 (nI (i + 1)))) = M205
                have hk207 := fI_up hM206 hk201
                have hu208 := fI_ne hM206 (by decide) hu202
                have hF209 := fr_sI hF203 hM206 (by decide)
                have hj210 := jc_oI hM206 hj204
                show Wn _ 57 _ (285, [(3, .int (nI 0)), (2, .int (nI 0)), (1, .int (pkI T L z)), (0, .ref 114)], [], M205)
                refine Wn.run (tab := tb_m_next) rfl 6 (c' := (295, [(3, .int (nI 0)), (2, .int (nI 0)), (1, .int (pkI T L z)), (0, .ref 114)], [], (mI M205 114 (upd (M205.1 114) 4 ((M205.1 114 4) + (nI 1)))))) (o := [shp 114 = (0, 10), shp 114 = (0, 10)]) rfl ⟨rfl, rfl⟩ ?_
                rw [show (M205.1 114 4) = (nI (z + i)) from (fr_eq hk207 (show (upd (upd gr 14 ((((nI 10) * n9) + (pkI T L (z + i))) - (nI 48))) 13 (nI (i + 1))) 4 = (nI (z + i)) from ((pk_un (by decide)).trans ((pk_un (by decide)).trans hfr_4))))]
                rw [show ((nI (z + i)) + (nI 1)) = (nI ((z + i) + 1)) from (n_add rfl rfl)]
                generalize hM212 : (mI M205 114 (upd (M205.1 114) 4 (nI ((z + i) + 1)))) = M211
                have hk213 := fI_up hM212 hk207
                have hu214 := fI_ne hM212 (by decide) hu208
                have hF215 := fr_sI hF209 hM212 (by decide)
                have hj216 := jc_oI hM212 hj210
                show Wn _ 57 _ (295, [(3, .int (nI 0)), (2, .int (nI 0)), (1, .int (pkI T L z)), (0, .ref 114)], [], M211)
                refine Wn.run (tab := tb_m_next) rfl 1 (c' := (181, [(3, .int (nI 0)), (2, .int (nI 0)), (1, .int (pkI T L z)), (0, .ref 114)], [], M211)) (o := []) rfl trivial ?_
                have q1 : isD (T (z + i)) := by omega
                have q2 : ¬ isS (T (z + i)) := by omega
                have e8 : nLt T z (i + 1) = nLt T z i + 0 := by show nLt T z i + (if isS (T (z + i)) then 1 else 0) = _; rw [if_neg q2]
                have e9 : nDg T z (i + 1) = nDg T z i + 1 := by show nDg T z i + (if isD (T (z + i)) then 1 else 0) = _; rw [if_pos q1]
                have e6 : nVl T z (i + 1) = 10 * nVl T z i + T (z + i) - 48 := by show (if isD (T (z + i)) then _ else _) = _; rw [if_pos q1]
                have e7 : nNm T z (i + 1) = nNm T z i := by show (if isS (T (z + i)) then _ else _) = _; rw [if_neg q2]
                have ea : (nI 0) = (b2 (nLt T z (i + 1) = 0)) := by rw [b2_f (by omega)]; rfl
                have key9 := ih ((L - z) - (i + 1)) (by omega) (i + 1) M211 rfl (by omega) (by rw [hk213]; exact pk_us) (by rw [hk213]; exact ((pk_un (by decide)).trans pk_us)) (by rw [hk213]; exact ((pk_un (by decide)).trans ((pk_un (by decide)).trans ((pk_un (by decide)).trans hfr_3)))) (by rw [hk213]; exact ((pk_un (by decide)).trans ((pk_un (by decide)).trans ((pk_un (by decide)).trans hfr_5)))) (by rw [hk213]; exact (Gx_up (Gx_up (Gx_up hxr (by decide)) (by decide)) (by decide))) (by rw [hk213]; exact ((pk_un (by decide)).trans ((pk_un (by decide)).trans ((pk_un (by decide)).trans hfr_12)))) (fun a1 a2 => by rw [hk213, show (upd (upd (upd gr 14 ((((nI 10) * n9) + (pkI T L (z + i))) - (nI 48))) 13 (nI (i + 1))) 4 (nI ((z + i) + 1))) 14 = ((((nI 10) * n9) + (pkI T L (z + i))) - (nI 48)) from ((pk_un (by decide)).trans ((pk_un (by decide)).trans pk_us)), e6, hnum (by omega) (by omega), pk_mul, pkI_y (by omega), nI_add, pk_sub (by omega)]) (fun a1 a2 => absurd a1 (by omega)) (fun k9 hk9 => (jo_I hM212 hk9 (jo_I hM206 hk9 (jo_I hM200 hk9 (jo_J hM182 hk9 (loop_8 k9 hk9)))))) hu214 hF215 (fun k9 hk => if e : k9 = i then (by rw [e]; exact ⟨by omega, by omega⟩) else loop_x0 k9 (by omega))
                rw [← ea] at key9
                exact key9
          · show Wn _ 57 _ (205, [(3, .int (b2 (nLt T z i = 0))), (2, .int (nI 0)), (1, .int (pkI T L z)), (0, .ref 114)], [], N)
            have h12 := b2_pos h12
            refine Wn.run (tab := tb_m_next) rfl 1 (c' := (206, [(3, .int (b2 (nLt T z i = 0))), (2, .int (nI 0)), (1, .int (pkI T L z)), (0, .ref 114)], [.ref 114], N)) (o := []) rfl trivial ?_
            refine Wn.callV (p := 114) (n := 1) (ix := 152) (ci := (10)) (fun r0 M0 => r0 = some (.int (pkI T L (z + i))) ∧ N = M0) [] [] rfl rfl rfl rfl (Nat.le_of_ble_eq_true rfl) (Nat.le_of_ble_eq_true rfl) (w_m_peek _ N T L (z + i) (by rw [hgr]; exact hfr_4) (by rw [hgr]; exact hfr_3) (by rw [loop_9]; exact hT) hL9 (by omega) _ ⟨rfl, rfl⟩) ?_
            rintro _ _ ⟨rfl, rfl⟩
            show Wn _ 57 _ (209, [(3, .int (b2 (nLt T z i = 0))), (2, .int (nI 0)), (1, .int (pkI T L z)), (0, .ref 114)], [.int (pkI T L (z + i))], N)
            refine Wn.callS (n := 1) (ix := 165) (fun r0 M0 => r0 = some (.int (b2 ((z + i) < L ∧ isS (T (z + i))))) ∧ N = M0) [.int (pkI T L (z + i))] [] rfl rfl rfl (Nat.le_of_ble_eq_true rfl) (Nat.le_of_ble_eq_true rfl) (w_m_isSmallP _ T L (z + i) hTb N _ ⟨rfl, rfl⟩) ?_
            rintro _ _ ⟨rfl, rfl⟩
            show Wn _ 57 _ (212, [(3, .int (b2 (nLt T z i = 0))), (2, .int (nI 0)), (1, .int (pkI T L z)), (0, .ref 114)], [.int (b2 ((z + i) < L ∧ isS (T (z + i))))], N)
            rw [show (b2 ((z + i) < L ∧ isS (T (z + i)))) = (nI 0) from (b2_f (by omega))]
            refine Wn.run (tab := tb_m_next) rfl 2 (c' := (if ¬ (nI 0) = (nI 0) then 220 else 216, [(3, .int (b2 (nLt T z i = 0))), (2, .int (nI 0)), (1, .int (pkI T L z)), (0, .ref 114)], [], N)) (o := []) rfl trivial ?_
            rw [if_neg (show ¬ (¬ (nI 0) = (nI 0)) by decide)]
            show Wn _ 57 _ (216, [(3, .int (b2 (nLt T z i = 0))), (2, .int (nI 0)), (1, .int (pkI T L z)), (0, .ref 114)], [], N)
            refine Wn.run (tab := tb_m_next) rfl 7 (c' := (if (nI 7) ≤ (N.1 114 13) then 248 else 231, [(3, .int (nI 1)), (2, .int (nI 0)), (1, .int (pkI T L z)), (0, .ref 114)], [], N)) (o := [shp 114 = (0, 10)]) rfl rfl ?_
            refine Wn.br (fun h16 => ?_) (fun h16 => ?_)
            · show Wn _ 57 _ (248, [(3, .int (nI 1)), (2, .int (nI 0)), (1, .int (pkI T L z)), (0, .ref 114)], [], N)
              have h16 := (n_le rfl (fr_eq hgr (show gr 13 = (nI i) from hfr_13)) (by omega) (by omega)).mp h16
              refine Wn.run (tab := tb_m_next) rfl 4 (c' := (if (nI 3) ≤ (N.1 114 13) then 275 else 256, [(3, .int (nI 1)), (2, .int (nI 0)), (1, .int (pkI T L z)), (0, .ref 114)], [], N)) (o := [shp 114 = (0, 10)]) rfl rfl ?_
              refine Wn.br (fun h17 => ?_) (fun h17 => ?_)
              · show Wn _ 57 _ (275, [(3, .int (nI 1)), (2, .int (nI 0)), (1, .int (pkI T L z)), (0, .ref 114)], [], N)
                have h17 := (n_le rfl (fr_eq hgr (show gr 13 = (nI i) from hfr_13)) (by omega) (by omega)).mp h17
                refine Wn.run (tab := tb_m_next) rfl 6 (c' := (285, [(3, .int (nI 1)), (2, .int (nI 0)), (1, .int (pkI T L z)), (0, .ref 114)], [], (mI N 114 (upd (N.1 114) 13 ((N.1 114 13) + (nI 1)))))) (o := [shp 114 = (0, 10), shp 114 = (0, 10)]) rfl ⟨rfl, rfl⟩ ?_
                rw [show (N.1 114 13) = (nI i) from (fr_eq hgr (show gr 13 = (nI i) from hfr_13))]
                rw [show ((nI i) + (nI 1)) = (nI (i + 1)) from (n_add rfl rfl)]
                generalize hM218 : (mI N 114 (upd (N.1 114) 13 (nI (i + 1)))) = M217
                have hk219 := fI_up hM218 hgr
                have hu220 := fI_ne hM218 (by decide) loop_9
                have hF221 := fr_sI loop_10 hM218 (by decide)
                have hj222 := jc_oI hM218 hw9
                show Wn _ 57 _ (285, [(3, .int (nI 1)), (2, .int (nI 0)), (1, .int (pkI T L z)), (0, .ref 114)], [], M217)
                refine Wn.run (tab := tb_m_next) rfl 6 (c' := (295, [(3, .int (nI 1)), (2, .int (nI 0)), (1, .int (pkI T L z)), (0, .ref 114)], [], (mI M217 114 (upd (M217.1 114) 4 ((M217.1 114 4) + (nI 1)))))) (o := [shp 114 = (0, 10), shp 114 = (0, 10)]) rfl ⟨rfl, rfl⟩ ?_
                rw [show (M217.1 114 4) = (nI (z + i)) from (fr_eq hk219 (show (upd gr 13 (nI (i + 1))) 4 = (nI (z + i)) from ((pk_un (by decide)).trans hfr_4)))]
                rw [show ((nI (z + i)) + (nI 1)) = (nI ((z + i) + 1)) from (n_add rfl rfl)]
                generalize hM224 : (mI M217 114 (upd (M217.1 114) 4 (nI ((z + i) + 1)))) = M223
                have hk225 := fI_up hM224 hk219
                have hu226 := fI_ne hM224 (by decide) hu220
                have hF227 := fr_sI hF221 hM224 (by decide)
                have hj228 := jc_oI hM224 hj222
                show Wn _ 57 _ (295, [(3, .int (nI 1)), (2, .int (nI 0)), (1, .int (pkI T L z)), (0, .ref 114)], [], M223)
                refine Wn.run (tab := tb_m_next) rfl 1 (c' := (181, [(3, .int (nI 1)), (2, .int (nI 0)), (1, .int (pkI T L z)), (0, .ref 114)], [], M223)) (o := []) rfl trivial ?_
                have q1 : isD (T (z + i)) := by omega
                have q2 : ¬ isS (T (z + i)) := by omega
                have e8 : nLt T z (i + 1) = nLt T z i + 0 := by show nLt T z i + (if isS (T (z + i)) then 1 else 0) = _; rw [if_neg q2]
                have e9 : nDg T z (i + 1) = nDg T z i + 1 := by show nDg T z i + (if isD (T (z + i)) then 1 else 0) = _; rw [if_pos q1]
                have e6 : nVl T z (i + 1) = 10 * nVl T z i + T (z + i) - 48 := by show (if isD (T (z + i)) then _ else _) = _; rw [if_pos q1]
                have e7 : nNm T z (i + 1) = nNm T z i := by show (if isS (T (z + i)) then _ else _) = _; rw [if_neg q2]
                have ea : (nI 1) = (b2 (nLt T z (i + 1) = 0)) := by rw [b2_t (by omega)]; rfl
                have key9 := ih ((L - z) - (i + 1)) (by omega) (i + 1) M223 rfl (by omega) (by rw [hk225]; exact pk_us) (by rw [hk225]; exact ((pk_un (by decide)).trans pk_us)) (by rw [hk225]; exact ((pk_un (by decide)).trans ((pk_un (by decide)).trans hfr_3))) (by rw [hk225]; exact ((pk_un (by decide)).trans ((pk_un (by decide)).trans hfr_5))) (by rw [hk225]; exact (Gx_up (Gx_up hxr (by decide)) (by decide))) (by rw [hk225]; exact ((pk_un (by decide)).trans ((pk_un (by decide)).trans hfr_12))) (fun a1 a2 => absurd a2 (by omega)) (fun a1 a2 => absurd a1 (by omega)) (fun k9 hk9 => (jo_I hM224 hk9 (jo_I hM218 hk9 (loop_8 k9 hk9)))) hu226 hF227 (fun k9 hk => if e : k9 = i then (by rw [e]; exact ⟨by omega, by omega⟩) else loop_x0 k9 (by omega))
                rw [← ea] at key9
                exact key9
              · show Wn _ 57 _ (256, [(3, .int (nI 1)), (2, .int (nI 0)), (1, .int (pkI T L z)), (0, .ref 114)], [], N)
                have h17 := mt (n_le rfl (fr_eq hgr (show gr 13 = (nI i) from hfr_13)) (by omega) (by omega)).mpr h17
                refine Wn.run (tab := tb_m_next) rfl 6 (c' := (265, [(3, .int (nI 1)), (2, .int (nI 0)), (1, .int (pkI T L z)), (0, .ref 114)], [.ref 114, .int ((nI 10) * (N.1 114 14)), .ref 114], N)) (o := [shp 114 = (0, 10)]) rfl rfl ?_
                rw [show (N.1 114 14) = n9 from (fr_eq hgr (show gr 14 = n9 from hn9))]
                refine Wn.callV (p := 114) (n := 1) (ix := 152) (ci := (10)) (fun r0 M0 => r0 = some (.int (pkI T L (z + i))) ∧ N = M0) [] [.int ((nI 10) * n9), .ref 114] rfl rfl rfl rfl (Nat.le_of_ble_eq_true rfl) (Nat.le_of_ble_eq_true rfl) (w_m_peek _ N T L (z + i) (by rw [hgr]; exact hfr_4) (by rw [hgr]; exact hfr_3) (by rw [loop_9]; exact hT) hL9 (by omega) _ ⟨rfl, rfl⟩) ?_
                rintro _ _ ⟨rfl, rfl⟩
                show Wn _ 57 _ (268, [(3, .int (nI 1)), (2, .int (nI 0)), (1, .int (pkI T L z)), (0, .ref 114)], [.int (pkI T L (z + i)), .int ((nI 10) * n9), .ref 114], N)
                refine Wn.run (tab := tb_m_next) rfl 4 (c' := (275, [(3, .int (nI 1)), (2, .int (nI 0)), (1, .int (pkI T L z)), (0, .ref 114)], [], (mI N 114 (upd (N.1 114) 14 ((((nI 10) * n9) + (pkI T L (z + i))) - (nI 48)))))) (o := [shp 114 = (0, 10)]) rfl rfl ?_
                generalize hM230 : (mI N 114 (upd (N.1 114) 14 ((((nI 10) * n9) + (pkI T L (z + i))) - (nI 48)))) = M229
                have hk231 := fI_up hM230 hgr
                have hu232 := fI_ne hM230 (by decide) loop_9
                have hF233 := fr_sI loop_10 hM230 (by decide)
                have hj234 := jc_oI hM230 hw9
                show Wn _ 57 _ (275, [(3, .int (nI 1)), (2, .int (nI 0)), (1, .int (pkI T L z)), (0, .ref 114)], [], M229)
                refine Wn.run (tab := tb_m_next) rfl 6 (c' := (285, [(3, .int (nI 1)), (2, .int (nI 0)), (1, .int (pkI T L z)), (0, .ref 114)], [], (mI M229 114 (upd (M229.1 114) 13 ((M229.1 114 13) + (nI 1)))))) (o := [shp 114 = (0, 10), shp 114 = (0, 10)]) rfl ⟨rfl, rfl⟩ ?_
                rw [show (M229.1 114 13) = (nI i) from (fr_eq hk231 (show (upd gr 14 ((((nI 10) * n9) + (pkI T L (z + i))) - (nI 48))) 13 = (nI i) from ((pk_un (by decide)).trans hfr_13)))]
                rw [show ((nI i) + (nI 1)) = (nI (i + 1)) from (n_add rfl rfl)]
                generalize hM236 : (mI M229 114 (upd (M229.1 114) 13 (nI (i + 1)))) = M235
                have hk237 := fI_up hM236 hk231
                have hu238 := fI_ne hM236 (by decide) hu232
                have hF239 := fr_sI hF233 hM236 (by decide)
                have hj240 := jc_oI hM236 hj234
                show Wn _ 57 _ (285, [(3, .int (nI 1)), (2, .int (nI 0)), (1, .int (pkI T L z)), (0, .ref 114)], [], M235)
                refine Wn.run (tab := tb_m_next) rfl 6 (c' := (295, [(3, .int (nI 1)), (2, .int (nI 0)), (1, .int (pkI T L z)), (0, .ref 114)], [], (mI M235 114 (upd (M235.1 114) 4 ((M235.1 114 4) + (nI 1)))))) (o := [shp 114 = (0, 10), shp 114 = (0, 10)]) rfl ⟨rfl, rfl⟩ ?_
                rw [show (M235.1 114 4) = (nI (z + i)) from (fr_eq hk237 (show (upd (upd gr 14 ((((nI 10) * n9) + (pkI T L (z + i))) - (nI 48))) 13 (nI (i + 1))) 4 = (nI (z + i)) from ((pk_un (by decide)).trans ((pk_un (by decide)).trans hfr_4))))]
                rw [show ((nI (z + i)) + (nI 1)) = (nI ((z + i) + 1)) from (n_add rfl rfl)]
                generalize hM242 : (mI M235 114 (upd (M235.1 114) 4 (nI ((z + i) + 1)))) = M241
                have hk243 := fI_up hM242 hk237
                have hu244 := fI_ne hM242 (by decide) hu238
                have hF245 := fr_sI hF239 hM242 (by decide)
                have hj246 := jc_oI hM242 hj240
                show Wn _ 57 _ (295, [(3, .int (nI 1)), (2, .int (nI 0)), (1, .int (pkI T L z)), (0, .ref 114)], [], M241)
                refine Wn.run (tab := tb_m_next) rfl 1 (c' := (181, [(3, .int (nI 1)), (2, .int (nI 0)), (1, .int (pkI T L z)), (0, .ref 114)], [], M241)) (o := []) rfl trivial ?_
                have q1 : isD (T (z + i)) := by omega
                have q2 : ¬ isS (T (z + i)) := by omega
                have e8 : nLt T z (i + 1) = nLt T z i + 0 := by show nLt T z i + (if isS (T (z + i)) then 1 else 0) = _; rw [if_neg q2]
                have e9 : nDg T z (i + 1) = nDg T z i + 1 := by show nDg T z i + (if isD (T (z + i)) then 1 else 0) = _; rw [if_pos q1]
                have e6 : nVl T z (i + 1) = 10 * nVl T z i + T (z + i) - 48 := by show (if isD (T (z + i)) then _ else _) = _; rw [if_pos q1]
                have e7 : nNm T z (i + 1) = nNm T z i := by show (if isS (T (z + i)) then _ else _) = _; rw [if_neg q2]
                have ea : (nI 1) = (b2 (nLt T z (i + 1) = 0)) := by rw [b2_t (by omega)]; rfl
                have key9 := ih ((L - z) - (i + 1)) (by omega) (i + 1) M241 rfl (by omega) (by rw [hk243]; exact pk_us) (by rw [hk243]; exact ((pk_un (by decide)).trans pk_us)) (by rw [hk243]; exact ((pk_un (by decide)).trans ((pk_un (by decide)).trans ((pk_un (by decide)).trans hfr_3)))) (by rw [hk243]; exact ((pk_un (by decide)).trans ((pk_un (by decide)).trans ((pk_un (by decide)).trans hfr_5)))) (by rw [hk243]; exact (Gx_up (Gx_up (Gx_up hxr (by decide)) (by decide)) (by decide))) (by rw [hk243]; exact ((pk_un (by decide)).trans ((pk_un (by decide)).trans ((pk_un (by decide)).trans hfr_12)))) (fun a1 a2 => by rw [hk243, show (upd (upd (upd gr 14 ((((nI 10) * n9) + (pkI T L (z + i))) - (nI 48))) 13 (nI (i + 1))) 4 (nI ((z + i) + 1))) 14 = ((((nI 10) * n9) + (pkI T L (z + i))) - (nI 48)) from ((pk_un (by decide)).trans ((pk_un (by decide)).trans pk_us)), e6, hnum (by omega) (by omega), pk_mul, pkI_y (by omega), nI_add, pk_sub (by omega)]) (fun a1 a2 => absurd a1 (by omega)) (fun k9 hk9 => (jo_I hM242 hk9 (jo_I hM236 hk9 (jo_I hM230 hk9 (loop_8 k9 hk9))))) hu244 hF245 (fun k9 hk => if e : k9 = i then (by rw [e]; exact ⟨by omega, by omega⟩) else loop_x0 k9 (by omega))
                rw [← ea] at key9
                exact key9
            · show Wn _ 57 _ (231, [(3, .int (nI 1)), (2, .int (nI 0)), (1, .int (pkI T L z)), (0, .ref 114)], [], N)
              have h16 := mt (n_le rfl (fr_eq hgr (show gr 13 = (nI i) from hfr_13)) (by omega) (by omega)).mpr h16
              refine Wn.run (tab := tb_m_next) rfl 6 (c' := (240, [(3, .int (nI 1)), (2, .int (nI 0)), (1, .int (pkI T L z)), (0, .ref 114)], [.ref 114, .long ((N.2.1 114 17) <<< (((nI 8)).toInt64 &&& 63)), .ref 114], N)) (o := [shp 114 = (0, 10)]) rfl rfl ?_
              rw [show (N.2.1 114 17) = w9 from hw9]
              refine Wn.callV (p := 114) (n := 1) (ix := 152) (ci := (10)) (fun r0 M0 => r0 = some (.int (pkI T L (z + i))) ∧ N = M0) [] [.long (w9 <<< (((nI 8)).toInt64 &&& 63)), .ref 114] rfl rfl rfl rfl (Nat.le_of_ble_eq_true rfl) (Nat.le_of_ble_eq_true rfl) (w_m_peek _ N T L (z + i) (by rw [hgr]; exact hfr_4) (by rw [hgr]; exact hfr_3) (by rw [loop_9]; exact hT) hL9 (by omega) _ ⟨rfl, rfl⟩) ?_
              rintro _ _ ⟨rfl, rfl⟩
              show Wn _ 57 _ (243, [(3, .int (nI 1)), (2, .int (nI 0)), (1, .int (pkI T L z)), (0, .ref 114)], [.int (pkI T L (z + i)), .long (w9 <<< (((nI 8)).toInt64 &&& 63)), .ref 114], N)
              refine Wn.run (tab := tb_m_next) rfl 3 (c' := (248, [(3, .int (nI 1)), (2, .int (nI 0)), (1, .int (pkI T L z)), (0, .ref 114)], [], (mJ N 114 (vp_updL (N.2.1 114) 17 ((w9 <<< (((nI 8)).toInt64 &&& 63)) ||| ((pkI T L (z + i))).toInt64))))) (o := [shp 114 = (0, 10)]) rfl rfl ?_
              generalize hM248 : (mJ N 114 (vp_updL (N.2.1 114) 17 ((w9 <<< (((nI 8)).toInt64 &&& 63)) ||| ((pkI T L (z + i))).toInt64))) = M247
              have hk249 := fI_oJ hM248 hgr
              have hu250 := fI_oJ hM248 loop_9
              have hF251 := fr_sJ loop_10 hM248 (by decide)
              have hj252 := jc_eq hM248
              show Wn _ 57 _ (248, [(3, .int (nI 1)), (2, .int (nI 0)), (1, .int (pkI T L z)), (0, .ref 114)], [], M247)
              refine Wn.run (tab := tb_m_next) rfl 4 (c' := (if (nI 3) ≤ (M247.1 114 13) then 275 else 256, [(3, .int (nI 1)), (2, .int (nI 0)), (1, .int (pkI T L z)), (0, .ref 114)], [], M247)) (o := [shp 114 = (0, 10)]) rfl rfl ?_
              refine Wn.br (fun h18 => ?_) (fun h18 => ?_)
              · show Wn _ 57 _ (275, [(3, .int (nI 1)), (2, .int (nI 0)), (1, .int (pkI T L z)), (0, .ref 114)], [], M247)
                have h18 := (n_le rfl (fr_eq hk249 (show gr 13 = (nI i) from hfr_13)) (by omega) (by omega)).mp h18
                refine Wn.run (tab := tb_m_next) rfl 6 (c' := (285, [(3, .int (nI 1)), (2, .int (nI 0)), (1, .int (pkI T L z)), (0, .ref 114)], [], (mI M247 114 (upd (M247.1 114) 13 ((M247.1 114 13) + (nI 1)))))) (o := [shp 114 = (0, 10), shp 114 = (0, 10)]) rfl ⟨rfl, rfl⟩ ?_
                rw [show (M247.1 114 13) = (nI i) from (fr_eq hk249 (show gr 13 = (nI i) from hfr_13))]
                rw [show ((nI i) + (nI 1)) = (nI (i + 1)) from (n_add rfl rfl)]
                generalize hM254 : (mI M247 114 (upd (M247.1 114) 13 (nI (i + 1)))) = M253
                have hk255 := fI_up hM254 hk249
                have hu256 := fI_ne hM254 (by decide) hu250
                have hF257 := fr_sI hF251 hM254 (by decide)
                have hj258 := jc_oI hM254 hj252
                show Wn _ 57 _ (285, [(3, .int (nI 1)), (2, .int (nI 0)), (1, .int (pkI T L z)), (0, .ref 114)], [], M253)
                refine Wn.run (tab := tb_m_next) rfl 6 (c' := (295, [(3, .int (nI 1)), (2, .int (nI 0)), (1, .int (pkI T L z)), (0, .ref 114)], [], (mI M253 114 (upd (M253.1 114) 4 ((M253.1 114 4) + (nI 1)))))) (o := [shp 114 = (0, 10), shp 114 = (0, 10)]) rfl ⟨rfl, rfl⟩ ?_
                rw [show (M253.1 114 4) = (nI (z + i)) from (fr_eq hk255 (show (upd gr 13 (nI (i + 1))) 4 = (nI (z + i)) from ((pk_un (by decide)).trans hfr_4)))]
                rw [show ((nI (z + i)) + (nI 1)) = (nI ((z + i) + 1)) from (n_add rfl rfl)]
                generalize hM260 : (mI M253 114 (upd (M253.1 114) 4 (nI ((z + i) + 1)))) = M259
                have hk261 := fI_up hM260 hk255
                have hu262 := fI_ne hM260 (by decide) hu256
                have hF263 := fr_sI hF257 hM260 (by decide)
                have hj264 := jc_oI hM260 hj258
                show Wn _ 57 _ (295, [(3, .int (nI 1)), (2, .int (nI 0)), (1, .int (pkI T L z)), (0, .ref 114)], [], M259)
                refine Wn.run (tab := tb_m_next) rfl 1 (c' := (181, [(3, .int (nI 1)), (2, .int (nI 0)), (1, .int (pkI T L z)), (0, .ref 114)], [], M259)) (o := []) rfl trivial ?_
                have q1 : isD (T (z + i)) := by omega
                have q2 : ¬ isS (T (z + i)) := by omega
                have e8 : nLt T z (i + 1) = nLt T z i + 0 := by show nLt T z i + (if isS (T (z + i)) then 1 else 0) = _; rw [if_neg q2]
                have e9 : nDg T z (i + 1) = nDg T z i + 1 := by show nDg T z i + (if isD (T (z + i)) then 1 else 0) = _; rw [if_pos q1]
                have e6 : nVl T z (i + 1) = 10 * nVl T z i + T (z + i) - 48 := by show (if isD (T (z + i)) then _ else _) = _; rw [if_pos q1]
                have e7 : nNm T z (i + 1) = nNm T z i := by show (if isS (T (z + i)) then _ else _) = _; rw [if_neg q2]
                have ea : (nI 1) = (b2 (nLt T z (i + 1) = 0)) := by rw [b2_t (by omega)]; rfl
                have key9 := ih ((L - z) - (i + 1)) (by omega) (i + 1) M259 rfl (by omega) (by rw [hk261]; exact pk_us) (by rw [hk261]; exact ((pk_un (by decide)).trans pk_us)) (by rw [hk261]; exact ((pk_un (by decide)).trans ((pk_un (by decide)).trans hfr_3))) (by rw [hk261]; exact ((pk_un (by decide)).trans ((pk_un (by decide)).trans hfr_5))) (by rw [hk261]; exact (Gx_up (Gx_up hxr (by decide)) (by decide))) (by rw [hk261]; exact ((pk_un (by decide)).trans ((pk_un (by decide)).trans hfr_12))) (fun a1 a2 => absurd a2 (by omega)) (fun a1 a2 => absurd a1 (by omega)) (fun k9 hk9 => (jo_I hM260 hk9 (jo_I hM254 hk9 (jo_J hM248 hk9 (loop_8 k9 hk9))))) hu262 hF263 (fun k9 hk => if e : k9 = i then (by rw [e]; exact ⟨by omega, by omega⟩) else loop_x0 k9 (by omega))
                rw [← ea] at key9
                exact key9
              · show Wn _ 57 _ (256, [(3, .int (nI 1)), (2, .int (nI 0)), (1, .int (pkI T L z)), (0, .ref 114)], [], M247)
                have h18 := mt (n_le rfl (fr_eq hk249 (show gr 13 = (nI i) from hfr_13)) (by omega) (by omega)).mpr h18
                refine Wn.run (tab := tb_m_next) rfl 6 (c' := (265, [(3, .int (nI 1)), (2, .int (nI 0)), (1, .int (pkI T L z)), (0, .ref 114)], [.ref 114, .int ((nI 10) * (M247.1 114 14)), .ref 114], M247)) (o := [shp 114 = (0, 10)]) rfl rfl ?_
                rw [show (M247.1 114 14) = n9 from (fr_eq hk249 (show gr 14 = n9 from hn9))]
                refine Wn.callV (p := 114) (n := 1) (ix := 152) (ci := (10)) (fun r0 M0 => r0 = some (.int (pkI T L (z + i))) ∧ M247 = M0) [] [.int ((nI 10) * n9), .ref 114] rfl rfl rfl rfl (Nat.le_of_ble_eq_true rfl) (Nat.le_of_ble_eq_true rfl) (w_m_peek _ M247 T L (z + i) (by rw [hk249]; exact hfr_4) (by rw [hk249]; exact hfr_3) (by rw [hu250]; exact hT) hL9 (by omega) _ ⟨rfl, rfl⟩) ?_
                rintro _ _ ⟨rfl, rfl⟩
                show Wn _ 57 _ (268, [(3, .int (nI 1)), (2, .int (nI 0)), (1, .int (pkI T L z)), (0, .ref 114)], [.int (pkI T L (z + i)), .int ((nI 10) * n9), .ref 114], M247)
                refine Wn.run (tab := tb_m_next) rfl 4 (c' := (275, [(3, .int (nI 1)), (2, .int (nI 0)), (1, .int (pkI T L z)), (0, .ref 114)], [], (mI M247 114 (upd (M247.1 114) 14 ((((nI 10) * n9) + (pkI T L (z + i))) - (nI 48)))))) (o := [shp 114 = (0, 10)]) rfl rfl ?_
                generalize hM266 : (mI M247 114 (upd (M247.1 114) 14 ((((nI 10) * n9) + (pkI T L (z + i))) - (nI 48)))) = M265
                have hk267 := fI_up hM266 hk249
                have hu268 := fI_ne hM266 (by decide) hu250
                have hF269 := fr_sI hF251 hM266 (by decide)
                have hj270 := jc_oI hM266 hj252
                show Wn _ 57 _ (275, [(3, .int (nI 1)), (2, .int (nI 0)), (1, .int (pkI T L z)), (0, .ref 114)], [], M265)
                refine Wn.run (tab := tb_m_next) rfl 6 (c' := (285, [(3, .int (nI 1)), (2, .int (nI 0)), (1, .int (pkI T L z)), (0, .ref 114)], [], (mI M265 114 (upd (M265.1 114) 13 ((M265.1 114 13) + (nI 1)))))) (o := [shp 114 = (0, 10), shp 114 = (0, 10)]) rfl ⟨rfl, rfl⟩ ?_
                rw [show (M265.1 114 13) = (nI i) from (fr_eq hk267 (show (upd gr 14 ((((nI 10) * n9) + (pkI T L (z + i))) - (nI 48))) 13 = (nI i) from ((pk_un (by decide)).trans hfr_13)))]
                rw [show ((nI i) + (nI 1)) = (nI (i + 1)) from (n_add rfl rfl)]
                generalize hM272 : (mI M265 114 (upd (M265.1 114) 13 (nI (i + 1)))) = M271
                have hk273 := fI_up hM272 hk267
                have hu274 := fI_ne hM272 (by decide) hu268
                have hF275 := fr_sI hF269 hM272 (by decide)
                have hj276 := jc_oI hM272 hj270
                show Wn _ 57 _ (285, [(3, .int (nI 1)), (2, .int (nI 0)), (1, .int (pkI T L z)), (0, .ref 114)], [], M271)
                refine Wn.run (tab := tb_m_next) rfl 6 (c' := (295, [(3, .int (nI 1)), (2, .int (nI 0)), (1, .int (pkI T L z)), (0, .ref 114)], [], (mI M271 114 (upd (M271.1 114) 4 ((M271.1 114 4) + (nI 1)))))) (o := [shp 114 = (0, 10), shp 114 = (0, 10)]) rfl ⟨rfl, rfl⟩ ?_
                rw [show (M271.1 114 4) = (nI (z + i)) from (fr_eq hk273 (show (upd (upd gr 14 ((((nI 10) * n9) + (pkI T L (z + i))) - (nI 48))) 13 (nI (i + 1))) 4 = (nI (z + i)) from ((pk_un (by decide)).trans ((pk_un (by decide)).trans hfr_4))))]
                rw [show ((nI (z + i)) + (nI 1)) = (nI ((z + i) + 1)) from (n_add rfl rfl)]
                generalize hM278 : (mI M271 114 (upd (M271.1 114) 4 (nI ((z + i) + 1)))) = M277
                have hk279 := fI_up hM278 hk273
                have hu280 := fI_ne hM278 (by decide) hu274
                have hF281 := fr_sI hF275 hM278 (by decide)
                have hj282 := jc_oI hM278 hj276
                show Wn _ 57 _ (295, [(3, .int (nI 1)), (2, .int (nI 0)), (1, .int (pkI T L z)), (0, .ref 114)], [], M277)
                refine Wn.run (tab := tb_m_next) rfl 1 (c' := (181, [(3, .int (nI 1)), (2, .int (nI 0)), (1, .int (pkI T L z)), (0, .ref 114)], [], M277)) (o := []) rfl trivial ?_
                have q1 : isD (T (z + i)) := by omega
                have q2 : ¬ isS (T (z + i)) := by omega
                have e8 : nLt T z (i + 1) = nLt T z i + 0 := by show nLt T z i + (if isS (T (z + i)) then 1 else 0) = _; rw [if_neg q2]
                have e9 : nDg T z (i + 1) = nDg T z i + 1 := by show nDg T z i + (if isD (T (z + i)) then 1 else 0) = _; rw [if_pos q1]
                have e6 : nVl T z (i + 1) = 10 * nVl T z i + T (z + i) - 48 := by show (if isD (T (z + i)) then _ else _) = _; rw [if_pos q1]
                have e7 : nNm T z (i + 1) = nNm T z i := by show (if isS (T (z + i)) then _ else _) = _; rw [if_neg q2]
                have ea : (nI 1) = (b2 (nLt T z (i + 1) = 0)) := by rw [b2_t (by omega)]; rfl
                have key9 := ih ((L - z) - (i + 1)) (by omega) (i + 1) M277 rfl (by omega) (by rw [hk279]; exact pk_us) (by rw [hk279]; exact ((pk_un (by decide)).trans pk_us)) (by rw [hk279]; exact ((pk_un (by decide)).trans ((pk_un (by decide)).trans ((pk_un (by decide)).trans hfr_3)))) (by rw [hk279]; exact ((pk_un (by decide)).trans ((pk_un (by decide)).trans ((pk_un (by decide)).trans hfr_5)))) (by rw [hk279]; exact (Gx_up (Gx_up (Gx_up hxr (by decide)) (by decide)) (by decide))) (by rw [hk279]; exact ((pk_un (by decide)).trans ((pk_un (by decide)).trans ((pk_un (by decide)).trans hfr_12)))) (fun a1 a2 => by rw [hk279, show (upd (upd (upd gr 14 ((((nI 10) * n9) + (pkI T L (z + i))) - (nI 48))) 13 (nI (i + 1))) 4 (nI ((z + i) + 1))) 14 = ((((nI 10) * n9) + (pkI T L (z + i))) - (nI 48)) from ((pk_un (by decide)).trans ((pk_un (by decide)).trans pk_us)), e6, hnum (by omega) (by omega), pk_mul, pkI_y (by omega), nI_add, pk_sub (by omega)]) (fun a1 a2 => absurd a1 (by omega)) (fun k9 hk9 => (jo_I hM278 hk9 (jo_I hM272 hk9 (jo_I hM266 hk9 (jo_J hM248 hk9 (loop_8 k9 hk9)))))) hu280 hF281 (fun k9 hk => if e : k9 = i then (by rw [e]; exact ⟨by omega, by omega⟩) else loop_x0 k9 (by omega))
                rw [← ea] at key9
                exact key9
  exact loop ((L - z) - 0) 0 N0 rfl (by omega) (by rw [hg1]; exact h4) (by rw [hg1]; exact h13) (by rw [hg1]; exact h3) (by rw [hg1]; exact h5) (by rw [hg1]; exact hx) (by rw [hg1]; exact h12) (fun a1 a2 => by rw [hg1]; exact h14) (fun a1 a2 => hj17) hjo hu hF (fun k9 hk => absurd hk (by omega))
set_option maxHeartbeats 4000000 in
set_option maxRecDepth 20000 in
theorem c_m_next (d : Nat) (M : Mm) (g u : Nat → Int32) (T : Nat → Nat) (L mo p : Nat) (hg : M.1 114 = g) (hL : g 3 = nI L) (hmo : g 5 = nI mo) (hp : g 4 = nI p) (hu : M.1 115 = u) (hT : TM u T L) (hL9 : L ≤ 940) (hm9 : mo ≤ 940) (hpL : p ≤ L) : Wn (d + 1) 57 (PNx M g T L mo p) (0, lv_args 0 [.ref 114], [], M) := by
  have hF := fr_rf [114] M
  obtain ⟨jj, hj⟩ : ∃ jj, M.2.1 114 = jj := ⟨_, rfl⟩
  have hTb : ∀ k, k < L → T k < 256 := fun k hk => (hT k hk).2
  have m9 := mn_le L mo
  have m8 := mn_or L mo
  have bl : ∀ (m z : Nat) (N : Mm), L - z = m → z ≤ L → (N.1 114 4 = (nI z)) → (Gx [4, 11, 12, 13, 14] g (N.1 114)) → (N.2.1 114 = jj) → (N.1 115 = u) → (Fr [114] M N) → (∀ i, p ≤ i → i < z → isB T L i) → (p ≤ z) → Wn (d + 1) 57 (PNx M g T L mo p) (0, [(0, .ref 114)], [], N) := by
    intro m
    induction m using Nat.strongRecOn with
    | _ m_bl ih_bl =>
      intro z N hm_bl hz bl_0 bl_1 bl_2 bl_3 bl_4 bl_x0 bl_x1
      obtain ⟨go, hgo⟩ : ∃ g9, N.1 114 = g9 := ⟨_, rfl⟩
      have hfo_4 : go 4 = (nI z) := by rw [← hgo]; exact bl_0
      have hxo : Gx [4, 11, 12, 13, 14] g go := by rw [← hgo]; exact bl_1
      have hfo_3 : go 3 = (nI L) := (hxo 3 (by decide)).trans hL
      have hfo_5 : go 5 = (nI mo) := (hxo 5 (by decide)).trans hmo
      have bl9 := bl_x0
      have t8 : z < L → T z < 256 := fun h => hTb _ h
      refine Wn.run (tab := tb_m_next) rfl 1 (c' := (1, [(0, .ref 114)], [.ref 114], N)) (o := []) rfl trivial ?_
      refine Wn.callV (p := 114) (n := 1) (ix := 152) (ci := (10)) (fun r0 M0 => r0 = some (.int (pkI T L z)) ∧ N = M0) [] [] rfl rfl rfl rfl (Nat.le_of_ble_eq_true rfl) (Nat.le_of_ble_eq_true rfl) (w_m_peek _ N T L z (by rw [hgo]; exact hfo_4) (by rw [hgo]; exact hfo_3) (by rw [bl_3]; exact hT) hL9 (by omega) _ ⟨rfl, rfl⟩) ?_
      rintro _ _ ⟨rfl, rfl⟩
      show Wn _ 57 _ (4, [(0, .ref 114)], [.int (pkI T L z)], N)
      refine Wn.run (tab := tb_m_next) rfl 2 (c' := (if (pkI T L z) = (nI 32) then 18 else 9, [(0, .ref 114)], [], N)) (o := []) rfl trivial ?_
      refine Wn.br (fun h1 => ?_) (fun h1 => ?_)
      · show Wn _ 57 _ (18, [(0, .ref 114)], [], N)
        have h1 := (pkI_eq hTb (by decide)).mp h1
        refine Wn.run (tab := tb_m_next) rfl 6 (c' := (28, [(0, .ref 114)], [], (mI N 114 (upd (N.1 114) 4 ((N.1 114 4) + (nI 1)))))) (o := [shp 114 = (0, 10), shp 114 = (0, 10)]) rfl ⟨rfl, rfl⟩ ?_
        rw [show (N.1 114 4) = (nI z) from (fr_eq hgo (show go 4 = (nI z) from hfo_4))]
        rw [show ((nI z) + (nI 1)) = (nI (z + 1)) from (n_add rfl rfl)]
        generalize hM2 : (mI N 114 (upd (N.1 114) 4 (nI (z + 1)))) = M1
        have hk3 := fI_up hM2 hgo
        have hk4 := fJ_oI hM2 bl_2
        have hu5 := fI_ne hM2 (by decide) bl_3
        have hF6 := fr_sI bl_4 hM2 (by decide)
        show Wn _ 57 _ (28, [(0, .ref 114)], [], M1)
        refine Wn.run (tab := tb_m_next) rfl 1 (c' := (0, [(0, .ref 114)], [], M1)) (o := []) rfl trivial ?_
        exact ih_bl (L - (z + 1)) (by omega) (z + 1) M1 rfl (by omega) (by rw [hk3]; exact pk_us) (by rw [hk3]; exact (Gx_up hxo (by decide))) hk4 hu5 hF6 (fun i hi hi2 => if e : i = z then (by rw [e]; exact ⟨by omega, by omega⟩) else bl_x0 i hi (by omega)) (by omega)
      · show Wn _ 57 _ (9, [(0, .ref 114)], [], N)
        have h1 := mt (pkI_eq hTb (by decide)).mpr h1
        refine Wn.run (tab := tb_m_next) rfl 1 (c' := (10, [(0, .ref 114)], [.ref 114], N)) (o := []) rfl trivial ?_
        refine Wn.callV (p := 114) (n := 1) (ix := 152) (ci := (10)) (fun r0 M0 => r0 = some (.int (pkI T L z)) ∧ N = M0) [] [] rfl rfl rfl rfl (Nat.le_of_ble_eq_true rfl) (Nat.le_of_ble_eq_true rfl) (w_m_peek _ N T L z (by rw [hgo]; exact hfo_4) (by rw [hgo]; exact hfo_3) (by rw [bl_3]; exact hT) hL9 (by omega) _ ⟨rfl, rfl⟩) ?_
        rintro _ _ ⟨rfl, rfl⟩
        show Wn _ 57 _ (13, [(0, .ref 114)], [.int (pkI T L z)], N)
        refine Wn.run (tab := tb_m_next) rfl 2 (c' := (if ¬ (pkI T L z) = (nI 10) then 31 else 18, [(0, .ref 114)], [], N)) (o := []) rfl trivial ?_
        refine Wn.br (fun h2 => ?_) (fun h2 => ?_)
        · show Wn _ 57 _ (31, [(0, .ref 114)], [], N)
          have h2 := mt (pkI_eq hTb (by decide)).mpr h2
          have sk9 : sk T L p = z := sk_at bl_x0 bl_x1 (by unfold isB; omega)
          have tc0 := tKd_cases (mo := mo) (p := p) hTb
          rw [sk9] at tc0
          refine Wn.run (tab := tb_m_next) rfl 4 (c' := (39, [(0, .ref 114)], [], (mI N 114 (upd (N.1 114) 12 (N.1 114 4))))) (o := [shp 114 = (0, 10), shp 114 = (0, 10)]) rfl ⟨rfl, rfl⟩ ?_
          rw [show (N.1 114 4) = (nI z) from (fr_eq hgo (show go 4 = (nI z) from hfo_4))]
          generalize hM8 : (mI N 114 (upd (N.1 114) 12 (nI z))) = M7
          have hk9 := fI_up hM8 hgo
          have hk10 := fJ_oI hM8 bl_2
          have hu11 := fI_ne hM8 (by decide) bl_3
          have hF12 := fr_sI bl_4 hM8 (by decide)
          show Wn _ 57 _ (39, [(0, .ref 114)], [], M7)
          refine Wn.run (tab := tb_m_next) rfl 3 (c' := (44, [(0, .ref 114)], [], (mI M7 114 (upd (M7.1 114) 13 (nI 0))))) (o := [shp 114 = (0, 10)]) rfl rfl ?_
          generalize hM14 : (mI M7 114 (upd (M7.1 114) 13 (nI 0))) = M13
          have hk15 := fI_up hM14 hk9
          have hk16 := fJ_oI hM14 hk10
          have hu17 := fI_ne hM14 (by decide) hu11
          have hF18 := fr_sI hF12 hM14 (by decide)
          show Wn _ 57 _ (44, [(0, .ref 114)], [], M13)
          refine Wn.run (tab := tb_m_next) rfl 5 (c' := (if (M13.1 114 3) ≤ (M13.1 114 5) then 80 else 55, [(0, .ref 114)], [], M13)) (o := [shp 114 = (0, 10), shp 114 = (0, 10)]) rfl ⟨rfl, rfl⟩ ?_
          refine Wn.br (fun h3 => ?_) (fun h3 => ?_)
          · show Wn _ 57 _ (80, [(0, .ref 114)], [], M13)
            have h3 := (n_le (fr_eq hk15 (show (upd (upd go 12 (nI z)) 13 (nI 0)) 3 = (nI L) from ((pk_un (by decide)).trans ((pk_un (by decide)).trans hfo_3)))) (fr_eq hk15 (show (upd (upd go 12 (nI z)) 13 (nI 0)) 5 = (nI mo) from ((pk_un (by decide)).trans ((pk_un (by decide)).trans hfo_5)))) (by omega) (by omega)).mp h3
            refine Wn.run (tab := tb_m_next) rfl 1 (c' := (81, [(0, .ref 114)], [.ref 114], M13)) (o := []) rfl trivial ?_
            refine Wn.callV (p := 114) (n := 1) (ix := 152) (ci := (10)) (fun r0 M0 => r0 = some (.int (pkI T L z)) ∧ M13 = M0) [] [] rfl rfl rfl rfl (Nat.le_of_ble_eq_true rfl) (Nat.le_of_ble_eq_true rfl) (w_m_peek _ M13 T L z (by rw [hk15]; exact ((pk_un (by decide)).trans ((pk_un (by decide)).trans hfo_4))) (by rw [hk15]; exact ((pk_un (by decide)).trans ((pk_un (by decide)).trans hfo_3))) (by rw [hu17]; exact hT) hL9 (by omega) _ ⟨rfl, rfl⟩) ?_
            rintro _ _ ⟨rfl, rfl⟩
            show Wn _ 57 _ (84, [(0, .ref 114)], [.int (pkI T L z)], M13)
            refine Wn.run (tab := tb_m_next) rfl 3 (c' := (if 0 ≤ (pkI T L z) then 95 else 89, [(1, .int (pkI T L z)), (0, .ref 114)], [], M13)) (o := []) rfl trivial ?_
            refine Wn.br (fun h4 => ?_) (fun h4 => ?_)
            · show Wn _ 57 _ (95, [(1, .int (pkI T L z)), (0, .ref 114)], [], M13)
              have h4 := (pkI_ge hTb).mp h4
              refine Wn.run (tab := tb_m_next) rfl 1 (c' := (96, [(1, .int (pkI T L z)), (0, .ref 114)], [.int (pkI T L z)], M13)) (o := []) rfl trivial ?_
              refine Wn.callS (n := 1) (ix := 165) (fun r0 M0 => r0 = some (.int (b2 (z < L ∧ isS (T z)))) ∧ M13 = M0) [.int (pkI T L z)] [] rfl rfl rfl (Nat.le_of_ble_eq_true rfl) (Nat.le_of_ble_eq_true rfl) (w_m_isSmallP _ T L z hTb M13 _ ⟨rfl, rfl⟩) ?_
              rintro _ _ ⟨rfl, rfl⟩
              show Wn _ 57 _ (99, [(1, .int (pkI T L z)), (0, .ref 114)], [.int (b2 (z < L ∧ isS (T z)))], M13)
              refine Wn.run (tab := tb_m_next) rfl 1 (c' := (if ¬ (b2 (z < L ∧ isS (T z))) = 0 then 164 else 102, [(1, .int (pkI T L z)), (0, .ref 114)], [], M13)) (o := []) rfl trivial ?_
              refine Wn.br (fun h5 => ?_) (fun h5 => ?_)
              · show Wn _ 57 _ (164, [(1, .int (pkI T L z)), (0, .ref 114)], [], M13)
                have h5 := b2_pos h5
                refine Wn.run (tab := tb_m_next) rfl 1 (c' := (165, [(1, .int (pkI T L z)), (0, .ref 114)], [.int (pkI T L z)], M13)) (o := []) rfl trivial ?_
                refine Wn.callS (n := 1) (ix := 165) (fun r0 M0 => r0 = some (.int (b2 (z < L ∧ isS (T z)))) ∧ M13 = M0) [.int (pkI T L z)] [] rfl rfl rfl (Nat.le_of_ble_eq_true rfl) (Nat.le_of_ble_eq_true rfl) (w_m_isSmallP _ T L z hTb M13 _ ⟨rfl, rfl⟩) ?_
                rintro _ _ ⟨rfl, rfl⟩
                show Wn _ 57 _ (168, [(1, .int (pkI T L z)), (0, .ref 114)], [.int (b2 (z < L ∧ isS (T z)))], M13)
                rw [show (b2 (z < L ∧ isS (T z))) = (nI 1) from (b2_t (by omega))]
                refine Wn.run (tab := tb_m_next) rfl 6 (c' := (176, [(3, .int (nI 1)), (2, .int (nI 1)), (1, .int (pkI T L z)), (0, .ref 114)], [], (mJ M13 114 (vp_updL (M13.2.1 114) 17 (0 : Int64))))) (o := [shp 114 = (0, 10)]) rfl rfl ?_
                generalize hM20 : (mJ M13 114 (vp_updL (M13.2.1 114) 17 (0 : Int64))) = M19
                have hk21 := fI_oJ hM20 hk15
                have hk22 := fJ_up hM20 hk16
                have hu23 := fI_oJ hM20 hu17
                have hF24 := fr_sJ hF18 hM20 (by decide)
                show Wn _ 57 _ (176, [(3, .int (nI 1)), (2, .int (nI 1)), (1, .int (pkI T L z)), (0, .ref 114)], [], M19)
                refine Wn.run (tab := tb_m_next) rfl 3 (c' := (181, [(3, .int (nI 1)), (2, .int (nI 1)), (1, .int (pkI T L z)), (0, .ref 114)], [], (mI M19 114 (upd (M19.1 114) 14 (nI 0))))) (o := [shp 114 = (0, 10)]) rfl rfl ?_
                generalize hM26 : (mI M19 114 (upd (M19.1 114) 14 (nI 0))) = M25
                have hk27 := fI_up hM26 hk21
                have hk28 := fJ_oI hM26 hk22
                have hu29 := fI_ne hM26 (by decide) hu23
                have hF30 := fr_sI hF24 hM26 (by decide)
                show Wn _ 57 _ (181, [(3, .int (nI 1)), (2, .int (nI 1)), (1, .int (pkI T L z)), (0, .ref 114)], [], M25)
                exact next_runS d M M25 g (upd (upd (upd go 12 (nI z)) 13 (nI 0)) 14 (nI 0)) jj u T L mo p z hk27 (show (upd (upd (upd go 12 (nI z)) 13 (nI 0)) 14 (nI 0)) 3 = nI L from ((pk_un (by decide)).trans ((pk_un (by decide)).trans ((pk_un (by decide)).trans hfo_3)))) (show (upd (upd (upd go 12 (nI z)) 13 (nI 0)) 14 (nI 0)) 5 = nI mo from ((pk_un (by decide)).trans ((pk_un (by decide)).trans ((pk_un (by decide)).trans hfo_5)))) (show (upd (upd (upd go 12 (nI z)) 13 (nI 0)) 14 (nI 0)) 4 = nI z from ((pk_un (by decide)).trans ((pk_un (by decide)).trans ((pk_un (by decide)).trans hfo_4)))) (show (upd (upd (upd go 12 (nI z)) 13 (nI 0)) 14 (nI 0)) 12 = nI z from ((pk_un (by decide)).trans ((pk_un (by decide)).trans pk_us))) (show (upd (upd (upd go 12 (nI z)) 13 (nI 0)) 14 (nI 0)) 13 = nI 0 from ((pk_un (by decide)).trans pk_us)) (show (upd (upd (upd go 12 (nI z)) 13 (nI 0)) 14 (nI 0)) 14 = nI 0 from pk_us) (Gx_up (Gx_up (Gx_up hxo (by decide)) (by decide)) (by decide)) (by rw [hk28]; exact pk_uLs) (fun k9 hk9 => by rw [hk28]; exact pk_uLn hk9) hj hu29 hT hF30 hL9 hm9 hpL sk9 (by omega) (by omega)
              · show Wn _ 57 _ (102, [(1, .int (pkI T L z)), (0, .ref 114)], [], M13)
                have h5 := b2_nneg h5
                refine Wn.run (tab := tb_m_next) rfl 1 (c' := (103, [(1, .int (pkI T L z)), (0, .ref 114)], [.int (pkI T L z)], M13)) (o := []) rfl trivial ?_
                refine Wn.callS (n := 1) (ix := 169) (fun r0 M0 => r0 = some (.int (b2 (z < L ∧ isD (T z)))) ∧ M13 = M0) [.int (pkI T L z)] [] rfl rfl rfl (Nat.le_of_ble_eq_true rfl) (Nat.le_of_ble_eq_true rfl) (w_m_isDigitP _ T L z hTb M13 _ ⟨rfl, rfl⟩) ?_
                rintro _ _ ⟨rfl, rfl⟩
                show Wn _ 57 _ (106, [(1, .int (pkI T L z)), (0, .ref 114)], [.int (b2 (z < L ∧ isD (T z)))], M13)
                refine Wn.run (tab := tb_m_next) rfl 1 (c' := (if ¬ (b2 (z < L ∧ isD (T z))) = 0 then 164 else 109, [(1, .int (pkI T L z)), (0, .ref 114)], [], M13)) (o := []) rfl trivial ?_
                refine Wn.br (fun h6 => ?_) (fun h6 => ?_)
                · show Wn _ 57 _ (164, [(1, .int (pkI T L z)), (0, .ref 114)], [], M13)
                  have h6 := b2_pos h6
                  refine Wn.run (tab := tb_m_next) rfl 1 (c' := (165, [(1, .int (pkI T L z)), (0, .ref 114)], [.int (pkI T L z)], M13)) (o := []) rfl trivial ?_
                  refine Wn.callS (n := 1) (ix := 165) (fun r0 M0 => r0 = some (.int (b2 (z < L ∧ isS (T z)))) ∧ M13 = M0) [.int (pkI T L z)] [] rfl rfl rfl (Nat.le_of_ble_eq_true rfl) (Nat.le_of_ble_eq_true rfl) (w_m_isSmallP _ T L z hTb M13 _ ⟨rfl, rfl⟩) ?_
                  rintro _ _ ⟨rfl, rfl⟩
                  show Wn _ 57 _ (168, [(1, .int (pkI T L z)), (0, .ref 114)], [.int (b2 (z < L ∧ isS (T z)))], M13)
                  rw [show (b2 (z < L ∧ isS (T z))) = (nI 0) from (b2_f (by omega))]
                  refine Wn.run (tab := tb_m_next) rfl 6 (c' := (176, [(3, .int (nI 1)), (2, .int (nI 0)), (1, .int (pkI T L z)), (0, .ref 114)], [], (mJ M13 114 (vp_updL (M13.2.1 114) 17 (0 : Int64))))) (o := [shp 114 = (0, 10)]) rfl rfl ?_
                  generalize hM32 : (mJ M13 114 (vp_updL (M13.2.1 114) 17 (0 : Int64))) = M31
                  have hk33 := fI_oJ hM32 hk15
                  have hk34 := fJ_up hM32 hk16
                  have hu35 := fI_oJ hM32 hu17
                  have hF36 := fr_sJ hF18 hM32 (by decide)
                  show Wn _ 57 _ (176, [(3, .int (nI 1)), (2, .int (nI 0)), (1, .int (pkI T L z)), (0, .ref 114)], [], M31)
                  refine Wn.run (tab := tb_m_next) rfl 3 (c' := (181, [(3, .int (nI 1)), (2, .int (nI 0)), (1, .int (pkI T L z)), (0, .ref 114)], [], (mI M31 114 (upd (M31.1 114) 14 (nI 0))))) (o := [shp 114 = (0, 10)]) rfl rfl ?_
                  generalize hM38 : (mI M31 114 (upd (M31.1 114) 14 (nI 0))) = M37
                  have hk39 := fI_up hM38 hk33
                  have hk40 := fJ_oI hM38 hk34
                  have hu41 := fI_ne hM38 (by decide) hu35
                  have hF42 := fr_sI hF36 hM38 (by decide)
                  show Wn _ 57 _ (181, [(3, .int (nI 1)), (2, .int (nI 0)), (1, .int (pkI T L z)), (0, .ref 114)], [], M37)
                  exact next_runD d M M37 g (upd (upd (upd go 12 (nI z)) 13 (nI 0)) 14 (nI 0)) jj u T L mo p z hk39 (show (upd (upd (upd go 12 (nI z)) 13 (nI 0)) 14 (nI 0)) 3 = nI L from ((pk_un (by decide)).trans ((pk_un (by decide)).trans ((pk_un (by decide)).trans hfo_3)))) (show (upd (upd (upd go 12 (nI z)) 13 (nI 0)) 14 (nI 0)) 5 = nI mo from ((pk_un (by decide)).trans ((pk_un (by decide)).trans ((pk_un (by decide)).trans hfo_5)))) (show (upd (upd (upd go 12 (nI z)) 13 (nI 0)) 14 (nI 0)) 4 = nI z from ((pk_un (by decide)).trans ((pk_un (by decide)).trans ((pk_un (by decide)).trans hfo_4)))) (show (upd (upd (upd go 12 (nI z)) 13 (nI 0)) 14 (nI 0)) 12 = nI z from ((pk_un (by decide)).trans ((pk_un (by decide)).trans pk_us))) (show (upd (upd (upd go 12 (nI z)) 13 (nI 0)) 14 (nI 0)) 13 = nI 0 from ((pk_un (by decide)).trans pk_us)) (show (upd (upd (upd go 12 (nI z)) 13 (nI 0)) 14 (nI 0)) 14 = nI 0 from pk_us) (Gx_up (Gx_up (Gx_up hxo (by decide)) (by decide)) (by decide)) (by rw [hk40]; exact pk_uLs) (fun k9 hk9 => by rw [hk40]; exact pk_uLn hk9) hj hu41 hT hF42 hL9 hm9 hpL sk9 (by omega) (by omega)
                · show Wn _ 57 _ (109, [(1, .int (pkI T L z)), (0, .ref 114)], [], M13)
                  have h6 := b2_nneg h6
                  refine Wn.run (tab := tb_m_next) rfl 4 (c' := (if (pkI T L z) = (nI 59) then 140 else 116, [(1, .int (pkI T L z)), (0, .ref 114)], [.ref 114], M13)) (o := []) rfl trivial ?_
                  refine Wn.br (fun h7 => ?_) (fun h7 => ?_)
                  · show Wn _ 57 _ (140, [(1, .int (pkI T L z)), (0, .ref 114)], [.ref 114], M13)
                    have h7 := (pkI_eq hTb (by decide)).mp h7
                    refine Wn.run (tab := tb_m_next) rfl 3 (c' := (148, [(1, .int (pkI T L z)), (0, .ref 114)], [], (mI M13 114 (upd (M13.1 114) 11 (nI 3))))) (o := [shp 114 = (0, 10)]) rfl rfl ?_
                    generalize hM44 : (mI M13 114 (upd (M13.1 114) 11 (nI 3))) = M43
                    have hk45 := fI_up hM44 hk15
                    have hk46 := fJ_oI hM44 hk16
                    have hu47 := fI_ne hM44 (by decide) hu17
                    have hF48 := fr_sI hF18 hM44 (by decide)
                    show Wn _ 57 _ (148, [(1, .int (pkI T L z)), (0, .ref 114)], [], M43)
                    refine Wn.run (tab := tb_m_next) rfl 3 (c' := (153, [(1, .int (pkI T L z)), (0, .ref 114)], [], (mI M43 114 (upd (M43.1 114) 14 (pkI T L z))))) (o := [shp 114 = (0, 10)]) rfl rfl ?_
                    generalize hM50 : (mI M43 114 (upd (M43.1 114) 14 (pkI T L z))) = M49
                    have hk51 := fI_up hM50 hk45
                    have hk52 := fJ_oI hM50 hk46
                    have hu53 := fI_ne hM50 (by decide) hu47
                    have hF54 := fr_sI hF48 hM50 (by decide)
                    show Wn _ 57 _ (153, [(1, .int (pkI T L z)), (0, .ref 114)], [], M49)
                    refine Wn.run (tab := tb_m_next) rfl 6 (c' := (163, [(1, .int (pkI T L z)), (0, .ref 114)], [], (mI M49 114 (upd (M49.1 114) 4 ((M49.1 114 4) + (nI 1)))))) (o := [shp 114 = (0, 10), shp 114 = (0, 10)]) rfl ⟨rfl, rfl⟩ ?_
                    rw [show (M49.1 114 4) = (nI z) from (fr_eq hk51 (show (upd (upd (upd (upd go 12 (nI z)) 13 (nI 0)) 11 (nI 3)) 14 (pkI T L z)) 4 = (nI z) from ((pk_un (by decide)).trans ((pk_un (by decide)).trans ((pk_un (by decide)).trans ((pk_un (by decide)).trans hfo_4))))))]
                    rw [show ((nI z) + (nI 1)) = (nI (z + 1)) from (n_add rfl rfl)]
                    generalize hM56 : (mI M49 114 (upd (M49.1 114) 4 (nI (z + 1)))) = M55
                    have hk57 := fI_up hM56 hk51
                    have hk58 := fJ_oI hM56 hk52
                    have hu59 := fI_ne hM56 (by decide) hu53
                    have hF60 := fr_sI hF54 hM56 (by decide)
                    show Wn _ 57 _ (163, [(1, .int (pkI T L z)), (0, .ref 114)], [], M55)
                    have hzB : z < mn L mo := by omega
                    have e3 : tAt T L mo p = z := by unfold tAt; rw [sk9]; exact if_pos hzB
                    have er : tRl T L p = 0 := by unfold tRl; rw [sk9]; exact rl_eq (fun k9 hk => absurd hk (by omega)) (by unfold isW; rw [Nat.add_zero]; omega)
                    rw [er] at tc0
                    have sg := kc_sg (T z) (by omega)
                    rw [← nI_64 (show T z < 2 ^ 31 by omega)] at sg
                    have e2 : 4 ≤ tKd T L mo p ∧ tKd T L mo p ≤ 9 := by omega
                    have e4 : tCd (tKd T L mo p) = 3 := by unfold tCd; (repeat (first | omega | split))
                    refine Wn.vret rfl ⟨rfl, ⟨by rw [hk57]; exact ((pk_un (by decide)).trans ((pk_un (by decide)).trans ((pk_un (by decide)).trans ((pk_un (by decide)).trans ((pk_un (by decide)).trans hfo_3))))), by rw [hk57]; exact ((pk_un (by decide)).trans ((pk_un (by decide)).trans ((pk_un (by decide)).trans ((pk_un (by decide)).trans ((pk_un (by decide)).trans hfo_5))))), by rw [hk57, e3]; exact ((pk_un (by decide)).trans ((pk_un (by decide)).trans ((pk_un (by decide)).trans ((pk_un (by decide)).trans pk_us)))), by rw [hk57, e4]; exact ((pk_un (by decide)).trans ((pk_un (by decide)).trans pk_us)), fun q1 q2 => ?_, fun q1 => ?_, fun q1 => ?_, fun q1 => ?_, by rw [hu59]; exact hT, hL9, hm9, hpL⟩, by rw [hk57]; exact (Gx_up (Gx_up (Gx_up (Gx_up (Gx_up hxo (by decide)) (by decide)) (by decide)) (by decide)) (by decide)), fun k9 hk9 => ?_, hF60⟩
                    · exact (by rw [hk57, show tNx T L p = z + 1 from by unfold tNx; rw [er, if_pos rfl, sk9]]; exact pk_us)
                    · exact absurd q1 (by omega)
                    · exact (by rw [hk57, sk9, ← pkI_y (T := T) (L := L) (z := z) (by omega)]; exact ((pk_un (by decide)).trans pk_us))
                    · exact absurd q1 (by omega)
                    · rw [hk58, hj]
                  · show Wn _ 57 _ (116, [(1, .int (pkI T L z)), (0, .ref 114)], [.ref 114], M13)
                    have h7 := mt (pkI_eq hTb (by decide)).mpr h7
                    refine Wn.run (tab := tb_m_next) rfl 3 (c' := (if (pkI T L z) = (nI 40) then 140 else 122, [(1, .int (pkI T L z)), (0, .ref 114)], [.ref 114], M13)) (o := []) rfl trivial ?_
                    refine Wn.br (fun h8 => ?_) (fun h8 => ?_)
                    · show Wn _ 57 _ (140, [(1, .int (pkI T L z)), (0, .ref 114)], [.ref 114], M13)
                      have h8 := (pkI_eq hTb (by decide)).mp h8
                      refine Wn.run (tab := tb_m_next) rfl 3 (c' := (148, [(1, .int (pkI T L z)), (0, .ref 114)], [], (mI M13 114 (upd (M13.1 114) 11 (nI 3))))) (o := [shp 114 = (0, 10)]) rfl rfl ?_
                      generalize hM62 : (mI M13 114 (upd (M13.1 114) 11 (nI 3))) = M61
                      have hk63 := fI_up hM62 hk15
                      have hk64 := fJ_oI hM62 hk16
                      have hu65 := fI_ne hM62 (by decide) hu17
                      have hF66 := fr_sI hF18 hM62 (by decide)
                      show Wn _ 57 _ (148, [(1, .int (pkI T L z)), (0, .ref 114)], [], M61)
                      refine Wn.run (tab := tb_m_next) rfl 3 (c' := (153, [(1, .int (pkI T L z)), (0, .ref 114)], [], (mI M61 114 (upd (M61.1 114) 14 (pkI T L z))))) (o := [shp 114 = (0, 10)]) rfl rfl ?_
                      generalize hM68 : (mI M61 114 (upd (M61.1 114) 14 (pkI T L z))) = M67
                      have hk69 := fI_up hM68 hk63
                      have hk70 := fJ_oI hM68 hk64
                      have hu71 := fI_ne hM68 (by decide) hu65
                      have hF72 := fr_sI hF66 hM68 (by decide)
                      show Wn _ 57 _ (153, [(1, .int (pkI T L z)), (0, .ref 114)], [], M67)
                      refine Wn.run (tab := tb_m_next) rfl 6 (c' := (163, [(1, .int (pkI T L z)), (0, .ref 114)], [], (mI M67 114 (upd (M67.1 114) 4 ((M67.1 114 4) + (nI 1)))))) (o := [shp 114 = (0, 10), shp 114 = (0, 10)]) rfl ⟨rfl, rfl⟩ ?_
                      rw [show (M67.1 114 4) = (nI z) from (fr_eq hk69 (show (upd (upd (upd (upd go 12 (nI z)) 13 (nI 0)) 11 (nI 3)) 14 (pkI T L z)) 4 = (nI z) from ((pk_un (by decide)).trans ((pk_un (by decide)).trans ((pk_un (by decide)).trans ((pk_un (by decide)).trans hfo_4))))))]
                      rw [show ((nI z) + (nI 1)) = (nI (z + 1)) from (n_add rfl rfl)]
                      generalize hM74 : (mI M67 114 (upd (M67.1 114) 4 (nI (z + 1)))) = M73
                      have hk75 := fI_up hM74 hk69
                      have hk76 := fJ_oI hM74 hk70
                      have hu77 := fI_ne hM74 (by decide) hu71
                      have hF78 := fr_sI hF72 hM74 (by decide)
                      show Wn _ 57 _ (163, [(1, .int (pkI T L z)), (0, .ref 114)], [], M73)
                      have hzB : z < mn L mo := by omega
                      have e3 : tAt T L mo p = z := by unfold tAt; rw [sk9]; exact if_pos hzB
                      have er : tRl T L p = 0 := by unfold tRl; rw [sk9]; exact rl_eq (fun k9 hk => absurd hk (by omega)) (by unfold isW; rw [Nat.add_zero]; omega)
                      rw [er] at tc0
                      have sg := kc_sg (T z) (by omega)
                      rw [← nI_64 (show T z < 2 ^ 31 by omega)] at sg
                      have e2 : 4 ≤ tKd T L mo p ∧ tKd T L mo p ≤ 9 := by omega
                      have e4 : tCd (tKd T L mo p) = 3 := by unfold tCd; (repeat (first | omega | split))
                      refine Wn.vret rfl ⟨rfl, ⟨by rw [hk75]; exact ((pk_un (by decide)).trans ((pk_un (by decide)).trans ((pk_un (by decide)).trans ((pk_un (by decide)).trans ((pk_un (by decide)).trans hfo_3))))), by rw [hk75]; exact ((pk_un (by decide)).trans ((pk_un (by decide)).trans ((pk_un (by decide)).trans ((pk_un (by decide)).trans ((pk_un (by decide)).trans hfo_5))))), by rw [hk75, e3]; exact ((pk_un (by decide)).trans ((pk_un (by decide)).trans ((pk_un (by decide)).trans ((pk_un (by decide)).trans pk_us)))), by rw [hk75, e4]; exact ((pk_un (by decide)).trans ((pk_un (by decide)).trans pk_us)), fun q1 q2 => ?_, fun q1 => ?_, fun q1 => ?_, fun q1 => ?_, by rw [hu77]; exact hT, hL9, hm9, hpL⟩, by rw [hk75]; exact (Gx_up (Gx_up (Gx_up (Gx_up (Gx_up hxo (by decide)) (by decide)) (by decide)) (by decide)) (by decide)), fun k9 hk9 => ?_, hF78⟩
                      · exact (by rw [hk75, show tNx T L p = z + 1 from by unfold tNx; rw [er, if_pos rfl, sk9]]; exact pk_us)
                      · exact absurd q1 (by omega)
                      · exact (by rw [hk75, sk9, ← pkI_y (T := T) (L := L) (z := z) (by omega)]; exact ((pk_un (by decide)).trans pk_us))
                      · exact absurd q1 (by omega)
                      · rw [hk76, hj]
                    · show Wn _ 57 _ (122, [(1, .int (pkI T L z)), (0, .ref 114)], [.ref 114], M13)
                      have h8 := mt (pkI_eq hTb (by decide)).mpr h8
                      refine Wn.run (tab := tb_m_next) rfl 3 (c' := (if (pkI T L z) = (nI 41) then 140 else 128, [(1, .int (pkI T L z)), (0, .ref 114)], [.ref 114], M13)) (o := []) rfl trivial ?_
                      refine Wn.br (fun h9 => ?_) (fun h9 => ?_)
                      · show Wn _ 57 _ (140, [(1, .int (pkI T L z)), (0, .ref 114)], [.ref 114], M13)
                        have h9 := (pkI_eq hTb (by decide)).mp h9
                        refine Wn.run (tab := tb_m_next) rfl 3 (c' := (148, [(1, .int (pkI T L z)), (0, .ref 114)], [], (mI M13 114 (upd (M13.1 114) 11 (nI 3))))) (o := [shp 114 = (0, 10)]) rfl rfl ?_
                        generalize hM80 : (mI M13 114 (upd (M13.1 114) 11 (nI 3))) = M79
                        have hk81 := fI_up hM80 hk15
                        have hk82 := fJ_oI hM80 hk16
                        have hu83 := fI_ne hM80 (by decide) hu17
                        have hF84 := fr_sI hF18 hM80 (by decide)
                        show Wn _ 57 _ (148, [(1, .int (pkI T L z)), (0, .ref 114)], [], M79)
                        refine Wn.run (tab := tb_m_next) rfl 3 (c' := (153, [(1, .int (pkI T L z)), (0, .ref 114)], [], (mI M79 114 (upd (M79.1 114) 14 (pkI T L z))))) (o := [shp 114 = (0, 10)]) rfl rfl ?_
                        generalize hM86 : (mI M79 114 (upd (M79.1 114) 14 (pkI T L z))) = M85
                        have hk87 := fI_up hM86 hk81
                        have hk88 := fJ_oI hM86 hk82
                        have hu89 := fI_ne hM86 (by decide) hu83
                        have hF90 := fr_sI hF84 hM86 (by decide)
                        show Wn _ 57 _ (153, [(1, .int (pkI T L z)), (0, .ref 114)], [], M85)
                        refine Wn.run (tab := tb_m_next) rfl 6 (c' := (163, [(1, .int (pkI T L z)), (0, .ref 114)], [], (mI M85 114 (upd (M85.1 114) 4 ((M85.1 114 4) + (nI 1)))))) (o := [shp 114 = (0, 10), shp 114 = (0, 10)]) rfl ⟨rfl, rfl⟩ ?_
                        rw [show (M85.1 114 4) = (nI z) from (fr_eq hk87 (show (upd (upd (upd (upd go 12 (nI z)) 13 (nI 0)) 11 (nI 3)) 14 (pkI T L z)) 4 = (nI z) from ((pk_un (by decide)).trans ((pk_un (by decide)).trans ((pk_un (by decide)).trans ((pk_un (by decide)).trans hfo_4))))))]
                        rw [show ((nI z) + (nI 1)) = (nI (z + 1)) from (n_add rfl rfl)]
                        generalize hM92 : (mI M85 114 (upd (M85.1 114) 4 (nI (z + 1)))) = M91
                        have hk93 := fI_up hM92 hk87
                        have hk94 := fJ_oI hM92 hk88
                        have hu95 := fI_ne hM92 (by decide) hu89
                        have hF96 := fr_sI hF90 hM92 (by decide)
                        show Wn _ 57 _ (163, [(1, .int (pkI T L z)), (0, .ref 114)], [], M91)
                        have hzB : z < mn L mo := by omega
                        have e3 : tAt T L mo p = z := by unfold tAt; rw [sk9]; exact if_pos hzB
                        have er : tRl T L p = 0 := by unfold tRl; rw [sk9]; exact rl_eq (fun k9 hk => absurd hk (by omega)) (by unfold isW; rw [Nat.add_zero]; omega)
                        rw [er] at tc0
                        have sg := kc_sg (T z) (by omega)
                        rw [← nI_64 (show T z < 2 ^ 31 by omega)] at sg
                        have e2 : 4 ≤ tKd T L mo p ∧ tKd T L mo p ≤ 9 := by omega
                        have e4 : tCd (tKd T L mo p) = 3 := by unfold tCd; (repeat (first | omega | split))
                        refine Wn.vret rfl ⟨rfl, ⟨by rw [hk93]; exact ((pk_un (by decide)).trans ((pk_un (by decide)).trans ((pk_un (by decide)).trans ((pk_un (by decide)).trans ((pk_un (by decide)).trans hfo_3))))), by rw [hk93]; exact ((pk_un (by decide)).trans ((pk_un (by decide)).trans ((pk_un (by decide)).trans ((pk_un (by decide)).trans ((pk_un (by decide)).trans hfo_5))))), by rw [hk93, e3]; exact ((pk_un (by decide)).trans ((pk_un (by decide)).trans ((pk_un (by decide)).trans ((pk_un (by decide)).trans pk_us)))), by rw [hk93, e4]; exact ((pk_un (by decide)).trans ((pk_un (by decide)).trans pk_us)), fun q1 q2 => ?_, fun q1 => ?_, fun q1 => ?_, fun q1 => ?_, by rw [hu95]; exact hT, hL9, hm9, hpL⟩, by rw [hk93]; exact (Gx_up (Gx_up (Gx_up (Gx_up (Gx_up hxo (by decide)) (by decide)) (by decide)) (by decide)) (by decide)), fun k9 hk9 => ?_, hF96⟩
                        · exact (by rw [hk93, show tNx T L p = z + 1 from by unfold tNx; rw [er, if_pos rfl, sk9]]; exact pk_us)
                        · exact absurd q1 (by omega)
                        · exact (by rw [hk93, sk9, ← pkI_y (T := T) (L := L) (z := z) (by omega)]; exact ((pk_un (by decide)).trans pk_us))
                        · exact absurd q1 (by omega)
                        · rw [hk94, hj]
                      · show Wn _ 57 _ (128, [(1, .int (pkI T L z)), (0, .ref 114)], [.ref 114], M13)
                        have h9 := mt (pkI_eq hTb (by decide)).mpr h9
                        refine Wn.run (tab := tb_m_next) rfl 3 (c' := (if (pkI T L z) < (nI 60) then 144 else 134, [(1, .int (pkI T L z)), (0, .ref 114)], [.ref 114], M13)) (o := []) rfl trivial ?_
                        refine Wn.br (fun h10 => ?_) (fun h10 => ?_)
                        · show Wn _ 57 _ (144, [(1, .int (pkI T L z)), (0, .ref 114)], [.ref 114], M13)
                          rw [pkI_y (show z < L by omega)] at h10
                          have tz9 := hTb z (by omega)
                          have h10 := (n_lt rfl rfl (by omega) (by omega)).mp h10
                          refine Wn.run (tab := tb_m_next) rfl 2 (c' := (148, [(1, .int (pkI T L z)), (0, .ref 114)], [], (mI M13 114 (upd (M13.1 114) 11 (nI 4))))) (o := [shp 114 = (0, 10)]) rfl rfl ?_
                          generalize hM98 : (mI M13 114 (upd (M13.1 114) 11 (nI 4))) = M97
                          have hk99 := fI_up hM98 hk15
                          have hk100 := fJ_oI hM98 hk16
                          have hu101 := fI_ne hM98 (by decide) hu17
                          have hF102 := fr_sI hF18 hM98 (by decide)
                          show Wn _ 57 _ (148, [(1, .int (pkI T L z)), (0, .ref 114)], [], M97)
                          refine Wn.run (tab := tb_m_next) rfl 3 (c' := (153, [(1, .int (pkI T L z)), (0, .ref 114)], [], (mI M97 114 (upd (M97.1 114) 14 (pkI T L z))))) (o := [shp 114 = (0, 10)]) rfl rfl ?_
                          generalize hM104 : (mI M97 114 (upd (M97.1 114) 14 (pkI T L z))) = M103
                          have hk105 := fI_up hM104 hk99
                          have hk106 := fJ_oI hM104 hk100
                          have hu107 := fI_ne hM104 (by decide) hu101
                          have hF108 := fr_sI hF102 hM104 (by decide)
                          show Wn _ 57 _ (153, [(1, .int (pkI T L z)), (0, .ref 114)], [], M103)
                          refine Wn.run (tab := tb_m_next) rfl 6 (c' := (163, [(1, .int (pkI T L z)), (0, .ref 114)], [], (mI M103 114 (upd (M103.1 114) 4 ((M103.1 114 4) + (nI 1)))))) (o := [shp 114 = (0, 10), shp 114 = (0, 10)]) rfl ⟨rfl, rfl⟩ ?_
                          rw [show (M103.1 114 4) = (nI z) from (fr_eq hk105 (show (upd (upd (upd (upd go 12 (nI z)) 13 (nI 0)) 11 (nI 4)) 14 (pkI T L z)) 4 = (nI z) from ((pk_un (by decide)).trans ((pk_un (by decide)).trans ((pk_un (by decide)).trans ((pk_un (by decide)).trans hfo_4))))))]
                          rw [show ((nI z) + (nI 1)) = (nI (z + 1)) from (n_add rfl rfl)]
                          generalize hM110 : (mI M103 114 (upd (M103.1 114) 4 (nI (z + 1)))) = M109
                          have hk111 := fI_up hM110 hk105
                          have hk112 := fJ_oI hM110 hk106
                          have hu113 := fI_ne hM110 (by decide) hu107
                          have hF114 := fr_sI hF108 hM110 (by decide)
                          show Wn _ 57 _ (163, [(1, .int (pkI T L z)), (0, .ref 114)], [], M109)
                          have hzB : z < mn L mo := by omega
                          have e3 : tAt T L mo p = z := by unfold tAt; rw [sk9]; exact if_pos hzB
                          have er : tRl T L p = 0 := by unfold tRl; rw [sk9]; exact rl_eq (fun k9 hk => absurd hk (by omega)) (by unfold isW; rw [Nat.add_zero]; omega)
                          rw [er] at tc0
                          have sg := kc_sg (T z) (by omega)
                          rw [← nI_64 (show T z < 2 ^ 31 by omega)] at sg
                          have e2 : tKd T L mo p = 1 := by omega
                          have e4 : tCd (tKd T L mo p) = 4 := by rw [e2]; rfl
                          refine Wn.vret rfl ⟨rfl, ⟨by rw [hk111]; exact ((pk_un (by decide)).trans ((pk_un (by decide)).trans ((pk_un (by decide)).trans ((pk_un (by decide)).trans ((pk_un (by decide)).trans hfo_3))))), by rw [hk111]; exact ((pk_un (by decide)).trans ((pk_un (by decide)).trans ((pk_un (by decide)).trans ((pk_un (by decide)).trans ((pk_un (by decide)).trans hfo_5))))), by rw [hk111, e3]; exact ((pk_un (by decide)).trans ((pk_un (by decide)).trans ((pk_un (by decide)).trans ((pk_un (by decide)).trans pk_us)))), by rw [hk111, e4]; exact ((pk_un (by decide)).trans ((pk_un (by decide)).trans pk_us)), fun q1 q2 => ?_, fun q1 => ?_, fun q1 => ?_, fun q1 => ?_, by rw [hu113]; exact hT, hL9, hm9, hpL⟩, by rw [hk111]; exact (Gx_up (Gx_up (Gx_up (Gx_up (Gx_up hxo (by decide)) (by decide)) (by decide)) (by decide)) (by decide)), fun k9 hk9 => ?_, hF114⟩
                          · exact (by rw [hk111, show tNx T L p = z + 1 from by unfold tNx; rw [er, if_pos rfl, sk9]]; exact pk_us)
                          · exact absurd q1 (by omega)
                          · exact absurd q1 (by omega)
                          · exact absurd q1 (by omega)
                          · rw [hk112, hj]
                        · show Wn _ 57 _ (134, [(1, .int (pkI T L z)), (0, .ref 114)], [.ref 114], M13)
                          rw [pkI_y (show z < L by omega)] at h10
                          have tz9 := hTb z (by omega)
                          have h10 := mt (n_lt rfl rfl (by omega) (by omega)).mpr h10
                          refine Wn.run (tab := tb_m_next) rfl 3 (c' := (if (nI 62) < (pkI T L z) then 144 else 140, [(1, .int (pkI T L z)), (0, .ref 114)], [.ref 114], M13)) (o := []) rfl trivial ?_
                          refine Wn.br (fun h11 => ?_) (fun h11 => ?_)
                          · show Wn _ 57 _ (144, [(1, .int (pkI T L z)), (0, .ref 114)], [.ref 114], M13)
                            rw [pkI_y (show z < L by omega)] at h11
                            have tz9 := hTb z (by omega)
                            have h11 := (n_lt rfl rfl (by omega) (by omega)).mp h11
                            refine Wn.run (tab := tb_m_next) rfl 2 (c' := (148, [(1, .int (pkI T L z)), (0, .ref 114)], [], (mI M13 114 (upd (M13.1 114) 11 (nI 4))))) (o := [shp 114 = (0, 10)]) rfl rfl ?_
                            generalize hM116 : (mI M13 114 (upd (M13.1 114) 11 (nI 4))) = M115
                            have hk117 := fI_up hM116 hk15
                            have hk118 := fJ_oI hM116 hk16
                            have hu119 := fI_ne hM116 (by decide) hu17
                            have hF120 := fr_sI hF18 hM116 (by decide)
                            show Wn _ 57 _ (148, [(1, .int (pkI T L z)), (0, .ref 114)], [], M115)
                            refine Wn.run (tab := tb_m_next) rfl 3 (c' := (153, [(1, .int (pkI T L z)), (0, .ref 114)], [], (mI M115 114 (upd (M115.1 114) 14 (pkI T L z))))) (o := [shp 114 = (0, 10)]) rfl rfl ?_
                            generalize hM122 : (mI M115 114 (upd (M115.1 114) 14 (pkI T L z))) = M121
                            have hk123 := fI_up hM122 hk117
                            have hk124 := fJ_oI hM122 hk118
                            have hu125 := fI_ne hM122 (by decide) hu119
                            have hF126 := fr_sI hF120 hM122 (by decide)
                            show Wn _ 57 _ (153, [(1, .int (pkI T L z)), (0, .ref 114)], [], M121)
                            refine Wn.run (tab := tb_m_next) rfl 6 (c' := (163, [(1, .int (pkI T L z)), (0, .ref 114)], [], (mI M121 114 (upd (M121.1 114) 4 ((M121.1 114 4) + (nI 1)))))) (o := [shp 114 = (0, 10), shp 114 = (0, 10)]) rfl ⟨rfl, rfl⟩ ?_
                            rw [show (M121.1 114 4) = (nI z) from (fr_eq hk123 (show (upd (upd (upd (upd go 12 (nI z)) 13 (nI 0)) 11 (nI 4)) 14 (pkI T L z)) 4 = (nI z) from ((pk_un (by decide)).trans ((pk_un (by decide)).trans ((pk_un (by decide)).trans ((pk_un (by decide)).trans hfo_4))))))]
                            rw [show ((nI z) + (nI 1)) = (nI (z + 1)) from (n_add rfl rfl)]
                            generalize hM128 : (mI M121 114 (upd (M121.1 114) 4 (nI (z + 1)))) = M127
                            have hk129 := fI_up hM128 hk123
                            have hk130 := fJ_oI hM128 hk124
                            have hu131 := fI_ne hM128 (by decide) hu125
                            have hF132 := fr_sI hF126 hM128 (by decide)
                            show Wn _ 57 _ (163, [(1, .int (pkI T L z)), (0, .ref 114)], [], M127)
                            have hzB : z < mn L mo := by omega
                            have e3 : tAt T L mo p = z := by unfold tAt; rw [sk9]; exact if_pos hzB
                            have er : tRl T L p = 0 := by unfold tRl; rw [sk9]; exact rl_eq (fun k9 hk => absurd hk (by omega)) (by unfold isW; rw [Nat.add_zero]; omega)
                            rw [er] at tc0
                            have sg := kc_sg (T z) (by omega)
                            rw [← nI_64 (show T z < 2 ^ 31 by omega)] at sg
                            have e2 : tKd T L mo p = 1 := by omega
                            have e4 : tCd (tKd T L mo p) = 4 := by rw [e2]; rfl
                            refine Wn.vret rfl ⟨rfl, ⟨by rw [hk129]; exact ((pk_un (by decide)).trans ((pk_un (by decide)).trans ((pk_un (by decide)).trans ((pk_un (by decide)).trans ((pk_un (by decide)).trans hfo_3))))), by rw [hk129]; exact ((pk_un (by decide)).trans ((pk_un (by decide)).trans ((pk_un (by decide)).trans ((pk_un (by decide)).trans ((pk_un (by decide)).trans hfo_5))))), by rw [hk129, e3]; exact ((pk_un (by decide)).trans ((pk_un (by decide)).trans ((pk_un (by decide)).trans ((pk_un (by decide)).trans pk_us)))), by rw [hk129, e4]; exact ((pk_un (by decide)).trans ((pk_un (by decide)).trans pk_us)), fun q1 q2 => ?_, fun q1 => ?_, fun q1 => ?_, fun q1 => ?_, by rw [hu131]; exact hT, hL9, hm9, hpL⟩, by rw [hk129]; exact (Gx_up (Gx_up (Gx_up (Gx_up (Gx_up hxo (by decide)) (by decide)) (by decide)) (by decide)) (by decide)), fun k9 hk9 => ?_, hF132⟩
                            · exact (by rw [hk129, show tNx T L p = z + 1 from by unfold tNx; rw [er, if_pos rfl, sk9]]; exact pk_us)
                            · exact absurd q1 (by omega)
                            · exact absurd q1 (by omega)
                            · exact absurd q1 (by omega)
                            · rw [hk130, hj]
                          · show Wn _ 57 _ (140, [(1, .int (pkI T L z)), (0, .ref 114)], [.ref 114], M13)
                            rw [pkI_y (show z < L by omega)] at h11
                            have tz9 := hTb z (by omega)
                            have h11 := mt (n_lt rfl rfl (by omega) (by omega)).mpr h11
                            refine Wn.run (tab := tb_m_next) rfl 3 (c' := (148, [(1, .int (pkI T L z)), (0, .ref 114)], [], (mI M13 114 (upd (M13.1 114) 11 (nI 3))))) (o := [shp 114 = (0, 10)]) rfl rfl ?_
                            generalize hM134 : (mI M13 114 (upd (M13.1 114) 11 (nI 3))) = M133
                            have hk135 := fI_up hM134 hk15
                            have hk136 := fJ_oI hM134 hk16
                            have hu137 := fI_ne hM134 (by decide) hu17
                            have hF138 := fr_sI hF18 hM134 (by decide)
                            show Wn _ 57 _ (148, [(1, .int (pkI T L z)), (0, .ref 114)], [], M133)
                            refine Wn.run (tab := tb_m_next) rfl 3 (c' := (153, [(1, .int (pkI T L z)), (0, .ref 114)], [], (mI M133 114 (upd (M133.1 114) 14 (pkI T L z))))) (o := [shp 114 = (0, 10)]) rfl rfl ?_
                            generalize hM140 : (mI M133 114 (upd (M133.1 114) 14 (pkI T L z))) = M139
                            have hk141 := fI_up hM140 hk135
                            have hk142 := fJ_oI hM140 hk136
                            have hu143 := fI_ne hM140 (by decide) hu137
                            have hF144 := fr_sI hF138 hM140 (by decide)
                            show Wn _ 57 _ (153, [(1, .int (pkI T L z)), (0, .ref 114)], [], M139)
                            refine Wn.run (tab := tb_m_next) rfl 6 (c' := (163, [(1, .int (pkI T L z)), (0, .ref 114)], [], (mI M139 114 (upd (M139.1 114) 4 ((M139.1 114 4) + (nI 1)))))) (o := [shp 114 = (0, 10), shp 114 = (0, 10)]) rfl ⟨rfl, rfl⟩ ?_
                            rw [show (M139.1 114 4) = (nI z) from (fr_eq hk141 (show (upd (upd (upd (upd go 12 (nI z)) 13 (nI 0)) 11 (nI 3)) 14 (pkI T L z)) 4 = (nI z) from ((pk_un (by decide)).trans ((pk_un (by decide)).trans ((pk_un (by decide)).trans ((pk_un (by decide)).trans hfo_4))))))]
                            rw [show ((nI z) + (nI 1)) = (nI (z + 1)) from (n_add rfl rfl)]
                            generalize hM146 : (mI M139 114 (upd (M139.1 114) 4 (nI (z + 1)))) = M145
                            have hk147 := fI_up hM146 hk141
                            have hk148 := fJ_oI hM146 hk142
                            have hu149 := fI_ne hM146 (by decide) hu143
                            have hF150 := fr_sI hF144 hM146 (by decide)
                            show Wn _ 57 _ (163, [(1, .int (pkI T L z)), (0, .ref 114)], [], M145)
                            have hzB : z < mn L mo := by omega
                            have e3 : tAt T L mo p = z := by unfold tAt; rw [sk9]; exact if_pos hzB
                            have er : tRl T L p = 0 := by unfold tRl; rw [sk9]; exact rl_eq (fun k9 hk => absurd hk (by omega)) (by unfold isW; rw [Nat.add_zero]; omega)
                            rw [er] at tc0
                            have sg := kc_sg (T z) (by omega)
                            rw [← nI_64 (show T z < 2 ^ 31 by omega)] at sg
                            have e2 : 4 ≤ tKd T L mo p ∧ tKd T L mo p ≤ 9 := by omega
                            have e4 : tCd (tKd T L mo p) = 3 := by unfold tCd; (repeat (first | omega | split))
                            refine Wn.vret rfl ⟨rfl, ⟨by rw [hk147]; exact ((pk_un (by decide)).trans ((pk_un (by decide)).trans ((pk_un (by decide)).trans ((pk_un (by decide)).trans ((pk_un (by decide)).trans hfo_3))))), by rw [hk147]; exact ((pk_un (by decide)).trans ((pk_un (by decide)).trans ((pk_un (by decide)).trans ((pk_un (by decide)).trans ((pk_un (by decide)).trans hfo_5))))), by rw [hk147, e3]; exact ((pk_un (by decide)).trans ((pk_un (by decide)).trans ((pk_un (by decide)).trans ((pk_un (by decide)).trans pk_us)))), by rw [hk147, e4]; exact ((pk_un (by decide)).trans ((pk_un (by decide)).trans pk_us)), fun q1 q2 => ?_, fun q1 => ?_, fun q1 => ?_, fun q1 => ?_, by rw [hu149]; exact hT, hL9, hm9, hpL⟩, by rw [hk147]; exact (Gx_up (Gx_up (Gx_up (Gx_up (Gx_up hxo (by decide)) (by decide)) (by decide)) (by decide)) (by decide)), fun k9 hk9 => ?_, hF150⟩
                            · exact (by rw [hk147, show tNx T L p = z + 1 from by unfold tNx; rw [er, if_pos rfl, sk9]]; exact pk_us)
                            · exact absurd q1 (by omega)
                            · exact (by rw [hk147, sk9, ← pkI_y (T := T) (L := L) (z := z) (by omega)]; exact ((pk_un (by decide)).trans pk_us))
                            · exact absurd q1 (by omega)
                            · rw [hk148, hj]
            · show Wn _ 57 _ (89, [(1, .int (pkI T L z)), (0, .ref 114)], [], M13)
              have h4 := mt (pkI_ge hTb).mpr h4
              refine Wn.run (tab := tb_m_next) rfl 3 (c' := (94, [(1, .int (pkI T L z)), (0, .ref 114)], [], (mI M13 114 (upd (M13.1 114) 11 (nI 0))))) (o := [shp 114 = (0, 10)]) rfl rfl ?_
              generalize hM152 : (mI M13 114 (upd (M13.1 114) 11 (nI 0))) = M151
              have hk153 := fI_up hM152 hk15
              have hk154 := fJ_oI hM152 hk16
              have hu155 := fI_ne hM152 (by decide) hu17
              have hF156 := fr_sI hF18 hM152 (by decide)
              show Wn _ 57 _ (94, [(1, .int (pkI T L z)), (0, .ref 114)], [], M151)
              have e2 : tKd T L mo p = 0 := by omega
              have e4 : tCd (tKd T L mo p) = 0 := by rw [e2]; rfl
              have e3 : tAt T L mo p = z := by unfold tAt; rw [sk9, mn_B (a := z) (B := mn L mo) (by omega)]; omega
              refine Wn.vret rfl ⟨rfl, ⟨by rw [hk153]; exact ((pk_un (by decide)).trans ((pk_un (by decide)).trans ((pk_un (by decide)).trans hfo_3))), by rw [hk153]; exact ((pk_un (by decide)).trans ((pk_un (by decide)).trans ((pk_un (by decide)).trans hfo_5))), by rw [hk153, e3]; exact ((pk_un (by decide)).trans ((pk_un (by decide)).trans pk_us)), by rw [hk153, e4]; exact pk_us, fun q1 q2 => ?_, fun q1 => ?_, fun q1 => ?_, fun q1 => ?_, by rw [hu155]; exact hT, hL9, hm9, hpL⟩, by rw [hk153]; exact (Gx_up (Gx_up (Gx_up hxo (by decide)) (by decide)) (by decide)), fun k9 hk9 => ?_, hF156⟩
              · exact absurd e2 q1
              · exact absurd q1 (by omega)
              · exact absurd q1 (by omega)
              · exact absurd q1 (by omega)
              · rw [hk154, hj]
          · show Wn _ 57 _ (55, [(0, .ref 114)], [], M13)
            have h3 := mt (n_le (fr_eq hk15 (show (upd (upd go 12 (nI z)) 13 (nI 0)) 3 = (nI L) from ((pk_un (by decide)).trans ((pk_un (by decide)).trans hfo_3)))) (fr_eq hk15 (show (upd (upd go 12 (nI z)) 13 (nI 0)) 5 = (nI mo) from ((pk_un (by decide)).trans ((pk_un (by decide)).trans hfo_5)))) (by omega) (by omega)).mpr h3
            refine Wn.run (tab := tb_m_next) rfl 5 (c' := (if (M13.1 114 4) < (M13.1 114 5) then 80 else 66, [(0, .ref 114)], [], M13)) (o := [shp 114 = (0, 10), shp 114 = (0, 10)]) rfl ⟨rfl, rfl⟩ ?_
            refine Wn.br (fun h12 => ?_) (fun h12 => ?_)
            · show Wn _ 57 _ (80, [(0, .ref 114)], [], M13)
              have h12 := (n_lt (fr_eq hk15 (show (upd (upd go 12 (nI z)) 13 (nI 0)) 4 = (nI z) from ((pk_un (by decide)).trans ((pk_un (by decide)).trans hfo_4)))) (fr_eq hk15 (show (upd (upd go 12 (nI z)) 13 (nI 0)) 5 = (nI mo) from ((pk_un (by decide)).trans ((pk_un (by decide)).trans hfo_5)))) (by omega) (by omega)).mp h12
              refine Wn.run (tab := tb_m_next) rfl 1 (c' := (81, [(0, .ref 114)], [.ref 114], M13)) (o := []) rfl trivial ?_
              refine Wn.callV (p := 114) (n := 1) (ix := 152) (ci := (10)) (fun r0 M0 => r0 = some (.int (pkI T L z)) ∧ M13 = M0) [] [] rfl rfl rfl rfl (Nat.le_of_ble_eq_true rfl) (Nat.le_of_ble_eq_true rfl) (w_m_peek _ M13 T L z (by rw [hk15]; exact ((pk_un (by decide)).trans ((pk_un (by decide)).trans hfo_4))) (by rw [hk15]; exact ((pk_un (by decide)).trans ((pk_un (by decide)).trans hfo_3))) (by rw [hu17]; exact hT) hL9 (by omega) _ ⟨rfl, rfl⟩) ?_
              rintro _ _ ⟨rfl, rfl⟩
              show Wn _ 57 _ (84, [(0, .ref 114)], [.int (pkI T L z)], M13)
              refine Wn.run (tab := tb_m_next) rfl 3 (c' := (if 0 ≤ (pkI T L z) then 95 else 89, [(1, .int (pkI T L z)), (0, .ref 114)], [], M13)) (o := []) rfl trivial ?_
              refine Wn.br (fun h13 => ?_) (fun h13 => ?_)
              · show Wn _ 57 _ (95, [(1, .int (pkI T L z)), (0, .ref 114)], [], M13)
                have h13 := (pkI_ge hTb).mp h13
                refine Wn.run (tab := tb_m_next) rfl 1 (c' := (96, [(1, .int (pkI T L z)), (0, .ref 114)], [.int (pkI T L z)], M13)) (o := []) rfl trivial ?_
                refine Wn.callS (n := 1) (ix := 165) (fun r0 M0 => r0 = some (.int (b2 (z < L ∧ isS (T z)))) ∧ M13 = M0) [.int (pkI T L z)] [] rfl rfl rfl (Nat.le_of_ble_eq_true rfl) (Nat.le_of_ble_eq_true rfl) (w_m_isSmallP _ T L z hTb M13 _ ⟨rfl, rfl⟩) ?_
                rintro _ _ ⟨rfl, rfl⟩
                show Wn _ 57 _ (99, [(1, .int (pkI T L z)), (0, .ref 114)], [.int (b2 (z < L ∧ isS (T z)))], M13)
                refine Wn.run (tab := tb_m_next) rfl 1 (c' := (if ¬ (b2 (z < L ∧ isS (T z))) = 0 then 164 else 102, [(1, .int (pkI T L z)), (0, .ref 114)], [], M13)) (o := []) rfl trivial ?_
                refine Wn.br (fun h14 => ?_) (fun h14 => ?_)
                · show Wn _ 57 _ (164, [(1, .int (pkI T L z)), (0, .ref 114)], [], M13)
                  have h14 := b2_pos h14
                  refine Wn.run (tab := tb_m_next) rfl 1 (c' := (165, [(1, .int (pkI T L z)), (0, .ref 114)], [.int (pkI T L z)], M13)) (o := []) rfl trivial ?_
                  refine Wn.callS (n := 1) (ix := 165) (fun r0 M0 => r0 = some (.int (b2 (z < L ∧ isS (T z)))) ∧ M13 = M0) [.int (pkI T L z)] [] rfl rfl rfl (Nat.le_of_ble_eq_true rfl) (Nat.le_of_ble_eq_true rfl) (w_m_isSmallP _ T L z hTb M13 _ ⟨rfl, rfl⟩) ?_
                  rintro _ _ ⟨rfl, rfl⟩
                  show Wn _ 57 _ (168, [(1, .int (pkI T L z)), (0, .ref 114)], [.int (b2 (z < L ∧ isS (T z)))], M13)
                  rw [show (b2 (z < L ∧ isS (T z))) = (nI 1) from (b2_t (by omega))]
                  refine Wn.run (tab := tb_m_next) rfl 6 (c' := (176, [(3, .int (nI 1)), (2, .int (nI 1)), (1, .int (pkI T L z)), (0, .ref 114)], [], (mJ M13 114 (vp_updL (M13.2.1 114) 17 (0 : Int64))))) (o := [shp 114 = (0, 10)]) rfl rfl ?_
                  generalize hM158 : (mJ M13 114 (vp_updL (M13.2.1 114) 17 (0 : Int64))) = M157
                  have hk159 := fI_oJ hM158 hk15
                  have hk160 := fJ_up hM158 hk16
                  have hu161 := fI_oJ hM158 hu17
                  have hF162 := fr_sJ hF18 hM158 (by decide)
                  show Wn _ 57 _ (176, [(3, .int (nI 1)), (2, .int (nI 1)), (1, .int (pkI T L z)), (0, .ref 114)], [], M157)
                  refine Wn.run (tab := tb_m_next) rfl 3 (c' := (181, [(3, .int (nI 1)), (2, .int (nI 1)), (1, .int (pkI T L z)), (0, .ref 114)], [], (mI M157 114 (upd (M157.1 114) 14 (nI 0))))) (o := [shp 114 = (0, 10)]) rfl rfl ?_
                  generalize hM164 : (mI M157 114 (upd (M157.1 114) 14 (nI 0))) = M163
                  have hk165 := fI_up hM164 hk159
                  have hk166 := fJ_oI hM164 hk160
                  have hu167 := fI_ne hM164 (by decide) hu161
                  have hF168 := fr_sI hF162 hM164 (by decide)
                  show Wn _ 57 _ (181, [(3, .int (nI 1)), (2, .int (nI 1)), (1, .int (pkI T L z)), (0, .ref 114)], [], M163)
                  exact next_runS d M M163 g (upd (upd (upd go 12 (nI z)) 13 (nI 0)) 14 (nI 0)) jj u T L mo p z hk165 (show (upd (upd (upd go 12 (nI z)) 13 (nI 0)) 14 (nI 0)) 3 = nI L from ((pk_un (by decide)).trans ((pk_un (by decide)).trans ((pk_un (by decide)).trans hfo_3)))) (show (upd (upd (upd go 12 (nI z)) 13 (nI 0)) 14 (nI 0)) 5 = nI mo from ((pk_un (by decide)).trans ((pk_un (by decide)).trans ((pk_un (by decide)).trans hfo_5)))) (show (upd (upd (upd go 12 (nI z)) 13 (nI 0)) 14 (nI 0)) 4 = nI z from ((pk_un (by decide)).trans ((pk_un (by decide)).trans ((pk_un (by decide)).trans hfo_4)))) (show (upd (upd (upd go 12 (nI z)) 13 (nI 0)) 14 (nI 0)) 12 = nI z from ((pk_un (by decide)).trans ((pk_un (by decide)).trans pk_us))) (show (upd (upd (upd go 12 (nI z)) 13 (nI 0)) 14 (nI 0)) 13 = nI 0 from ((pk_un (by decide)).trans pk_us)) (show (upd (upd (upd go 12 (nI z)) 13 (nI 0)) 14 (nI 0)) 14 = nI 0 from pk_us) (Gx_up (Gx_up (Gx_up hxo (by decide)) (by decide)) (by decide)) (by rw [hk166]; exact pk_uLs) (fun k9 hk9 => by rw [hk166]; exact pk_uLn hk9) hj hu167 hT hF168 hL9 hm9 hpL sk9 (by omega) (by omega)
                · show Wn _ 57 _ (102, [(1, .int (pkI T L z)), (0, .ref 114)], [], M13)
                  have h14 := b2_nneg h14
                  refine Wn.run (tab := tb_m_next) rfl 1 (c' := (103, [(1, .int (pkI T L z)), (0, .ref 114)], [.int (pkI T L z)], M13)) (o := []) rfl trivial ?_
                  refine Wn.callS (n := 1) (ix := 169) (fun r0 M0 => r0 = some (.int (b2 (z < L ∧ isD (T z)))) ∧ M13 = M0) [.int (pkI T L z)] [] rfl rfl rfl (Nat.le_of_ble_eq_true rfl) (Nat.le_of_ble_eq_true rfl) (w_m_isDigitP _ T L z hTb M13 _ ⟨rfl, rfl⟩) ?_
                  rintro _ _ ⟨rfl, rfl⟩
                  show Wn _ 57 _ (106, [(1, .int (pkI T L z)), (0, .ref 114)], [.int (b2 (z < L ∧ isD (T z)))], M13)
                  refine Wn.run (tab := tb_m_next) rfl 1 (c' := (if ¬ (b2 (z < L ∧ isD (T z))) = 0 then 164 else 109, [(1, .int (pkI T L z)), (0, .ref 114)], [], M13)) (o := []) rfl trivial ?_
                  refine Wn.br (fun h15 => ?_) (fun h15 => ?_)
                  · show Wn _ 57 _ (164, [(1, .int (pkI T L z)), (0, .ref 114)], [], M13)
                    have h15 := b2_pos h15
                    refine Wn.run (tab := tb_m_next) rfl 1 (c' := (165, [(1, .int (pkI T L z)), (0, .ref 114)], [.int (pkI T L z)], M13)) (o := []) rfl trivial ?_
                    refine Wn.callS (n := 1) (ix := 165) (fun r0 M0 => r0 = some (.int (b2 (z < L ∧ isS (T z)))) ∧ M13 = M0) [.int (pkI T L z)] [] rfl rfl rfl (Nat.le_of_ble_eq_true rfl) (Nat.le_of_ble_eq_true rfl) (w_m_isSmallP _ T L z hTb M13 _ ⟨rfl, rfl⟩) ?_
                    rintro _ _ ⟨rfl, rfl⟩
                    show Wn _ 57 _ (168, [(1, .int (pkI T L z)), (0, .ref 114)], [.int (b2 (z < L ∧ isS (T z)))], M13)
                    rw [show (b2 (z < L ∧ isS (T z))) = (nI 0) from (b2_f (by omega))]
                    refine Wn.run (tab := tb_m_next) rfl 6 (c' := (176, [(3, .int (nI 1)), (2, .int (nI 0)), (1, .int (pkI T L z)), (0, .ref 114)], [], (mJ M13 114 (vp_updL (M13.2.1 114) 17 (0 : Int64))))) (o := [shp 114 = (0, 10)]) rfl rfl ?_
                    generalize hM170 : (mJ M13 114 (vp_updL (M13.2.1 114) 17 (0 : Int64))) = M169
                    have hk171 := fI_oJ hM170 hk15
                    have hk172 := fJ_up hM170 hk16
                    have hu173 := fI_oJ hM170 hu17
                    have hF174 := fr_sJ hF18 hM170 (by decide)
                    show Wn _ 57 _ (176, [(3, .int (nI 1)), (2, .int (nI 0)), (1, .int (pkI T L z)), (0, .ref 114)], [], M169)
                    refine Wn.run (tab := tb_m_next) rfl 3 (c' := (181, [(3, .int (nI 1)), (2, .int (nI 0)), (1, .int (pkI T L z)), (0, .ref 114)], [], (mI M169 114 (upd (M169.1 114) 14 (nI 0))))) (o := [shp 114 = (0, 10)]) rfl rfl ?_
                    generalize hM176 : (mI M169 114 (upd (M169.1 114) 14 (nI 0))) = M175
                    have hk177 := fI_up hM176 hk171
                    have hk178 := fJ_oI hM176 hk172
                    have hu179 := fI_ne hM176 (by decide) hu173
                    have hF180 := fr_sI hF174 hM176 (by decide)
                    show Wn _ 57 _ (181, [(3, .int (nI 1)), (2, .int (nI 0)), (1, .int (pkI T L z)), (0, .ref 114)], [], M175)
                    exact next_runD d M M175 g (upd (upd (upd go 12 (nI z)) 13 (nI 0)) 14 (nI 0)) jj u T L mo p z hk177 (show (upd (upd (upd go 12 (nI z)) 13 (nI 0)) 14 (nI 0)) 3 = nI L from ((pk_un (by decide)).trans ((pk_un (by decide)).trans ((pk_un (by decide)).trans hfo_3)))) (show (upd (upd (upd go 12 (nI z)) 13 (nI 0)) 14 (nI 0)) 5 = nI mo from ((pk_un (by decide)).trans ((pk_un (by decide)).trans ((pk_un (by decide)).trans hfo_5)))) (show (upd (upd (upd go 12 (nI z)) 13 (nI 0)) 14 (nI 0)) 4 = nI z from ((pk_un (by decide)).trans ((pk_un (by decide)).trans ((pk_un (by decide)).trans hfo_4)))) (show (upd (upd (upd go 12 (nI z)) 13 (nI 0)) 14 (nI 0)) 12 = nI z from ((pk_un (by decide)).trans ((pk_un (by decide)).trans pk_us))) (show (upd (upd (upd go 12 (nI z)) 13 (nI 0)) 14 (nI 0)) 13 = nI 0 from ((pk_un (by decide)).trans pk_us)) (show (upd (upd (upd go 12 (nI z)) 13 (nI 0)) 14 (nI 0)) 14 = nI 0 from pk_us) (Gx_up (Gx_up (Gx_up hxo (by decide)) (by decide)) (by decide)) (by rw [hk178]; exact pk_uLs) (fun k9 hk9 => by rw [hk178]; exact pk_uLn hk9) hj hu179 hT hF180 hL9 hm9 hpL sk9 (by omega) (by omega)
                  · show Wn _ 57 _ (109, [(1, .int (pkI T L z)), (0, .ref 114)], [], M13)
                    have h15 := b2_nneg h15
                    refine Wn.run (tab := tb_m_next) rfl 4 (c' := (if (pkI T L z) = (nI 59) then 140 else 116, [(1, .int (pkI T L z)), (0, .ref 114)], [.ref 114], M13)) (o := []) rfl trivial ?_
                    refine Wn.br (fun h16 => ?_) (fun h16 => ?_)
                    · show Wn _ 57 _ (140, [(1, .int (pkI T L z)), (0, .ref 114)], [.ref 114], M13)
                      have h16 := (pkI_eq hTb (by decide)).mp h16
                      refine Wn.run (tab := tb_m_next) rfl 3 (c' := (148, [(1, .int (pkI T L z)), (0, .ref 114)], [], (mI M13 114 (upd (M13.1 114) 11 (nI 3))))) (o := [shp 114 = (0, 10)]) rfl rfl ?_
                      generalize hM182 : (mI M13 114 (upd (M13.1 114) 11 (nI 3))) = M181
                      have hk183 := fI_up hM182 hk15
                      have hk184 := fJ_oI hM182 hk16
                      have hu185 := fI_ne hM182 (by decide) hu17
                      have hF186 := fr_sI hF18 hM182 (by decide)
                      show Wn _ 57 _ (148, [(1, .int (pkI T L z)), (0, .ref 114)], [], M181)
                      refine Wn.run (tab := tb_m_next) rfl 3 (c' := (153, [(1, .int (pkI T L z)), (0, .ref 114)], [], (mI M181 114 (upd (M181.1 114) 14 (pkI T L z))))) (o := [shp 114 = (0, 10)]) rfl rfl ?_
                      generalize hM188 : (mI M181 114 (upd (M181.1 114) 14 (pkI T L z))) = M187
                      have hk189 := fI_up hM188 hk183
                      have hk190 := fJ_oI hM188 hk184
                      have hu191 := fI_ne hM188 (by decide) hu185
                      have hF192 := fr_sI hF186 hM188 (by decide)
                      show Wn _ 57 _ (153, [(1, .int (pkI T L z)), (0, .ref 114)], [], M187)
                      refine Wn.run (tab := tb_m_next) rfl 6 (c' := (163, [(1, .int (pkI T L z)), (0, .ref 114)], [], (mI M187 114 (upd (M187.1 114) 4 ((M187.1 114 4) + (nI 1)))))) (o := [shp 114 = (0, 10), shp 114 = (0, 10)]) rfl ⟨rfl, rfl⟩ ?_
                      rw [show (M187.1 114 4) = (nI z) from (fr_eq hk189 (show (upd (upd (upd (upd go 12 (nI z)) 13 (nI 0)) 11 (nI 3)) 14 (pkI T L z)) 4 = (nI z) from ((pk_un (by decide)).trans ((pk_un (by decide)).trans ((pk_un (by decide)).trans ((pk_un (by decide)).trans hfo_4))))))]
                      rw [show ((nI z) + (nI 1)) = (nI (z + 1)) from (n_add rfl rfl)]
                      generalize hM194 : (mI M187 114 (upd (M187.1 114) 4 (nI (z + 1)))) = M193
                      have hk195 := fI_up hM194 hk189
                      have hk196 := fJ_oI hM194 hk190
                      have hu197 := fI_ne hM194 (by decide) hu191
                      have hF198 := fr_sI hF192 hM194 (by decide)
                      show Wn _ 57 _ (163, [(1, .int (pkI T L z)), (0, .ref 114)], [], M193)
                      have hzB : z < mn L mo := by omega
                      have e3 : tAt T L mo p = z := by unfold tAt; rw [sk9]; exact if_pos hzB
                      have er : tRl T L p = 0 := by unfold tRl; rw [sk9]; exact rl_eq (fun k9 hk => absurd hk (by omega)) (by unfold isW; rw [Nat.add_zero]; omega)
                      rw [er] at tc0
                      have sg := kc_sg (T z) (by omega)
                      rw [← nI_64 (show T z < 2 ^ 31 by omega)] at sg
                      have e2 : 4 ≤ tKd T L mo p ∧ tKd T L mo p ≤ 9 := by omega
                      have e4 : tCd (tKd T L mo p) = 3 := by unfold tCd; (repeat (first | omega | split))
                      refine Wn.vret rfl ⟨rfl, ⟨by rw [hk195]; exact ((pk_un (by decide)).trans ((pk_un (by decide)).trans ((pk_un (by decide)).trans ((pk_un (by decide)).trans ((pk_un (by decide)).trans hfo_3))))), by rw [hk195]; exact ((pk_un (by decide)).trans ((pk_un (by decide)).trans ((pk_un (by decide)).trans ((pk_un (by decide)).trans ((pk_un (by decide)).trans hfo_5))))), by rw [hk195, e3]; exact ((pk_un (by decide)).trans ((pk_un (by decide)).trans ((pk_un (by decide)).trans ((pk_un (by decide)).trans pk_us)))), by rw [hk195, e4]; exact ((pk_un (by decide)).trans ((pk_un (by decide)).trans pk_us)), fun q1 q2 => ?_, fun q1 => ?_, fun q1 => ?_, fun q1 => ?_, by rw [hu197]; exact hT, hL9, hm9, hpL⟩, by rw [hk195]; exact (Gx_up (Gx_up (Gx_up (Gx_up (Gx_up hxo (by decide)) (by decide)) (by decide)) (by decide)) (by decide)), fun k9 hk9 => ?_, hF198⟩
                      · exact (by rw [hk195, show tNx T L p = z + 1 from by unfold tNx; rw [er, if_pos rfl, sk9]]; exact pk_us)
                      · exact absurd q1 (by omega)
                      · exact (by rw [hk195, sk9, ← pkI_y (T := T) (L := L) (z := z) (by omega)]; exact ((pk_un (by decide)).trans pk_us))
                      · exact absurd q1 (by omega)
                      · rw [hk196, hj]
                    · show Wn _ 57 _ (116, [(1, .int (pkI T L z)), (0, .ref 114)], [.ref 114], M13)
                      have h16 := mt (pkI_eq hTb (by decide)).mpr h16
                      refine Wn.run (tab := tb_m_next) rfl 3 (c' := (if (pkI T L z) = (nI 40) then 140 else 122, [(1, .int (pkI T L z)), (0, .ref 114)], [.ref 114], M13)) (o := []) rfl trivial ?_
                      refine Wn.br (fun h17 => ?_) (fun h17 => ?_)
                      · show Wn _ 57 _ (140, [(1, .int (pkI T L z)), (0, .ref 114)], [.ref 114], M13)
                        have h17 := (pkI_eq hTb (by decide)).mp h17
                        refine Wn.run (tab := tb_m_next) rfl 3 (c' := (148, [(1, .int (pkI T L z)), (0, .ref 114)], [], (mI M13 114 (upd (M13.1 114) 11 (nI 3))))) (o := [shp 114 = (0, 10)]) rfl rfl ?_
                        generalize hM200 : (mI M13 114 (upd (M13.1 114) 11 (nI 3))) = M199
                        have hk201 := fI_up hM200 hk15
                        have hk202 := fJ_oI hM200 hk16
                        have hu203 := fI_ne hM200 (by decide) hu17
                        have hF204 := fr_sI hF18 hM200 (by decide)
                        show Wn _ 57 _ (148, [(1, .int (pkI T L z)), (0, .ref 114)], [], M199)
                        refine Wn.run (tab := tb_m_next) rfl 3 (c' := (153, [(1, .int (pkI T L z)), (0, .ref 114)], [], (mI M199 114 (upd (M199.1 114) 14 (pkI T L z))))) (o := [shp 114 = (0, 10)]) rfl rfl ?_
                        generalize hM206 : (mI M199 114 (upd (M199.1 114) 14 (pkI T L z))) = M205
                        have hk207 := fI_up hM206 hk201
                        have hk208 := fJ_oI hM206 hk202
                        have hu209 := fI_ne hM206 (by decide) hu203
                        have hF210 := fr_sI hF204 hM206 (by decide)
                        show Wn _ 57 _ (153, [(1, .int (pkI T L z)), (0, .ref 114)], [], M205)
                        refine Wn.run (tab := tb_m_next) rfl 6 (c' := (163, [(1, .int (pkI T L z)), (0, .ref 114)], [], (mI M205 114 (upd (M205.1 114) 4 ((M205.1 114 4) + (nI 1)))))) (o := [shp 114 = (0, 10), shp 114 = (0, 10)]) rfl ⟨rfl, rfl⟩ ?_
                        rw [show (M205.1 114 4) = (nI z) from (fr_eq hk207 (show (upd (upd (upd (upd go 12 (nI z)) 13 (nI 0)) 11 (nI 3)) 14 (pkI T L z)) 4 = (nI z) from ((pk_un (by decide)).trans ((pk_un (by decide)).trans ((pk_un (by decide)).trans ((pk_un (by decide)).trans hfo_4))))))]
                        rw [show ((nI z) + (nI 1)) = (nI (z + 1)) from (n_add rfl rfl)]
                        generalize hM212 : (mI M205 114 (upd (M205.1 114) 4 (nI (z + 1)))) = M211
                        have hk213 := fI_up hM212 hk207
                        have hk214 := fJ_oI hM212 hk208
                        have hu215 := fI_ne hM212 (by decide) hu209
                        have hF216 := fr_sI hF210 hM212 (by decide)
                        show Wn _ 57 _ (163, [(1, .int (pkI T L z)), (0, .ref 114)], [], M211)
                        have hzB : z < mn L mo := by omega
                        have e3 : tAt T L mo p = z := by unfold tAt; rw [sk9]; exact if_pos hzB
                        have er : tRl T L p = 0 := by unfold tRl; rw [sk9]; exact rl_eq (fun k9 hk => absurd hk (by omega)) (by unfold isW; rw [Nat.add_zero]; omega)
                        rw [er] at tc0
                        have sg := kc_sg (T z) (by omega)
                        rw [← nI_64 (show T z < 2 ^ 31 by omega)] at sg
                        have e2 : 4 ≤ tKd T L mo p ∧ tKd T L mo p ≤ 9 := by omega
                        have e4 : tCd (tKd T L mo p) = 3 := by unfold tCd; (repeat (first | omega | split))
                        refine Wn.vret rfl ⟨rfl, ⟨by rw [hk213]; exact ((pk_un (by decide)).trans ((pk_un (by decide)).trans ((pk_un (by decide)).trans ((pk_un (by decide)).trans ((pk_un (by decide)).trans hfo_3))))), by rw [hk213]; exact ((pk_un (by decide)).trans ((pk_un (by decide)).trans ((pk_un (by decide)).trans ((pk_un (by decide)).trans ((pk_un (by decide)).trans hfo_5))))), by rw [hk213, e3]; exact ((pk_un (by decide)).trans ((pk_un (by decide)).trans ((pk_un (by decide)).trans ((pk_un (by decide)).trans pk_us)))), by rw [hk213, e4]; exact ((pk_un (by decide)).trans ((pk_un (by decide)).trans pk_us)), fun q1 q2 => ?_, fun q1 => ?_, fun q1 => ?_, fun q1 => ?_, by rw [hu215]; exact hT, hL9, hm9, hpL⟩, by rw [hk213]; exact (Gx_up (Gx_up (Gx_up (Gx_up (Gx_up hxo (by decide)) (by decide)) (by decide)) (by decide)) (by decide)), fun k9 hk9 => ?_, hF216⟩
                        · exact (by rw [hk213, show tNx T L p = z + 1 from by unfold tNx; rw [er, if_pos rfl, sk9]]; exact pk_us)
                        · exact absurd q1 (by omega)
                        · exact (by rw [hk213, sk9, ← pkI_y (T := T) (L := L) (z := z) (by omega)]; exact ((pk_un (by decide)).trans pk_us))
                        · exact absurd q1 (by omega)
                        · rw [hk214, hj]
                      · show Wn _ 57 _ (122, [(1, .int (pkI T L z)), (0, .ref 114)], [.ref 114], M13)
                        have h17 := mt (pkI_eq hTb (by decide)).mpr h17
                        refine Wn.run (tab := tb_m_next) rfl 3 (c' := (if (pkI T L z) = (nI 41) then 140 else 128, [(1, .int (pkI T L z)), (0, .ref 114)], [.ref 114], M13)) (o := []) rfl trivial ?_
                        refine Wn.br (fun h18 => ?_) (fun h18 => ?_)
                        · show Wn _ 57 _ (140, [(1, .int (pkI T L z)), (0, .ref 114)], [.ref 114], M13)
                          have h18 := (pkI_eq hTb (by decide)).mp h18
                          refine Wn.run (tab := tb_m_next) rfl 3 (c' := (148, [(1, .int (pkI T L z)), (0, .ref 114)], [], (mI M13 114 (upd (M13.1 114) 11 (nI 3))))) (o := [shp 114 = (0, 10)]) rfl rfl ?_
                          generalize hM218 : (mI M13 114 (upd (M13.1 114) 11 (nI 3))) = M217
                          have hk219 := fI_up hM218 hk15
                          have hk220 := fJ_oI hM218 hk16
                          have hu221 := fI_ne hM218 (by decide) hu17
                          have hF222 := fr_sI hF18 hM218 (by decide)
                          show Wn _ 57 _ (148, [(1, .int (pkI T L z)), (0, .ref 114)], [], M217)
                          refine Wn.run (tab := tb_m_next) rfl 3 (c' := (153, [(1, .int (pkI T L z)), (0, .ref 114)], [], (mI M217 114 (upd (M217.1 114) 14 (pkI T L z))))) (o := [shp 114 = (0, 10)]) rfl rfl ?_
                          generalize hM224 : (mI M217 114 (upd (M217.1 114) 14 (pkI T L z))) = M223
                          have hk225 := fI_up hM224 hk219
                          have hk226 := fJ_oI hM224 hk220
                          have hu227 := fI_ne hM224 (by decide) hu221
                          have hF228 := fr_sI hF222 hM224 (by decide)
                          show Wn _ 57 _ (153, [(1, .int (pkI T L z)), (0, .ref 114)], [], M223)
                          refine Wn.run (tab := tb_m_next) rfl 6 (c' := (163, [(1, .int (pkI T L z)), (0, .ref 114)], [], (mI M223 114 (upd (M223.1 114) 4 ((M223.1 114 4) + (nI 1)))))) (o := [shp 114 = (0, 10), shp 114 = (0, 10)]) rfl ⟨rfl, rfl⟩ ?_
                          rw [show (M223.1 114 4) = (nI z) from (fr_eq hk225 (show (upd (upd (upd (upd go 12 (nI z)) 13 (nI 0)) 11 (nI 3)) 14 (pkI T L z)) 4 = (nI z) from ((pk_un (by decide)).trans ((pk_un (by decide)).trans ((pk_un (by decide)).trans ((pk_un (by decide)).trans hfo_4))))))]
                          rw [show ((nI z) + (nI 1)) = (nI (z + 1)) from (n_add rfl rfl)]
                          generalize hM230 : (mI M223 114 (upd (M223.1 114) 4 (nI (z + 1)))) = M229
                          have hk231 := fI_up hM230 hk225
                          have hk232 := fJ_oI hM230 hk226
                          have hu233 := fI_ne hM230 (by decide) hu227
                          have hF234 := fr_sI hF228 hM230 (by decide)
                          show Wn _ 57 _ (163, [(1, .int (pkI T L z)), (0, .ref 114)], [], M229)
                          have hzB : z < mn L mo := by omega
                          have e3 : tAt T L mo p = z := by unfold tAt; rw [sk9]; exact if_pos hzB
                          have er : tRl T L p = 0 := by unfold tRl; rw [sk9]; exact rl_eq (fun k9 hk => absurd hk (by omega)) (by unfold isW; rw [Nat.add_zero]; omega)
                          rw [er] at tc0
                          have sg := kc_sg (T z) (by omega)
                          rw [← nI_64 (show T z < 2 ^ 31 by omega)] at sg
                          have e2 : 4 ≤ tKd T L mo p ∧ tKd T L mo p ≤ 9 := by omega
                          have e4 : tCd (tKd T L mo p) = 3 := by unfold tCd; (repeat (first | omega | split))
                          refine Wn.vret rfl ⟨rfl, ⟨by rw [hk231]; exact ((pk_un (by decide)).trans ((pk_un (by decide)).trans ((pk_un (by decide)).trans ((pk_un (by decide)).trans ((pk_un (by decide)).trans hfo_3))))), by rw [hk231]; exact ((pk_un (by decide)).trans ((pk_un (by decide)).trans ((pk_un (by decide)).trans ((pk_un (by decide)).trans ((pk_un (by decide)).trans hfo_5))))), by rw [hk231, e3]; exact ((pk_un (by decide)).trans ((pk_un (by decide)).trans ((pk_un (by decide)).trans ((pk_un (by decide)).trans pk_us)))), by rw [hk231, e4]; exact ((pk_un (by decide)).trans ((pk_un (by decide)).trans pk_us)), fun q1 q2 => ?_, fun q1 => ?_, fun q1 => ?_, fun q1 => ?_, by rw [hu233]; exact hT, hL9, hm9, hpL⟩, by rw [hk231]; exact (Gx_up (Gx_up (Gx_up (Gx_up (Gx_up hxo (by decide)) (by decide)) (by decide)) (by decide)) (by decide)), fun k9 hk9 => ?_, hF234⟩
                          · exact (by rw [hk231, show tNx T L p = z + 1 from by unfold tNx; rw [er, if_pos rfl, sk9]]; exact pk_us)
                          · exact absurd q1 (by omega)
                          · exact (by rw [hk231, sk9, ← pkI_y (T := T) (L := L) (z := z) (by omega)]; exact ((pk_un (by decide)).trans pk_us))
                          · exact absurd q1 (by omega)
                          · rw [hk232, hj]
                        · show Wn _ 57 _ (128, [(1, .int (pkI T L z)), (0, .ref 114)], [.ref 114], M13)
                          have h18 := mt (pkI_eq hTb (by decide)).mpr h18
                          refine Wn.run (tab := tb_m_next) rfl 3 (c' := (if (pkI T L z) < (nI 60) then 144 else 134, [(1, .int (pkI T L z)), (0, .ref 114)], [.ref 114], M13)) (o := []) rfl trivial ?_
                          refine Wn.br (fun h19 => ?_) (fun h19 => ?_)
                          · show Wn _ 57 _ (144, [(1, .int (pkI T L z)), (0, .ref 114)], [.ref 114], M13)
                            rw [pkI_y (show z < L by omega)] at h19
                            have tz9 := hTb z (by omega)
                            have h19 := (n_lt rfl rfl (by omega) (by omega)).mp h19
                            refine Wn.run (tab := tb_m_next) rfl 2 (c' := (148, [(1, .int (pkI T L z)), (0, .ref 114)], [], (mI M13 114 (upd (M13.1 114) 11 (nI 4))))) (o := [shp 114 = (0, 10)]) rfl rfl ?_
                            generalize hM236 : (mI M13 114 (upd (M13.1 114) 11 (nI 4))) = M235
                            have hk237 := fI_up hM236 hk15
                            have hk238 := fJ_oI hM236 hk16
                            have hu239 := fI_ne hM236 (by decide) hu17
                            have hF240 := fr_sI hF18 hM236 (by decide)
                            show Wn _ 57 _ (148, [(1, .int (pkI T L z)), (0, .ref 114)], [], M235)
                            refine Wn.run (tab := tb_m_next) rfl 3 (c' := (153, [(1, .int (pkI T L z)), (0, .ref 114)], [], (mI M235 114 (upd (M235.1 114) 14 (pkI T L z))))) (o := [shp 114 = (0, 10)]) rfl rfl ?_
                            generalize hM242 : (mI M235 114 (upd (M235.1 114) 14 (pkI T L z))) = M241
                            have hk243 := fI_up hM242 hk237
                            have hk244 := fJ_oI hM242 hk238
                            have hu245 := fI_ne hM242 (by decide) hu239
                            have hF246 := fr_sI hF240 hM242 (by decide)
                            show Wn _ 57 _ (153, [(1, .int (pkI T L z)), (0, .ref 114)], [], M241)
                            refine Wn.run (tab := tb_m_next) rfl 6 (c' := (163, [(1, .int (pkI T L z)), (0, .ref 114)], [], (mI M241 114 (upd (M241.1 114) 4 ((M241.1 114 4) + (nI 1)))))) (o := [shp 114 = (0, 10), shp 114 = (0, 10)]) rfl ⟨rfl, rfl⟩ ?_
                            rw [show (M241.1 114 4) = (nI z) from (fr_eq hk243 (show (upd (upd (upd (upd go 12 (nI z)) 13 (nI 0)) 11 (nI 4)) 14 (pkI T L z)) 4 = (nI z) from ((pk_un (by decide)).trans ((pk_un (by decide)).trans ((pk_un (by decide)).trans ((pk_un (by decide)).trans hfo_4))))))]
                            rw [show ((nI z) + (nI 1)) = (nI (z + 1)) from (n_add rfl rfl)]
                            generalize hM248 : (mI M241 114 (upd (M241.1 114) 4 (nI (z + 1)))) = M247
                            have hk249 := fI_up hM248 hk243
                            have hk250 := fJ_oI hM248 hk244
                            have hu251 := fI_ne hM248 (by decide) hu245
                            have hF252 := fr_sI hF246 hM248 (by decide)
                            show Wn _ 57 _ (163, [(1, .int (pkI T L z)), (0, .ref 114)], [], M247)
                            have hzB : z < mn L mo := by omega
                            have e3 : tAt T L mo p = z := by unfold tAt; rw [sk9]; exact if_pos hzB
                            have er : tRl T L p = 0 := by unfold tRl; rw [sk9]; exact rl_eq (fun k9 hk => absurd hk (by omega)) (by unfold isW; rw [Nat.add_zero]; omega)
                            rw [er] at tc0
                            have sg := kc_sg (T z) (by omega)
                            rw [← nI_64 (show T z < 2 ^ 31 by omega)] at sg
                            have e2 : tKd T L mo p = 1 := by omega
                            have e4 : tCd (tKd T L mo p) = 4 := by rw [e2]; rfl
                            refine Wn.vret rfl ⟨rfl, ⟨by rw [hk249]; exact ((pk_un (by decide)).trans ((pk_un (by decide)).trans ((pk_un (by decide)).trans ((pk_un (by decide)).trans ((pk_un (by decide)).trans hfo_3))))), by rw [hk249]; exact ((pk_un (by decide)).trans ((pk_un (by decide)).trans ((pk_un (by decide)).trans ((pk_un (by decide)).trans ((pk_un (by decide)).trans hfo_5))))), by rw [hk249, e3]; exact ((pk_un (by decide)).trans ((pk_un (by decide)).trans ((pk_un (by decide)).trans ((pk_un (by decide)).trans pk_us)))), by rw [hk249, e4]; exact ((pk_un (by decide)).trans ((pk_un (by decide)).trans pk_us)), fun q1 q2 => ?_, fun q1 => ?_, fun q1 => ?_, fun q1 => ?_, by rw [hu251]; exact hT, hL9, hm9, hpL⟩, by rw [hk249]; exact (Gx_up (Gx_up (Gx_up (Gx_up (Gx_up hxo (by decide)) (by decide)) (by decide)) (by decide)) (by decide)), fun k9 hk9 => ?_, hF252⟩
                            · exact (by rw [hk249, show tNx T L p = z + 1 from by unfold tNx; rw [er, if_pos rfl, sk9]]; exact pk_us)
                            · exact absurd q1 (by omega)
                            · exact absurd q1 (by omega)
                            · exact absurd q1 (by omega)
                            · rw [hk250, hj]
                          · show Wn _ 57 _ (134, [(1, .int (pkI T L z)), (0, .ref 114)], [.ref 114], M13)
                            rw [pkI_y (show z < L by omega)] at h19
                            have tz9 := hTb z (by omega)
                            have h19 := mt (n_lt rfl rfl (by omega) (by omega)).mpr h19
                            refine Wn.run (tab := tb_m_next) rfl 3 (c' := (if (nI 62) < (pkI T L z) then 144 else 140, [(1, .int (pkI T L z)), (0, .ref 114)], [.ref 114], M13)) (o := []) rfl trivial ?_
                            refine Wn.br (fun h20 => ?_) (fun h20 => ?_)
                            · show Wn _ 57 _ (144, [(1, .int (pkI T L z)), (0, .ref 114)], [.ref 114], M13)
                              rw [pkI_y (show z < L by omega)] at h20
                              have tz9 := hTb z (by omega)
                              have h20 := (n_lt rfl rfl (by omega) (by omega)).mp h20
                              refine Wn.run (tab := tb_m_next) rfl 2 (c' := (148, [(1, .int (pkI T L z)), (0, .ref 114)], [], (mI M13 114 (upd (M13.1 114) 11 (nI 4))))) (o := [shp 114 = (0, 10)]) rfl rfl ?_
                              generalize hM254 : (mI M13 114 (upd (M13.1 114) 11 (nI 4))) = M253
                              have hk255 := fI_up hM254 hk15
                              have hk256 := fJ_oI hM254 hk16
                              have hu257 := fI_ne hM254 (by decide) hu17
                              have hF258 := fr_sI hF18 hM254 (by decide)
                              show Wn _ 57 _ (148, [(1, .int (pkI T L z)), (0, .ref 114)], [], M253)
                              refine Wn.run (tab := tb_m_next) rfl 3 (c' := (153, [(1, .int (pkI T L z)), (0, .ref 114)], [], (mI M253 114 (upd (M253.1 114) 14 (pkI T L z))))) (o := [shp 114 = (0, 10)]) rfl rfl ?_
                              generalize hM260 : (mI M253 114 (upd (M253.1 114) 14 (pkI T L z))) = M259
                              have hk261 := fI_up hM260 hk255
                              have hk262 := fJ_oI hM260 hk256
                              have hu263 := fI_ne hM260 (by decide) hu257
                              have hF264 := fr_sI hF258 hM260 (by decide)
                              show Wn _ 57 _ (153, [(1, .int (pkI T L z)), (0, .ref 114)], [], M259)
                              refine Wn.run (tab := tb_m_next) rfl 6 (c' := (163, [(1, .int (pkI T L z)), (0, .ref 114)], [], (mI M259 114 (upd (M259.1 114) 4 ((M259.1 114 4) + (nI 1)))))) (o := [shp 114 = (0, 10), shp 114 = (0, 10)]) rfl ⟨rfl, rfl⟩ ?_
                              rw [show (M259.1 114 4) = (nI z) from (fr_eq hk261 (show (upd (upd (upd (upd go 12 (nI z)) 13 (nI 0)) 11 (nI 4)) 14 (pkI T L z)) 4 = (nI z) from ((pk_un (by decide)).trans ((pk_un (by decide)).trans ((pk_un (by decide)).trans ((pk_un (by decide)).trans hfo_4))))))]
                              rw [show ((nI z) + (nI 1)) = (nI (z + 1)) from (n_add rfl rfl)]
                              generalize hM266 : (mI M259 114 (upd (M259.1 114) 4 (nI (z + 1)))) = M265
                              have hk267 := fI_up hM266 hk261
                              have hk268 := fJ_oI hM266 hk262
                              have hu269 := fI_ne hM266 (by decide) hu263
                              have hF270 := fr_sI hF264 hM266 (by decide)
                              show Wn _ 57 _ (163, [(1, .int (pkI T L z)), (0, .ref 114)], [], M265)
                              have hzB : z < mn L mo := by omega
                              have e3 : tAt T L mo p = z := by unfold tAt; rw [sk9]; exact if_pos hzB
                              have er : tRl T L p = 0 := by unfold tRl; rw [sk9]; exact rl_eq (fun k9 hk => absurd hk (by omega)) (by unfold isW; rw [Nat.add_zero]; omega)
                              rw [er] at tc0
                              have sg := kc_sg (T z) (by omega)
                              rw [← nI_64 (show T z < 2 ^ 31 by omega)] at sg
                              have e2 : tKd T L mo p = 1 := by omega
                              have e4 : tCd (tKd T L mo p) = 4 := by rw [e2]; rfl
                              refine Wn.vret rfl ⟨rfl, ⟨by rw [hk267]; exact ((pk_un (by decide)).trans ((pk_un (by decide)).trans ((pk_un (by decide)).trans ((pk_un (by decide)).trans ((pk_un (by decide)).trans hfo_3))))), by rw [hk267]; exact ((pk_un (by decide)).trans ((pk_un (by decide)).trans ((pk_un (by decide)).trans ((pk_un (by decide)).trans ((pk_un (by decide)).trans hfo_5))))), by rw [hk267, e3]; exact ((pk_un (by decide)).trans ((pk_un (by decide)).trans ((pk_un (by decide)).trans ((pk_un (by decide)).trans pk_us)))), by rw [hk267, e4]; exact ((pk_un (by decide)).trans ((pk_un (by decide)).trans pk_us)), fun q1 q2 => ?_, fun q1 => ?_, fun q1 => ?_, fun q1 => ?_, by rw [hu269]; exact hT, hL9, hm9, hpL⟩, by rw [hk267]; exact (Gx_up (Gx_up (Gx_up (Gx_up (Gx_up hxo (by decide)) (by decide)) (by decide)) (by decide)) (by decide)), fun k9 hk9 => ?_, hF270⟩
                              · exact (by rw [hk267, show tNx T L p = z + 1 from by unfold tNx; rw [er, if_pos rfl, sk9]]; exact pk_us)
                              · exact absurd q1 (by omega)
                              · exact absurd q1 (by omega)
                              · exact absurd q1 (by omega)
                              · rw [hk268, hj]
                            · show Wn _ 57 _ (140, [(1, .int (pkI T L z)), (0, .ref 114)], [.ref 114], M13)
                              rw [pkI_y (show z < L by omega)] at h20
                              have tz9 := hTb z (by omega)
                              have h20 := mt (n_lt rfl rfl (by omega) (by omega)).mpr h20
                              refine Wn.run (tab := tb_m_next) rfl 3 (c' := (148, [(1, .int (pkI T L z)), (0, .ref 114)], [], (mI M13 114 (upd (M13.1 114) 11 (nI 3))))) (o := [shp 114 = (0, 10)]) rfl rfl ?_
                              generalize hM272 : (mI M13 114 (upd (M13.1 114) 11 (nI 3))) = M271
                              have hk273 := fI_up hM272 hk15
                              have hk274 := fJ_oI hM272 hk16
                              have hu275 := fI_ne hM272 (by decide) hu17
                              have hF276 := fr_sI hF18 hM272 (by decide)
                              show Wn _ 57 _ (148, [(1, .int (pkI T L z)), (0, .ref 114)], [], M271)
                              refine Wn.run (tab := tb_m_next) rfl 3 (c' := (153, [(1, .int (pkI T L z)), (0, .ref 114)], [], (mI M271 114 (upd (M271.1 114) 14 (pkI T L z))))) (o := [shp 114 = (0, 10)]) rfl rfl ?_
                              generalize hM278 : (mI M271 114 (upd (M271.1 114) 14 (pkI T L z))) = M277
                              have hk279 := fI_up hM278 hk273
                              have hk280 := fJ_oI hM278 hk274
                              have hu281 := fI_ne hM278 (by decide) hu275
                              have hF282 := fr_sI hF276 hM278 (by decide)
                              show Wn _ 57 _ (153, [(1, .int (pkI T L z)), (0, .ref 114)], [], M277)
                              refine Wn.run (tab := tb_m_next) rfl 6 (c' := (163, [(1, .int (pkI T L z)), (0, .ref 114)], [], (mI M277 114 (upd (M277.1 114) 4 ((M277.1 114 4) + (nI 1)))))) (o := [shp 114 = (0, 10), shp 114 = (0, 10)]) rfl ⟨rfl, rfl⟩ ?_
                              rw [show (M277.1 114 4) = (nI z) from (fr_eq hk279 (show (upd (upd (upd (upd go 12 (nI z)) 13 (nI 0)) 11 (nI 3)) 14 (pkI T L z)) 4 = (nI z) from ((pk_un (by decide)).trans ((pk_un (by decide)).trans ((pk_un (by decide)).trans ((pk_un (by decide)).trans hfo_4))))))]
                              rw [show ((nI z) + (nI 1)) = (nI (z + 1)) from (n_add rfl rfl)]
                              generalize hM284 : (mI M277 114 (upd (M277.1 114) 4 (nI (z + 1)))) = M283
                              have hk285 := fI_up hM284 hk279
                              have hk286 := fJ_oI hM284 hk280
                              have hu287 := fI_ne hM284 (by decide) hu281
                              have hF288 := fr_sI hF282 hM284 (by decide)
                              show Wn _ 57 _ (163, [(1, .int (pkI T L z)), (0, .ref 114)], [], M283)
                              have hzB : z < mn L mo := by omega
                              have e3 : tAt T L mo p = z := by unfold tAt; rw [sk9]; exact if_pos hzB
                              have er : tRl T L p = 0 := by unfold tRl; rw [sk9]; exact rl_eq (fun k9 hk => absurd hk (by omega)) (by unfold isW; rw [Nat.add_zero]; omega)
                              rw [er] at tc0
                              have sg := kc_sg (T z) (by omega)
                              rw [← nI_64 (show T z < 2 ^ 31 by omega)] at sg
                              have e2 : 4 ≤ tKd T L mo p ∧ tKd T L mo p ≤ 9 := by omega
                              have e4 : tCd (tKd T L mo p) = 3 := by unfold tCd; (repeat (first | omega | split))
                              refine Wn.vret rfl ⟨rfl, ⟨by rw [hk285]; exact ((pk_un (by decide)).trans ((pk_un (by decide)).trans ((pk_un (by decide)).trans ((pk_un (by decide)).trans ((pk_un (by decide)).trans hfo_3))))), by rw [hk285]; exact ((pk_un (by decide)).trans ((pk_un (by decide)).trans ((pk_un (by decide)).trans ((pk_un (by decide)).trans ((pk_un (by decide)).trans hfo_5))))), by rw [hk285, e3]; exact ((pk_un (by decide)).trans ((pk_un (by decide)).trans ((pk_un (by decide)).trans ((pk_un (by decide)).trans pk_us)))), by rw [hk285, e4]; exact ((pk_un (by decide)).trans ((pk_un (by decide)).trans pk_us)), fun q1 q2 => ?_, fun q1 => ?_, fun q1 => ?_, fun q1 => ?_, by rw [hu287]; exact hT, hL9, hm9, hpL⟩, by rw [hk285]; exact (Gx_up (Gx_up (Gx_up (Gx_up (Gx_up hxo (by decide)) (by decide)) (by decide)) (by decide)) (by decide)), fun k9 hk9 => ?_, hF288⟩
                              · exact (by rw [hk285, show tNx T L p = z + 1 from by unfold tNx; rw [er, if_pos rfl, sk9]]; exact pk_us)
                              · exact absurd q1 (by omega)
                              · exact (by rw [hk285, sk9, ← pkI_y (T := T) (L := L) (z := z) (by omega)]; exact ((pk_un (by decide)).trans pk_us))
                              · exact absurd q1 (by omega)
                              · rw [hk286, hj]
              · show Wn _ 57 _ (89, [(1, .int (pkI T L z)), (0, .ref 114)], [], M13)
                have h13 := mt (pkI_ge hTb).mpr h13
                refine Wn.run (tab := tb_m_next) rfl 3 (c' := (94, [(1, .int (pkI T L z)), (0, .ref 114)], [], (mI M13 114 (upd (M13.1 114) 11 (nI 0))))) (o := [shp 114 = (0, 10)]) rfl rfl ?_
                generalize hM290 : (mI M13 114 (upd (M13.1 114) 11 (nI 0))) = M289
                have hk291 := fI_up hM290 hk15
                have hk292 := fJ_oI hM290 hk16
                have hu293 := fI_ne hM290 (by decide) hu17
                have hF294 := fr_sI hF18 hM290 (by decide)
                show Wn _ 57 _ (94, [(1, .int (pkI T L z)), (0, .ref 114)], [], M289)
                have e2 : tKd T L mo p = 0 := by omega
                have e4 : tCd (tKd T L mo p) = 0 := by rw [e2]; rfl
                have e3 : tAt T L mo p = z := by unfold tAt; rw [sk9, mn_B (a := z) (B := mn L mo) (by omega)]; omega
                refine Wn.vret rfl ⟨rfl, ⟨by rw [hk291]; exact ((pk_un (by decide)).trans ((pk_un (by decide)).trans ((pk_un (by decide)).trans hfo_3))), by rw [hk291]; exact ((pk_un (by decide)).trans ((pk_un (by decide)).trans ((pk_un (by decide)).trans hfo_5))), by rw [hk291, e3]; exact ((pk_un (by decide)).trans ((pk_un (by decide)).trans pk_us)), by rw [hk291, e4]; exact pk_us, fun q1 q2 => ?_, fun q1 => ?_, fun q1 => ?_, fun q1 => ?_, by rw [hu293]; exact hT, hL9, hm9, hpL⟩, by rw [hk291]; exact (Gx_up (Gx_up (Gx_up hxo (by decide)) (by decide)) (by decide)), fun k9 hk9 => ?_, hF294⟩
                · exact absurd e2 q1
                · exact absurd q1 (by omega)
                · exact absurd q1 (by omega)
                · exact absurd q1 (by omega)
                · rw [hk292, hj]
            · show Wn _ 57 _ (66, [(0, .ref 114)], [], M13)
              have h12 := mt (n_lt (fr_eq hk15 (show (upd (upd go 12 (nI z)) 13 (nI 0)) 4 = (nI z) from ((pk_un (by decide)).trans ((pk_un (by decide)).trans hfo_4)))) (fr_eq hk15 (show (upd (upd go 12 (nI z)) 13 (nI 0)) 5 = (nI mo) from ((pk_un (by decide)).trans ((pk_un (by decide)).trans hfo_5)))) (by omega) (by omega)).mpr h12
              refine Wn.run (tab := tb_m_next) rfl 4 (c' := (74, [(0, .ref 114)], [], (mI M13 114 (upd (M13.1 114) 12 (M13.1 114 5))))) (o := [shp 114 = (0, 10), shp 114 = (0, 10)]) rfl ⟨rfl, rfl⟩ ?_
              rw [show (M13.1 114 5) = (nI mo) from (fr_eq hk15 (show (upd (upd go 12 (nI z)) 13 (nI 0)) 5 = (nI mo) from ((pk_un (by decide)).trans ((pk_un (by decide)).trans hfo_5))))]
              generalize hM296 : (mI M13 114 (upd (M13.1 114) 12 (nI mo))) = M295
              have hk297 := fI_up hM296 hk15
              have hk298 := fJ_oI hM296 hk16
              have hu299 := fI_ne hM296 (by decide) hu17
              have hF300 := fr_sI hF18 hM296 (by decide)
              show Wn _ 57 _ (74, [(0, .ref 114)], [], M295)
              refine Wn.run (tab := tb_m_next) rfl 3 (c' := (79, [(0, .ref 114)], [], (mI M295 114 (upd (M295.1 114) 11 (nI 4))))) (o := [shp 114 = (0, 10)]) rfl rfl ?_
              generalize hM302 : (mI M295 114 (upd (M295.1 114) 11 (nI 4))) = M301
              have hk303 := fI_up hM302 hk297
              have hk304 := fJ_oI hM302 hk298
              have hu305 := fI_ne hM302 (by decide) hu299
              have hF306 := fr_sI hF300 hM302 (by decide)
              show Wn _ 57 _ (79, [(0, .ref 114)], [], M301)
              have e2 : tKd T L mo p = 36 := by omega
              have e4 : tCd (tKd T L mo p) = 4 := by rw [e2]; rfl
              have e3 : tAt T L mo p = mo := by unfold tAt; rw [sk9, mn_B (a := z) (B := mn L mo) (by omega)]; omega
              refine Wn.vret rfl ⟨rfl, ⟨by rw [hk303]; exact ((pk_un (by decide)).trans ((pk_un (by decide)).trans ((pk_un (by decide)).trans ((pk_un (by decide)).trans hfo_3)))), by rw [hk303]; exact ((pk_un (by decide)).trans ((pk_un (by decide)).trans ((pk_un (by decide)).trans ((pk_un (by decide)).trans hfo_5)))), by rw [hk303, e3]; exact ((pk_un (by decide)).trans pk_us), by rw [hk303, e4]; exact pk_us, fun q1 q2 => ?_, fun q1 => ?_, fun q1 => ?_, fun q1 => ?_, by rw [hu305]; exact hT, hL9, hm9, hpL⟩, by rw [hk303]; exact (Gx_up (Gx_up (Gx_up (Gx_up hxo (by decide)) (by decide)) (by decide)) (by decide)), fun k9 hk9 => ?_, hF306⟩
              · exact absurd e2 q2
              · exact absurd q1 (by omega)
              · exact absurd q1 (by omega)
              · exact absurd q1 (by omega)
              · rw [hk304, hj]
        · show Wn _ 57 _ (18, [(0, .ref 114)], [], N)
          have h2 := (pkI_eq hTb (by decide)).mp (Classical.not_not.mp h2)
          refine Wn.run (tab := tb_m_next) rfl 6 (c' := (28, [(0, .ref 114)], [], (mI N 114 (upd (N.1 114) 4 ((N.1 114 4) + (nI 1)))))) (o := [shp 114 = (0, 10), shp 114 = (0, 10)]) rfl ⟨rfl, rfl⟩ ?_
          rw [show (N.1 114 4) = (nI z) from (fr_eq hgo (show go 4 = (nI z) from hfo_4))]
          rw [show ((nI z) + (nI 1)) = (nI (z + 1)) from (n_add rfl rfl)]
          generalize hM308 : (mI N 114 (upd (N.1 114) 4 (nI (z + 1)))) = M307
          have hk309 := fI_up hM308 hgo
          have hk310 := fJ_oI hM308 bl_2
          have hu311 := fI_ne hM308 (by decide) bl_3
          have hF312 := fr_sI bl_4 hM308 (by decide)
          show Wn _ 57 _ (28, [(0, .ref 114)], [], M307)
          refine Wn.run (tab := tb_m_next) rfl 1 (c' := (0, [(0, .ref 114)], [], M307)) (o := []) rfl trivial ?_
          exact ih_bl (L - (z + 1)) (by omega) (z + 1) M307 rfl (by omega) (by rw [hk309]; exact pk_us) (by rw [hk309]; exact (Gx_up hxo (by decide))) hk310 hu311 hF312 (fun i hi hi2 => if e : i = z then (by rw [e]; exact ⟨by omega, by omega⟩) else bl_x0 i hi (by omega)) (by omega)
  exact bl (L - p) p M rfl (by omega) (by rw [hg]; exact hp) (by rw [hg]; exact Gx_rf _ _) hj hu hF (fun i hi hi2 => absurd hi (by omega)) (Nat.le_refl _)
