/-! Swore, by the class: all of it. -/
set_option maxRecDepth 20000 in
theorem w_i_mostAlike (d : Nat) (M : Mm) (σ : Nat → Nat) (hS : StC M 6 σ) (hB : Bd σ) (st c : Nat) (hst : st < 64) (hc : c < 64) (hin : inL σ c) (Q : Po) (hQ : Q (some (.int (nI (mxA σ st c (σ 2) (σ 2))))) M) : Wn (d + 2) 31 Q (0, lv_args 0 [.ref 0, .int (nI st), .int (nI c)], [], M) := by
  have b6 := Bd_2 hB
  have r2 : M.1 3 2 = nI (σ 2) := hS.2.1.2.2.2.1 2 (by decide)
  refine Wn.run (tab := tb_i_mostAlike) rfl 4 (c' := (5, [(4, .int (nI 0)), (3, .int (nI 0)), (0, .ref 0), (1, .int (nI st)), (2, .int (nI c))], [], M)) (o := []) rfl trivial ?_
  have outer : ∀ (m p : Nat), σ 2 - p = m → p ≤ σ 2 → Wn (d + 2) 31 Q (5, [(4, .int (nI p)), (3, .int (nI (mxA σ st c (σ 2) p))), (0, .ref 0), (1, .int (nI st)), (2, .int (nI c))], [], M) := by
    intro m
    induction m using Nat.strongRecOn with
    | _ m ih =>
      intro p hm hp
      have mp : mxA σ st c (σ 2) p ≤ σ 2 := mxA_le (fun k _ => alA_le σ st c k (σ 2))
      refine Wn.run (tab := tb_i_mostAlike) rfl 6 (c' := (if (M.1 3 2) ≤ (nI p) then 110 else 20, [(4, .int (nI p)), (3, .int (nI (mxA σ st c (σ 2) p))), (0, .ref 0), (1, .int (nI st)), (2, .int (nI c))], [], M)) (o := [shp 0 = (0, 9), shp 2 = (0, 8), shp 3 = (0, 2)]) rfl ⟨rfl, rfl, rfl⟩ ?_
      rw [r2]
      by_cases ce : σ 2 ≤ p
      · rw [if_pos ((n_le rfl rfl (by omega) (by omega)).mpr ce)]
        have ep : p = σ 2 := by omega
        refine Wn.run (tab := tb_i_mostAlike) rfl 1 (c' := (111, [(4, .int (nI p)), (3, .int (nI (mxA σ st c (σ 2) p))), (0, .ref 0), (1, .int (nI st)), (2, .int (nI c))], [.int (nI (mxA σ st c (σ 2) p))], M)) (o := []) rfl trivial ?_
        rw [ep]
        exact Wn.iret rfl hQ
      · rw [if_neg (mt (n_le rfl rfl (by omega) (by omega)).mp ce)]
        refine Wn.run (tab := tb_i_mostAlike) rfl 4 (c' := (26, [(6, .int (nI 0)), (5, .int (nI 0)), (4, .int (nI p)), (3, .int (nI (mxA σ st c (σ 2) p))), (0, .ref 0), (1, .int (nI st)), (2, .int (nI c))], [], M)) (o := []) rfl trivial ?_
        have z97 : ∀ qq : Int32, Wn (d + 2) 31 Q (97, [(6, .int qq), (5, .int (nI (alA σ st c p (σ 2)))), (4, .int (nI p)), (3, .int (nI (mxA σ st c (σ 2) p))), (0, .ref 0), (1, .int (nI st)), (2, .int (nI c))], [], M) := by
          intro qq
          have al := alA_le σ st c p (σ 2)
          refine Wn.run (tab := tb_i_mostAlike) rfl 6 (c' := (5, [(4, .int ((nI p) + (nI 1))), (3, .int (if (nI (mxA σ st c (σ 2) p)) < (nI (alA σ st c p (σ 2))) then (nI (alA σ st c p (σ 2))) else (nI (mxA σ st c (σ 2) p)))), (6, .int qq), (5, .int (nI (alA σ st c p (σ 2)))), (0, .ref 0), (1, .int (nI st)), (2, .int (nI c))], [], M)) (o := [ct [] ≤ 8]) rfl (Nat.le_of_ble_eq_true rfl) ?_
          rw [show (if (nI (mxA σ st c (σ 2) p)) < (nI (alA σ st c p (σ 2))) then (nI (alA σ st c p (σ 2))) else (nI (mxA σ st c (σ 2) p))) = nI (mxA σ st c (σ 2) (p + 1)) from by
            show _ = nI (if mxA σ st c (σ 2) p < alA σ st c p (σ 2) then alA σ st c p (σ 2) else mxA σ st c (σ 2) p)
            by_cases k : mxA σ st c (σ 2) p < alA σ st c p (σ 2)
            · rw [if_pos k, if_pos ((n_lt rfl rfl (by omega) (by omega)).mpr k)]
            · rw [if_neg k, if_neg (mt (n_lt rfl rfl (by omega) (by omega)).mp k)], nI_add]
          refine Wn.lvp [0, 1, 4, 5, 6] (lv' := [(4, .int (nI (p + 1))), (3, .int (nI (mxA σ st c (σ 2) (p + 1)))), (0, .ref 0), (1, .int (nI st)), (2, .int (nI c))]) rfl ?_
          exact ih (σ 2 - (p + 1)) (by omega) (p + 1) rfl (by omega)
        by_cases cp : st.testBit p = true
        · have ea : alA σ st c p (σ 2) = cnA σ st c (ifs σ p c) (σ 2) := if_pos cp
          have i9 := ifs_9 hB p hc
          have inner : ∀ (m2 q : Nat), σ 2 - q = m2 → q ≤ σ 2 → Wn (d + 2) 31 Q (26, [(6, .int (nI q)), (5, .int (nI (cnA σ st c (ifs σ p c) q))), (4, .int (nI p)), (3, .int (nI (mxA σ st c (σ 2) p))), (0, .ref 0), (1, .int (nI st)), (2, .int (nI c))], [], M) := by
            intro m2
            induction m2 using Nat.strongRecOn with
            | _ m2 ih2 =>
              intro q hm2 hq
              have cl := cnA_le σ st c (ifs σ p c) q
              refine Wn.run (tab := tb_i_mostAlike) rfl 6 (c' := (if (M.1 3 2) ≤ (nI q) then 97 else 41, [(6, .int (nI q)), (5, .int (nI (cnA σ st c (ifs σ p c) q))), (4, .int (nI p)), (3, .int (nI (mxA σ st c (σ 2) p))), (0, .ref 0), (1, .int (nI st)), (2, .int (nI c))], [], M)) (o := [shp 0 = (0, 9), shp 2 = (0, 8), shp 3 = (0, 2)]) rfl ⟨rfl, rfl, rfl⟩ ?_
              rw [r2]
              by_cases cq : σ 2 ≤ q
              · rw [if_pos ((n_le rfl rfl (by omega) (by omega)).mpr cq)]
                have eq : q = σ 2 := by omega
                rw [eq, ← ea]
                exact z97 _
              · rw [if_neg (mt (n_le rfl rfl (by omega) (by omega)).mp cq)]
                refine Wn.run (tab := tb_i_mostAlike) rfl 6 (c' := (if (((nI st) >>> ((nI p) &&& 31)) &&& (nI 1)) = 0 then 97 else 50, [(6, .int (nI q)), (5, .int (nI (cnA σ st c (ifs σ p c) q))), (4, .int (nI p)), (3, .int (nI (mxA σ st c (σ 2) p))), (0, .ref 0), (1, .int (nI st)), (2, .int (nI c))], [], M)) (o := []) rfl trivial ?_
                rw [if_neg (fun e => (bit_okc st hst p (by omega)).mp e cp)]
                refine Wn.run (tab := tb_i_mostAlike) rfl 6 (c' := (if (((nI st) >>> ((nI q) &&& 31)) &&& (nI 1)) = 0 then 91 else 59, [(6, .int (nI q)), (5, .int (nI (cnA σ st c (ifs σ p c) q))), (4, .int (nI p)), (3, .int (nI (mxA σ st c (σ 2) p))), (0, .ref 0), (1, .int (nI st)), (2, .int (nI c))], [], M)) (o := []) rfl trivial ?_
                have nx : ∀ a : Nat, a = cnA σ st c (ifs σ p c) (q + 1) → Wn (d + 2) 31 Q (91, [(6, .int (nI q)), (5, .int (nI a)), (4, .int (nI p)), (3, .int (nI (mxA σ st c (σ 2) p))), (0, .ref 0), (1, .int (nI st)), (2, .int (nI c))], [], M) := by
                  intro a ha
                  refine Wn.run (tab := tb_i_mostAlike) rfl 2 (c' := (26, [(6, .int ((nI q) + (nI 1))), (5, .int (nI a)), (4, .int (nI p)), (3, .int (nI (mxA σ st c (σ 2) p))), (0, .ref 0), (1, .int (nI st)), (2, .int (nI c))], [], M)) (o := []) rfl trivial ?_
                  rw [nI_add, ha]
                  exact ih2 (σ 2 - (q + 1)) (by omega) (q + 1) rfl (by omega)
                by_cases cb : st.testBit q = true
                · rw [if_neg (fun e => (bit_okc st hst q (by omega)).mp e cb)]
                  refine Wn.run (tab := tb_i_mostAlike) rfl 5 (c' := (69, [(6, .int (nI q)), (5, .int (nI (cnA σ st c (ifs σ p c) q))), (4, .int (nI p)), (3, .int (nI (mxA σ st c (σ 2) p))), (0, .ref 0), (1, .int (nI st)), (2, .int (nI c))], [.int (nI c), .int (nI p), .ref 6], M)) (o := [shp 0 = (0, 9), shp 2 = (0, 8)]) rfl ⟨rfl, rfl⟩ ?_
                  refine Wn.callV (p := 6) (n := 3) (ix := 333) (ci := (5)) (fun r0 M0 => r0 = some (.int (nI (ifs σ p c))) ∧ M = M0) [.int (nI p), .int (nI c)] [] rfl rfl rfl rfl (Nat.le_of_ble_eq_true rfl) (Nat.le_of_ble_eq_true rfl) (w_st_iceIfSworn d M 6 σ hS hB p c (by omega) hc hin _ ⟨rfl, rfl⟩) ?_
                  rintro _ _ ⟨rfl, rfl⟩
                  show Wn _ 31 _ (72, [(6, .int (nI q)), (5, .int (nI (cnA σ st c (ifs σ p c) q))), (4, .int (nI p)), (3, .int (nI (mxA σ st c (σ 2) p))), (0, .ref 0), (1, .int (nI st)), (2, .int (nI c))], [.int (nI (ifs σ p c))], M)
                  refine Wn.run (tab := tb_i_mostAlike) rfl 5 (c' := (82, [(6, .int (nI q)), (5, .int (nI (cnA σ st c (ifs σ p c) q))), (4, .int (nI p)), (3, .int (nI (mxA σ st c (σ 2) p))), (0, .ref 0), (1, .int (nI st)), (2, .int (nI c))], [.int (nI c), .int (nI q), .ref 6, .int (nI (ifs σ p c))], M)) (o := [shp 0 = (0, 9), shp 2 = (0, 8)]) rfl ⟨rfl, rfl⟩ ?_
                  refine Wn.callV (p := 6) (n := 3) (ix := 333) (ci := (5)) (fun r0 M0 => r0 = some (.int (nI (ifs σ q c))) ∧ M = M0) [.int (nI q), .int (nI c)] [.int (nI (ifs σ p c))] rfl rfl rfl rfl (Nat.le_of_ble_eq_true rfl) (Nat.le_of_ble_eq_true rfl) (w_st_iceIfSworn d M 6 σ hS hB q c (by omega) hc hin _ ⟨rfl, rfl⟩) ?_
                  rintro _ _ ⟨rfl, rfl⟩
                  have j9 := ifs_9 hB q hc
                  show Wn _ 31 _ (85, [(6, .int (nI q)), (5, .int (nI (cnA σ st c (ifs σ p c) q))), (4, .int (nI p)), (3, .int (nI (mxA σ st c (σ 2) p))), (0, .ref 0), (1, .int (nI st)), (2, .int (nI c))], [.int (nI (ifs σ q c)), .int (nI (ifs σ p c))], M)
                  refine Wn.run (tab := tb_i_mostAlike) rfl 1 (c' := (if ¬ (nI (ifs σ p c)) = (nI (ifs σ q c)) then 91 else 88, [(6, .int (nI q)), (5, .int (nI (cnA σ st c (ifs σ p c) q))), (4, .int (nI p)), (3, .int (nI (mxA σ st c (σ 2) p))), (0, .ref 0), (1, .int (nI st)), (2, .int (nI c))], [], M)) (o := []) rfl trivial ?_
                  by_cases cv : ifs σ p c = ifs σ q c
                  · rw [if_neg (fun q9 => q9 ((n_eq rfl rfl (by omega) (by omega)).mpr cv))]
                    refine Wn.run (tab := tb_i_mostAlike) rfl 1 (c' := (91, [(5, .int ((nI (cnA σ st c (ifs σ p c) q)) + (nI 1))), (6, .int (nI q)), (4, .int (nI p)), (3, .int (nI (mxA σ st c (σ 2) p))), (0, .ref 0), (1, .int (nI st)), (2, .int (nI c))], [], M)) (o := []) rfl trivial ?_
                    rw [nI_add]
                    refine Wn.lvp [1, 0, 2, 3, 4, 5, 6] (lv' := [(6, .int (nI q)), (5, .int (nI (cnA σ st c (ifs σ p c) q + 1))), (4, .int (nI p)), (3, .int (nI (mxA σ st c (σ 2) p))), (0, .ref 0), (1, .int (nI st)), (2, .int (nI c))]) rfl ?_
                    exact nx _ (by show _ = cnA σ st c (ifs σ p c) q + _; rw [if_pos ⟨cb, cv.symm⟩])
                  · rw [if_pos (mt (n_eq rfl rfl (by omega) (by omega)).mp cv)]
                    exact nx _ (by show _ = cnA σ st c (ifs σ p c) q + _; rw [if_neg (fun q9 => cv q9.2.symm)]; rfl)
                · rw [if_pos ((bit_okc st hst q (by omega)).mpr cb)]
                  exact nx _ (by show _ = cnA σ st c (ifs σ p c) q + _; rw [if_neg (fun q9 => cb q9.1)]; rfl)
          exact inner (σ 2) 0 rfl (by omega)
        · have ea : alA σ st c p (σ 2) = 0 := if_neg cp
          rw [ea] at z97
          refine Wn.run (tab := tb_i_mostAlike) rfl 6 (c' := (if (M.1 3 2) ≤ (nI 0) then 97 else 41, [(6, .int (nI 0)), (5, .int (nI 0)), (4, .int (nI p)), (3, .int (nI (mxA σ st c (σ 2) p))), (0, .ref 0), (1, .int (nI st)), (2, .int (nI c))], [], M)) (o := [shp 0 = (0, 9), shp 2 = (0, 8), shp 3 = (0, 2)]) rfl ⟨rfl, rfl, rfl⟩ ?_
          rw [r2, if_neg (mt (n_le rfl rfl (by omega) (by omega)).mp (show ¬ σ 2 ≤ 0 by omega))]
          refine Wn.run (tab := tb_i_mostAlike) rfl 6 (c' := (if (((nI st) >>> ((nI p) &&& 31)) &&& (nI 1)) = 0 then 97 else 50, [(6, .int (nI 0)), (5, .int (nI 0)), (4, .int (nI p)), (3, .int (nI (mxA σ st c (σ 2) p))), (0, .ref 0), (1, .int (nI st)), (2, .int (nI c))], [], M)) (o := []) rfl trivial ?_
          rw [if_pos ((bit_okc st hst p (by omega)).mpr cp)]
          exact z97 _
  exact outer (σ 2) 0 rfl (by omega)
def bI (o : Option (Nat × Nat)) : Int32 := match o with
  | none => -1
  | some v => nI v.1
def lI (o : Option (Nat × Nat)) : Int32 := match o with
  | none => nI 0
  | some v => nI v.2
set_option maxRecDepth 20000 in
theorem w_i_bestQuestion (d : Nat) (M : Mm) (σ : Nat → Nat) (hS : StC M 6 σ) (hB : Bd σ) (st : Nat) (hst : st < 64) (Q : Po) (hQ : Q (some (.int (bI (bqN σ st (σ 2) 64)))) M) : Wn (d + 3) 30 Q (0, lv_args 0 [.ref 0, .int (nI st)], [], M) := by
  have b6 := Bd_2 hB
  refine Wn.run (tab := tb_i_bestQuestion) rfl 6 (c' := (7, [(4, .int (nI 0)), (3, .int (nI 0)), (2, .int (-1 : Int32)), (0, .ref 0), (1, .int (nI st))], [], M)) (o := []) rfl trivial ?_
  have loop : ∀ (m c : Nat), 64 - c = m → c ≤ 64 → Wn (d + 3) 30 Q (7, [(4, .int (nI c)), (3, .int (lI (bqN σ st (σ 2) c))), (2, .int (bI (bqN σ st (σ 2) c))), (0, .ref 0), (1, .int (nI st))], [], M) := by
    intro m
    induction m using Nat.strongRecOn with
    | _ m ih =>
      intro c hm hc
      refine Wn.run (tab := tb_i_bestQuestion) rfl 3 (c' := (if (nI 64) ≤ (nI c) then 61 else 14, [(4, .int (nI c)), (3, .int (lI (bqN σ st (σ 2) c))), (2, .int (bI (bqN σ st (σ 2) c))), (0, .ref 0), (1, .int (nI st))], [], M)) (o := []) rfl trivial ?_
      by_cases ce : 64 ≤ c
      · rw [if_pos ((n_le rfl rfl (by omega) (by omega)).mpr ce)]
        have ec : c = 64 := by omega
        subst ec
        refine Wn.run (tab := tb_i_bestQuestion) rfl 1 (c' := (62, [(4, .int (nI 64)), (3, .int (lI (bqN σ st (σ 2) 64))), (2, .int (bI (bqN σ st (σ 2) 64))), (0, .ref 0), (1, .int (nI st))], [.int (bI (bqN σ st (σ 2) 64))], M)) (o := []) rfl trivial ?_
        exact Wn.iret rfl hQ
      · rw [if_neg (mt (n_le rfl rfl (by omega) (by omega)).mp ce)]
        refine Wn.run (tab := tb_i_bestQuestion) rfl 4 (c' := (23, [(4, .int (nI c)), (3, .int (lI (bqN σ st (σ 2) c))), (2, .int (bI (bqN σ st (σ 2) c))), (0, .ref 0), (1, .int (nI st))], [.int (nI c), .ref 3], M)) (o := [shp 0 = (0, 9), shp 2 = (0, 8)]) rfl ⟨rfl, rfl⟩ ?_
        refine Wn.callV (p := 3) (n := 2) (ix := 318) (ci := (2)) (fun r0 M0 => r0 = some (.int (b2 (inL σ c))) ∧ M = M0) [.int (nI c)] [] rfl rfl rfl rfl (Nat.le_of_ble_eq_true rfl) (Nat.le_of_ble_eq_true rfl) (w_lk_hasCell (d + 1) M 3 σ hS.2.1 hB c (by omega) _ ⟨rfl, rfl⟩) ?_
        rintro _ _ ⟨rfl, rfl⟩
        show Wn _ 30 _ (26, [(4, .int (nI c)), (3, .int (lI (bqN σ st (σ 2) c))), (2, .int (bI (bqN σ st (σ 2) c))), (0, .ref 0), (1, .int (nI st))], [.int (b2 (inL σ c))], M)
        refine Wn.run (tab := tb_i_bestQuestion) rfl 1 (c' := (if (b2 (inL σ c)) = 0 then 55 else 29, [(4, .int (nI c)), (3, .int (lI (bqN σ st (σ 2) c))), (2, .int (bI (bqN σ st (σ 2) c))), (0, .ref 0), (1, .int (nI st))], [], M)) (o := []) rfl trivial ?_
        have nx : ∀ (l b : Int32), l = lI (bqN σ st (σ 2) (c + 1)) → b = bI (bqN σ st (σ 2) (c + 1)) → Wn (d + 3) 30 Q (55, [(4, .int (nI c)), (3, .int l), (2, .int b), (0, .ref 0), (1, .int (nI st))], [], M) := by
          intro l b hl hb
          refine Wn.run (tab := tb_i_bestQuestion) rfl 2 (c' := (7, [(4, .int ((nI c) + (nI 1))), (3, .int l), (2, .int b), (0, .ref 0), (1, .int (nI st))], [], M)) (o := []) rfl trivial ?_
          rw [nI_add, hl, hb]
          exact ih (64 - (c + 1)) (by omega) (c + 1) rfl (by omega)
        have e1 : bqN σ st (σ 2) (c + 1) = if inL σ c then (match bqN σ st (σ 2) c with
          | none => some (c, mxA σ st c (σ 2) (σ 2))
          | some (b, l) => if mxA σ st c (σ 2) (σ 2) < l then some (c, mxA σ st c (σ 2) (σ 2)) else some (b, l)) else bqN σ st (σ 2) c := rfl
        by_cases ci : inL σ c
        · rw [if_neg (b2_n0.mpr ci)]
          rw [if_pos ci] at e1
          have mm := mxA_m σ st c (σ 2)
          refine Wn.run (tab := tb_i_bestQuestion) rfl 3 (c' := (33, [(4, .int (nI c)), (3, .int (lI (bqN σ st (σ 2) c))), (2, .int (bI (bqN σ st (σ 2) c))), (0, .ref 0), (1, .int (nI st))], [.int (nI c), .int (nI st), .ref 0], M)) (o := []) rfl trivial ?_
          refine Wn.callV (p := 0) (n := 3) (ix := 336) (ci := (9)) (fun r0 M0 => r0 = some (.int (nI (mxA σ st c (σ 2) (σ 2)))) ∧ M = M0) [.int (nI st), .int (nI c)] [] rfl rfl rfl rfl (Nat.le_of_ble_eq_true rfl) (Nat.le_of_ble_eq_true rfl) (w_i_mostAlike d M σ hS hB st c hst (by omega) ci _ ⟨rfl, rfl⟩) ?_
          rintro _ _ ⟨rfl, rfl⟩
          show Wn _ 30 _ (36, [(4, .int (nI c)), (3, .int (lI (bqN σ st (σ 2) c))), (2, .int (bI (bqN σ st (σ 2) c))), (0, .ref 0), (1, .int (nI st))], [.int (nI (mxA σ st c (σ 2) (σ 2)))], M)
          refine Wn.run (tab := tb_i_bestQuestion) rfl 4 (c' := (if (bI (bqN σ st (σ 2) c)) = (-1 : Int32) then 49 else 43, [(5, .int (nI (mxA σ st c (σ 2) (σ 2)))), (4, .int (nI c)), (3, .int (lI (bqN σ st (σ 2) c))), (2, .int (bI (bqN σ st (σ 2) c))), (0, .ref 0), (1, .int (nI st))], [], M)) (o := []) rfl trivial ?_
          have take : ∀ (l b : Int32), some (c, mxA σ st c (σ 2) (σ 2)) = bqN σ st (σ 2) (c + 1) → Wn (d + 3) 30 Q (49, [(5, .int (nI (mxA σ st c (σ 2) (σ 2)))), (4, .int (nI c)), (3, .int l), (2, .int b), (0, .ref 0), (1, .int (nI st))], [], M) := by
            intro l b he
            refine Wn.run (tab := tb_i_bestQuestion) rfl 4 (c' := (55, [(3, .int (nI (mxA σ st c (σ 2) (σ 2)))), (2, .int (nI c)), (5, .int (nI (mxA σ st c (σ 2) (σ 2)))), (4, .int (nI c)), (0, .ref 0), (1, .int (nI st))], [], M)) (o := []) rfl trivial ?_
            refine Wn.lvp [3, 0, 1, 4, 5] (lv' := [(4, .int (nI c)), (3, .int (nI (mxA σ st c (σ 2) (σ 2)))), (2, .int (nI c)), (0, .ref 0), (1, .int (nI st))]) rfl ?_
            exact nx _ _ (by rw [← he]; rfl) (by rw [← he]; rfl)
          cases hb : bqN σ st (σ 2) c with
          | none =>
            rw [hb] at e1
            rw [if_pos (show bI none = (-1 : Int32) from rfl)]
            exact take _ _ e1.symm
          | some v =>
            obtain ⟨b0, l0⟩ := v
            rw [hb] at e1
            have bl := bqN_lt hb
            rw [if_neg (show ¬ bI (some (b0, l0)) = (-1 : Int32) from nI_m1 (by show b0 < _; omega))]
            refine Wn.run (tab := tb_i_bestQuestion) rfl 3 (c' := (if (lI (some (b0, l0))) ≤ (nI (mxA σ st c (σ 2) (σ 2))) then 55 else 49, [(5, .int (nI (mxA σ st c (σ 2) (σ 2)))), (4, .int (nI c)), (3, .int (lI (some (b0, l0)))), (2, .int (bI (some (b0, l0)))), (0, .ref 0), (1, .int (nI st))], [], M)) (o := []) rfl trivial ?_
            by_cases cl : mxA σ st c (σ 2) (σ 2) < l0
            · rw [if_neg (show ¬ lI (some (b0, l0)) ≤ nI (mxA σ st c (σ 2) (σ 2)) from mt (n_le rfl rfl (by show l0 < _; omega) (by omega)).mp (by show ¬ l0 ≤ _; omega))]
              dsimp only at e1
              rw [if_pos cl] at e1
              exact take _ _ e1.symm
            · rw [if_pos (show lI (some (b0, l0)) ≤ nI (mxA σ st c (σ 2) (σ 2)) from (n_le rfl rfl (by show l0 < _; omega) (by omega)).mpr (by show l0 ≤ _; omega))]
              dsimp only at e1
              rw [if_neg cl] at e1
              refine Wn.lvp [1, 2, 3, 4, 5] (lv' := [(4, .int (nI c)), (3, .int (lI (some (b0, l0)))), (2, .int (bI (some (b0, l0)))), (0, .ref 0), (1, .int (nI st))]) rfl ?_
              exact nx _ _ (by rw [e1]) (by rw [e1])
        · rw [if_pos (b2_e0.mpr ci)]
          rw [if_neg ci] at e1
          exact nx _ _ (by rw [e1]) (by rw [e1])
  exact loop 64 0 rfl (by omega)
/-- the class behind swore -/
def PIW (M0 : Mm) (σ T : Nat → Nat) (L : Nat) : Po := fun r0 M' => Fr [0] M0 M' ∧ M'.2 = M0.2 ∧ (tri σ T L → r0 = some (.int (nI (ssN σ T L (σ 2)))) ∧ M'.1 0 = (if 0 < ssN σ T L (σ 2) then upd (upd (M0.1 0) 1 (nI 0)) 16 (bI (bqN σ (ssN σ T L (σ 2)) (σ 2) 64)) else upd (M0.1 0) 1 (nI 0))) ∧ (¬ tri σ T L → r0 = some (.int (-1)) ∧ M'.1 0 = upd (M0.1 0) 1 (nI 0))
set_option maxRecDepth 20000 in
theorem c_i_swore (d : Nat) (M : Mm) (σ : Nat → Nat) (hS : StC M 6 σ) (hB : Bd σ) (T : Nat → Nat) (L : Nat) (hL : M.1 0 1 = nI L) (hT : TB (M.1 1) T L) (hL9 : L ≤ 940) : Wn (d + 4) 27 (PIW M σ T L) (0, lv_args 0 [.ref 0], [], M) := by
  have b6 := Bd_2 hB
  refine Wn.run (tab := tb_i_swore) rfl 3 (c' := (5, [(1, .int (M.1 0 1)), (0, .ref 0)], [], M)) (o := [shp 0 = (0, 9)]) rfl rfl ?_
  rw [hL]
  refine Wn.run (tab := tb_i_swore) rfl 3 (c' := (10, [(1, .int (nI L)), (0, .ref 0)], [], (mI M 0 (upd (M.1 0) 1 (nI 0))))) (o := [shp 0 = (0, 9)]) rfl rfl ?_
  generalize hM1 : (mI M 0 (upd (M.1 0) 1 (nI 0))) = M1
  have f1 := fr_1I hM1
  have g1 : M1.1 0 = upd (M.1 0) 1 (nI 0) := mI_eq hM1
  have m2 : M1.2 = M.2 := by rw [← hM1]; rfl
  have S1 : StC M1 6 σ := fr_st f1 hS (by decide)
  have T1 : TB (M1.1 1) T L := by rw [(f1 1 (by decide)).1]; exact hT
  have r2 : M1.1 3 2 = nI (σ 2) := S1.2.1.2.2.2.1 2 (by decide)
  refine Wn.run (tab := tb_i_swore) rfl 2 (c' := (12, [(1, .int (nI L)), (0, .ref 0)], [.int (nI L), .ref 0], M1)) (o := []) rfl trivial ?_
  refine Wn.callV (p := 0) (n := 2) (ix := 324) (ci := (9)) (fun r0 M0 => ((tri σ T L → r0 = some (.int (nI 1))) ∧ (¬ tri σ T L → r0 = some (.int (nI 0)))) ∧ M1 = M0) [.int (nI L)] [] rfl rfl rfl rfl (Nat.le_of_ble_eq_true rfl) (Nat.le_of_ble_eq_true rfl) (w_i_areTriples (d + 2) M1 σ S1 hB T L T1 hL9 _ (fun h => ⟨⟨fun _ => rfl, fun q => absurd h q⟩, rfl⟩) (fun h => ⟨⟨fun q => absurd q h, fun _ => rfl⟩, rfl⟩)) ?_
  rintro r0 _ ⟨⟨hy, hn⟩, rfl⟩
  by_cases ct : tri σ T L
  · obtain rfl := hy ct
    show Wn _ 27 _ (15, [(1, .int (nI L)), (0, .ref 0)], [.int (nI 1)], M1)
    refine Wn.run (tab := tb_i_swore) rfl 1 (c' := (if ¬ (nI 1) = 0 then 20 else 18, [(1, .int (nI L)), (0, .ref 0)], [], M1)) (o := []) rfl trivial ?_
    rw [if_pos (show ¬ nI 1 = 0 by decide)]
    refine Wn.run (tab := tb_i_swore) rfl 4 (c' := (24, [(3, .int (nI 0)), (2, .int (nI 0)), (1, .int (nI L)), (0, .ref 0)], [], M1)) (o := []) rfl trivial ?_
    have loop : ∀ (m p : Nat), σ 2 - p = m → p ≤ σ 2 → Wn (d + 4) 27 (PIW M σ T L) (24, [(3, .int (nI p)), (2, .int (nI (ssN σ T L p))), (1, .int (nI L)), (0, .ref 0)], [], M1) := by
      intro m
      induction m using Nat.strongRecOn with
      | _ m ih =>
        intro p hm hp
        have sl := ssN_lt σ T L p
        refine Wn.run (tab := tb_i_swore) rfl 6 (c' := (if (M1.1 3 2) ≤ (nI p) then 73 else 38, [(3, .int (nI p)), (2, .int (nI (ssN σ T L p))), (1, .int (nI L)), (0, .ref 0)], [], M1)) (o := [shp 0 = (0, 9), shp 2 = (0, 8), shp 3 = (0, 2)]) rfl ⟨rfl, rfl, rfl⟩ ?_
        rw [r2]
        by_cases ce : σ 2 ≤ p
        · rw [if_pos ((n_le rfl rfl (by omega) (by omega)).mpr ce)]
          have ep : p = σ 2 := by omega
          subst ep
          have s6 : ssN σ T L (σ 2) < 64 := by
            have := Nat.pow_le_pow_right (show 0 < 2 by decide) b6
            omega
          refine Wn.run (tab := tb_i_swore) rfl 2 (c' := (if (nI (ssN σ T L (σ 2))) ≤ 0 then 86 else 77, [(3, .int (nI (σ 2))), (2, .int (nI (ssN σ T L (σ 2)))), (1, .int (nI L)), (0, .ref 0)], [], M1)) (o := []) rfl trivial ?_
          by_cases c0 : 0 < ssN σ T L (σ 2)
          · rw [if_neg (mt (n_le rfl nI_0.symm (by omega) (by omega)).mp (by omega))]
            refine Wn.run (tab := tb_i_swore) rfl 3 (c' := (80, [(3, .int (nI (σ 2))), (2, .int (nI (ssN σ T L (σ 2)))), (1, .int (nI L)), (0, .ref 0)], [.int (nI (ssN σ T L (σ 2))), .ref 0, .ref 0], M1)) (o := []) rfl trivial ?_
            refine Wn.callV (p := 0) (n := 2) (ix := 330) (ci := (9)) (fun r0 M0 => r0 = some (.int (bI (bqN σ (ssN σ T L (σ 2)) (σ 2) 64))) ∧ M1 = M0) [.int (nI (ssN σ T L (σ 2)))] [.ref 0] rfl rfl rfl rfl (Nat.le_of_ble_eq_true rfl) (Nat.le_of_ble_eq_true rfl) (w_i_bestQuestion d M1 σ S1 hB (ssN σ T L (σ 2)) s6 _ ⟨rfl, rfl⟩) ?_
            rintro _ _ ⟨rfl, rfl⟩
            show Wn _ 27 _ (83, [(3, .int (nI (σ 2))), (2, .int (nI (ssN σ T L (σ 2)))), (1, .int (nI L)), (0, .ref 0)], [.int (bI (bqN σ (ssN σ T L (σ 2)) (σ 2) 64)), .ref 0], M1)
            refine Wn.run (tab := tb_i_swore) rfl 1 (c' := (86, [(3, .int (nI (σ 2))), (2, .int (nI (ssN σ T L (σ 2)))), (1, .int (nI L)), (0, .ref 0)], [], (mI M1 0 (upd (M1.1 0) 16 (bI (bqN σ (ssN σ T L (σ 2)) (σ 2) 64)))))) (o := [shp 0 = (0, 9)]) rfl rfl ?_
            generalize hM2 : (mI M1 0 (upd (M1.1 0) 16 (bI (bqN σ (ssN σ T L (σ 2)) (σ 2) 64)))) = M2
            refine Wn.run (tab := tb_i_swore) rfl 1 (c' := (87, [(3, .int (nI (σ 2))), (2, .int (nI (ssN σ T L (σ 2)))), (1, .int (nI L)), (0, .ref 0)], [.int (nI (ssN σ T L (σ 2)))], M2)) (o := []) rfl trivial ?_
            exact Wn.iret rfl ⟨fr_tr f1 (fr_1I hM2) (by decide), by rw [← hM2]; exact m2, fun _ => ⟨rfl, by rw [if_pos c0, mI_eq hM2, g1]⟩, fun q => absurd ct q⟩
          · rw [if_pos ((n_le rfl nI_0.symm (by omega) (by omega)).mpr (by omega))]
            refine Wn.run (tab := tb_i_swore) rfl 1 (c' := (87, [(3, .int (nI (σ 2))), (2, .int (nI (ssN σ T L (σ 2)))), (1, .int (nI L)), (0, .ref 0)], [.int (nI (ssN σ T L (σ 2)))], M1)) (o := []) rfl trivial ?_
            exact Wn.iret rfl ⟨f1, m2, fun _ => ⟨rfl, by rw [if_neg c0]; exact g1⟩, fun q => absurd ct q⟩
        · rw [if_neg (mt (n_le rfl rfl (by omega) (by omega)).mp ce)]
          refine Wn.run (tab := tb_i_swore) rfl 4 (c' := (46, [(3, .int (nI p)), (2, .int (nI (ssN σ T L p))), (1, .int (nI L)), (0, .ref 0)], [.int (nI p), .ref 6], M1)) (o := [shp 0 = (0, 9), shp 2 = (0, 8)]) rfl ⟨rfl, rfl⟩ ?_
          refine Wn.callV (p := 6) (n := 2) (ix := 158) (ci := (5)) (fun r0 M0 => r0 = some (.int (b2 (fal σ p = true))) ∧ M1 = M0) [.int (nI p)] [] rfl rfl rfl rfl (Nat.le_of_ble_eq_true rfl) (Nat.le_of_ble_eq_true rfl) (w_st_isFallen _ M1 6 σ S1 hB p (by omega) _ ⟨rfl, rfl⟩) ?_
          rintro _ _ ⟨rfl, rfl⟩
          show Wn _ 27 _ (49, [(3, .int (nI p)), (2, .int (nI (ssN σ T L p))), (1, .int (nI L)), (0, .ref 0)], [.int (b2 (fal σ p = true))], M1)
          refine Wn.run (tab := tb_i_swore) rfl 1 (c' := (if ¬ (b2 (fal σ p = true)) = 0 then 67 else 52, [(3, .int (nI p)), (2, .int (nI (ssN σ T L p))), (1, .int (nI L)), (0, .ref 0)], [], M1)) (o := []) rfl trivial ?_
          have nx : ∀ v : Nat, v = ssN σ T L (p + 1) → Wn (d + 4) 27 (PIW M σ T L) (67, [(3, .int (nI p)), (2, .int (nI v)), (1, .int (nI L)), (0, .ref 0)], [], M1) := by
            intro v hv
            refine Wn.run (tab := tb_i_swore) rfl 2 (c' := (24, [(3, .int ((nI p) + (nI 1))), (2, .int (nI v)), (1, .int (nI L)), (0, .ref 0)], [], M1)) (o := []) rfl trivial ?_
            rw [nI_add, hv]
            exact ih (σ 2 - (p + 1)) (by omega) (p + 1) rfl (by omega)
          have e1 : ssN σ T L (p + 1) = ssN σ T L p + (if swQ σ T L p = true then 2 ^ p else 0) := rfl
          have sw := swQ_iff (σ := σ) (T := T) (q := p) ct.1.2.2
          by_cases cf : fal σ p = true
          · rw [if_pos (b2_n0.mpr cf)]
            exact nx _ (by rw [e1, if_neg (fun q => (sw.mp q).1 cf)]; rfl)
          rw [if_neg (fun q => q (b2_e0.mpr cf))]
          refine Wn.run (tab := tb_i_swore) rfl 3 (c' := (55, [(3, .int (nI p)), (2, .int (nI (ssN σ T L p))), (1, .int (nI L)), (0, .ref 0)], [.int (nI L), .int (nI p), .ref 0], M1)) (o := []) rfl trivial ?_
          refine Wn.callV (p := 0) (n := 3) (ix := 327) (ci := (9)) (fun r0 M0 => ((exO σ T L p → r0 = some (.int (nI 1))) ∧ (¬ exO σ T L p → r0 = some (.int (nI 0)))) ∧ M1 = M0) [.int (nI p), .int (nI L)] [] rfl rfl rfl rfl (Nat.le_of_ble_eq_true rfl) (Nat.le_of_ble_eq_true rfl) (w_i_explains (d + 1) M1 σ S1 hB T L T1 hL9 ct.1.2.2 ct.2 p (by omega) _ (fun h => ⟨⟨fun _ => rfl, fun q => absurd h q⟩, rfl⟩) (fun h => ⟨⟨fun q => absurd q h, fun _ => rfl⟩, rfl⟩)) ?_
          rintro r0 _ ⟨⟨hy2, hn2⟩, rfl⟩
          by_cases cx : exO σ T L p
          · obtain rfl := hy2 cx
            show Wn _ 27 _ (58, [(3, .int (nI p)), (2, .int (nI (ssN σ T L p))), (1, .int (nI L)), (0, .ref 0)], [.int (nI 1)], M1)
            refine Wn.run (tab := tb_i_swore) rfl 1 (c' := (if (nI 1) = 0 then 67 else 61, [(3, .int (nI p)), (2, .int (nI (ssN σ T L p))), (1, .int (nI L)), (0, .ref 0)], [], M1)) (o := []) rfl trivial ?_
            rw [if_neg (show ¬ nI 1 = 0 by decide)]
            refine Wn.run (tab := tb_i_swore) rfl 6 (c' := (67, [(2, .int ((nI (ssN σ T L p)) ||| ((nI 1) <<< ((nI p) &&& 31)))), (3, .int (nI p)), (1, .int (nI L)), (0, .ref 0)], [], M1)) (o := []) rfl trivial ?_
            rw [show (nI (ssN σ T L p)) ||| ((nI 1) <<< ((nI p) &&& 31)) = nI (ssN σ T L p + 2 ^ p) from by rw [n_shl rfl (by omega)]; exact or_ok2 p (by omega) _ sl]
            refine Wn.lvp [1, 0, 2, 3] (lv' := [(3, .int (nI p)), (2, .int (nI (ssN σ T L p + 2 ^ p))), (1, .int (nI L)), (0, .ref 0)]) rfl ?_
            exact nx _ (by rw [e1, if_pos (sw.mpr ⟨cf, cx⟩)])
          · obtain rfl := hn2 cx
            show Wn _ 27 _ (58, [(3, .int (nI p)), (2, .int (nI (ssN σ T L p))), (1, .int (nI L)), (0, .ref 0)], [.int (nI 0)], M1)
            refine Wn.run (tab := tb_i_swore) rfl 1 (c' := (if (nI 0) = 0 then 67 else 61, [(3, .int (nI p)), (2, .int (nI (ssN σ T L p))), (1, .int (nI L)), (0, .ref 0)], [], M1)) (o := []) rfl trivial ?_
            rw [if_pos (show nI 0 = 0 by decide)]
            exact nx _ (by rw [e1, if_neg (fun q => cx (sw.mp q).2)]; rfl)
    exact loop (σ 2) 0 rfl (by omega)
  · obtain rfl := hn ct
    show Wn _ 27 _ (15, [(1, .int (nI L)), (0, .ref 0)], [.int (nI 0)], M1)
    refine Wn.run (tab := tb_i_swore) rfl 1 (c' := (if ¬ (nI 0) = 0 then 20 else 18, [(1, .int (nI L)), (0, .ref 0)], [], M1)) (o := []) rfl trivial ?_
    rw [if_neg (show ¬ ¬ nI 0 = 0 by decide)]
    refine Wn.run (tab := tb_i_swore) rfl 1 (c' := (19, [(1, .int (nI L)), (0, .ref 0)], [.int (-1 : Int32)], M1)) (o := []) rfl trivial ?_
    exact Wn.iret rfl ⟨f1, m2, fun q => absurd q ct, fun _ => ⟨rfl, g1⟩⟩
