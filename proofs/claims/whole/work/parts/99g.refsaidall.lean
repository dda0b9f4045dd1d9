/-! Said, by the reference. -/
def PSy (M0 : Mm) (g : Nat → Int32) (r : Int32) : Po := fun r0 M' => r0 = some (.int r) ∧ M'.1 114 = upd g 0 (nI 0) ∧ Fr [114, 130] M0 M'
theorem Ms_fr {K : List Nat} {M M' : Mm} {σ : Nat → Nat} (hF : Fr K M M') (hp : ¬ 116 ∈ K) (h : Ms M σ) : Ms M' σ := ⟨by rw [(hF 116 hp).1]; exact h.1, h.2⟩
set_option maxRecDepth 20000 in
theorem c_m_said (d : Nat) (M : Mm) (g : Nat → Int32) (hg : M.1 114 = g) (σ : Nat → Nat) (hM : Ms M σ) (n : Nat) (A S U : Nat → Nat) (hP : CodM (M.1 116) n A S U) (hV : SenV (σ 2) n A S U) (k : Int32) : Wn (d + 8) 147 (PSy M g (saidR σ n A S U k)) (0, lv_args 0 [.ref 114, .int k], [], M) := by
  have b6 := Bd_2 hM.2
  have n9 := hV.1
  refine Wn.run (tab := tb_m_said) rfl 3 (c' := (5, [(0, .ref 114), (1, .int k)], [], (mI M 114 (upd (M.1 114) 0 (nI 0))))) (o := [shp 114 = (0, 10)]) rfl rfl ?_
  generalize hM1 : (mI M 114 (upd (M.1 114) 0 (nI 0))) = M1
  have f1 := fr_1I hM1
  have g1 : M1.1 114 = upd g 0 (nI 0) := by rw [← hg]; exact mI_eq hM1
  have u1 : M1.1 116 = M.1 116 := (f1 116 (by decide)).1
  refine Wn.run (tab := tb_m_said) rfl 5 (c' := (if (M1.1 116 178) = 0 then 21 else 16, [(0, .ref 114), (1, .int k)], [], M1)) (o := [shp 114 = (0, 10), aok shp 116 0 (nI 178)]) rfl ⟨rfl, ⟨rfl, vp_in_nI (by decide) (by decide)⟩⟩ ?_
  rw [u1, hP.1]
  have z21 : saidR σ n A S U k = -1 → Wn (d + 8) 147 (PSy M g (saidR σ n A S U k)) (21, [(0, .ref 114), (1, .int k)], [], M1) := by
    intro e
    rw [e]
    refine Wn.run (tab := tb_m_said) rfl 1 (c' := (22, [(0, .ref 114), (1, .int k)], [.int (-1 : Int32)], M1)) (o := []) rfl trivial ?_
    exact Wn.iret rfl ⟨rfl, g1, fr_up f1 (by decide)⟩
  by_cases c : n = 0
  · rw [if_pos ((n_eq rfl nI_0.symm (by omega) (by omega)).mpr c)]
    exact z21 (if_pos c)
  rw [if_neg (mt (n_eq rfl nI_0.symm (by omega) (by omega)).mp c)]
  refine Wn.run (tab := tb_m_said) rfl 3 (c' := (if (-1 : Int32) ≤ k then 23 else 21, [(0, .ref 114), (1, .int k)], [], M1)) (o := []) rfl trivial ?_
  have er : saidR σ n A S U k = sdR σ n A S U k (σ 2) 0 0 := if_neg c
  by_cases ck : (-1 : Int32) ≤ k
  · rw [if_pos ck, er]
    refine Wn.run (tab := tb_m_said) rfl 4 (c' := (27, [(3, .int (nI 0)), (2, .int (nI 0)), (0, .ref 114), (1, .int k)], [], M1)) (o := []) rfl trivial ?_
    have loop : ∀ (m i f : Nat) (N : Mm) (r : Int32), i + m = σ 2 → f ≤ i → N.1 114 = upd g 0 (nI 0) → Fr [114, 130] M N → sdR σ n A S U k m i f = r → Wn (d + 8) 147 (PSy M g r) (27, [(3, .int (nI i)), (2, .int (nI f)), (0, .ref 114), (1, .int k)], [], N) := by
      intro m
      induction m with
      | zero =>
        intro i f N r him hf hg9 hF er9
        have u9 : N.1 116 = M.1 116 := (hF 116 (by decide)).1
        unfold sdR at er9
        refine Wn.run (tab := tb_m_said) rfl 6 (c' := (if (N.1 116 2) ≤ (nI i) then 64 else 37, [(3, .int (nI i)), (2, .int (nI f)), (0, .ref 114), (1, .int k)], [], N)) (o := [shp 114 = (0, 10), aok shp 116 0 (nI 2)]) rfl ⟨rfl, ⟨rfl, vp_in_nI (by decide) (by decide)⟩⟩ ?_
        rw [u9, hM.1 2 (by decide), if_pos ((n_le rfl rfl (by omega) (by omega)).mpr (show σ 2 ≤ i by omega))]
        refine Wn.run (tab := tb_m_said) rfl 3 (c' := (if ¬ k = (-1 : Int32) then 73 else 69, [(3, .int (nI i)), (2, .int (nI f)), (0, .ref 114), (1, .int k)], [], N)) (o := []) rfl trivial ?_
        by_cases ck : k = -1
        · rw [if_neg (fun q => q ck)]
          rw [if_pos ck] at er9
          refine Wn.run (tab := tb_m_said) rfl 2 (c' := (74, [(3, .int (nI i)), (2, .int (nI f)), (0, .ref 114), (1, .int k)], [.int (nI f)], N)) (o := []) rfl trivial ?_
          exact Wn.iret rfl ⟨by rw [er9], hg9, hF⟩
        · rw [if_pos ck]
          rw [if_neg ck] at er9
          refine Wn.run (tab := tb_m_said) rfl 1 (c' := (74, [(3, .int (nI i)), (2, .int (nI f)), (0, .ref 114), (1, .int k)], [.int (-1 : Int32)], N)) (o := []) rfl trivial ?_
          exact Wn.iret rfl ⟨by rw [er9], hg9, hF⟩
      | succ m ih =>
        intro i f N r him hf hg9 hF er9
        have u9 : N.1 116 = M.1 116 := (hF 116 (by decide)).1
        unfold sdR at er9
        refine Wn.run (tab := tb_m_said) rfl 6 (c' := (if (N.1 116 2) ≤ (nI i) then 64 else 37, [(3, .int (nI i)), (2, .int (nI f)), (0, .ref 114), (1, .int k)], [], N)) (o := [shp 114 = (0, 10), aok shp 116 0 (nI 2)]) rfl ⟨rfl, ⟨rfl, vp_in_nI (by decide) (by decide)⟩⟩ ?_
        rw [u9, hM.1 2 (by decide), if_neg (mt (n_le rfl rfl (by omega) (by omega)).mp (show ¬ σ 2 ≤ i by omega))]
        refine Wn.run (tab := tb_m_said) rfl 2 (c' := (39, [(3, .int (nI i)), (2, .int (nI f)), (0, .ref 114), (1, .int k)], [.int (nI i), .ref 114], N)) (o := []) rfl trivial ?_
        refine Wn.callV (p := 114) (n := 2) (ix := 463) (ci := (10)) (PSd N (nI (bnB (sdB σ n A S U i)))) [.int (nI i)] [] rfl rfl rfl rfl (Nat.le_of_ble_eq_true rfl) (Nat.le_of_ble_eq_true rfl) (c_m_isSaid d N σ (Ms_fr hF (by decide) hM) n A S U (by rw [u9]; exact hP) hV (by omega) i (by omega)) ?_
        rintro _ N2 ⟨rfl, q1⟩
        have g2 : N2.1 114 = upd g 0 (nI 0) := by rw [(q1 114 (by decide)).1]; exact hg9
        have F2 : Fr [114, 130] M N2 := fr_tr hF q1 (by decide)
        show Wn _ 147 _ (42, [(3, .int (nI i)), (2, .int (nI f)), (0, .ref 114), (1, .int k)], [.int (nI (bnB (sdB σ n A S U i)))], N2)
        refine Wn.run (tab := tb_m_said) rfl 1 (c' := (if ¬ (nI (bnB (sdB σ n A S U i))) = 0 then 48 else 45, [(3, .int (nI i)), (2, .int (nI f)), (0, .ref 114), (1, .int k)], [], N2)) (o := []) rfl trivial ?_
        by_cases cs : sdB σ n A S U i = true
        · rw [if_pos (show ¬ nI (bnB (sdB σ n A S U i)) = 0 by rw [cs]; decide)]
          rw [if_pos cs] at er9
          refine Wn.run (tab := tb_m_said) rfl 3 (c' := (if ¬ (nI f) = k then 55 else 53, [(3, .int (nI i)), (2, .int (nI f)), (0, .ref 114), (1, .int k)], [], N2)) (o := []) rfl trivial ?_
          by_cases cf : nI f = k
          · rw [if_neg (fun q => q cf)]
            rw [if_pos cf] at er9
            refine Wn.run (tab := tb_m_said) rfl 1 (c' := (54, [(3, .int (nI i)), (2, .int (nI f)), (0, .ref 114), (1, .int k)], [.int (nI i)], N2)) (o := []) rfl trivial ?_
            exact Wn.iret rfl ⟨by rw [er9], g2, F2⟩
          · rw [if_pos cf]
            rw [if_neg cf] at er9
            refine Wn.run (tab := tb_m_said) rfl 3 (c' := (27, [(3, .int ((nI i) + (nI 1))), (2, .int ((nI f) + (nI 1))), (0, .ref 114), (1, .int k)], [], N2)) (o := []) rfl trivial ?_
            rw [nI_add, nI_add]
            exact ih (i + 1) (f + 1) N2 r (by omega) (by omega) g2 F2 er9
        · rw [if_neg (show ¬ ¬ nI (bnB (sdB σ n A S U i)) = 0 by rw [Bool.not_eq_true _ |>.mp cs]; decide)]
          rw [if_neg cs] at er9
          refine Wn.run (tab := tb_m_said) rfl 3 (c' := (27, [(3, .int ((nI i) + (nI 1))), (2, .int (nI f)), (0, .ref 114), (1, .int k)], [], N2)) (o := []) rfl trivial ?_
          rw [nI_add]
          exact ih (i + 1) f N2 r (by omega) (by omega) g2 F2 er9
    exact loop (σ 2) 0 0 M1 _ (by omega) (Nat.le_refl _) g1 (fr_up f1 (by decide)) rfl
  · rw [if_neg ck]
    exact z21 (by rw [er]; exact sdR_no (Int32.not_le.mp ck) _ _ _ (by omega))
