/-- the reference, a text taken: at most mo signs -/
def PTa (M0 : Mm) (g : Nat → Int32) (L : Nat) (mo : Int32) : Po := fun r0 M' => r0 = none ∧ M'.1 114 = upd (upd (upd (upd g 3 (nI L)) 2 (nI 0)) 4 (nI 0)) 5 mo ∧ M'.2 = M0.2 ∧ Fr [114] M0 M'
/-- the lines of a lake's text: n bounds them, k were read -/
def lnS (T : Nat → Nat) (L mo : Nat) : Nat → Nat → Dst → Flt ⊕ (Nat × Dst)
  | 0, k, st => .inr (k, st)
  | n + 1, k, st => if tKd T L mo st.1 = 0 then .inr (k, st) else
    match rdLn T L mo st.1 st.2.1 st.2.2.1 st.2.2.2.1 st.2.2.2.2 with
    | .inl f => .inl f
    | .inr s2 => if tKd T L mo s2.1 = 4 then lnS T L mo n (k + 1) (tNx T L s2.1, s2.2) else .inl (1, tAt T L mo s2.1)
def lk0 : Dst := (0, dl0, (fun _ => 0), 0, 0)
theorem DB_0 : DB dl0 := by
  refine ⟨by decide, by decide, by decide, fun q hq => absurd hq (by show ¬ q < 0; omega), ?_⟩
  decide
set_option maxRecDepth 20000 in
theorem c_m_taken (d : Nat) (M : Mm) (g : Nat → Int32) (hg : M.1 114 = g) (L : Nat) (h2 : g 2 = nI L) (mo : Int32) : Wn (d + 0) 45 (PTa M g L mo) (0, lv_args 0 [.ref 114, .int mo], [], M) := by
  have hF := fr_rf [114] M
  refine Wn.run (tab := tb_m_taken) rfl 4 (c' := (8, [(0, .ref 114), (1, .int mo)], [], (mI M 114 (upd (M.1 114) 3 (M.1 114 2))))) (o := [shp 114 = (0, 10), shp 114 = (0, 10)]) rfl ⟨rfl, rfl⟩ ?_
  rw [show (M.1 114 2) = (nI L) from (fr_eq hg (show g 2 = (nI L) from h2))]
  generalize hM2 : (mI M 114 (upd (M.1 114) 3 (nI L))) = M1
  have hk3 := fI_up hM2 hg
  have hF4 := fr_sI hF hM2 (by decide)
  show Wn _ 45 _ (8, [(0, .ref 114), (1, .int mo)], [], M1)
  refine Wn.run (tab := tb_m_taken) rfl 3 (c' := (13, [(0, .ref 114), (1, .int mo)], [], (mI M1 114 (upd (M1.1 114) 2 (nI 0))))) (o := [shp 114 = (0, 10)]) rfl rfl ?_
  generalize hM6 : (mI M1 114 (upd (M1.1 114) 2 (nI 0))) = M5
  have hk7 := fI_up hM6 hk3
  have hF8 := fr_sI hF4 hM6 (by decide)
  show Wn _ 45 _ (13, [(0, .ref 114), (1, .int mo)], [], M5)
  refine Wn.run (tab := tb_m_taken) rfl 3 (c' := (18, [(0, .ref 114), (1, .int mo)], [], (mI M5 114 (upd (M5.1 114) 4 (nI 0))))) (o := [shp 114 = (0, 10)]) rfl rfl ?_
  generalize hM10 : (mI M5 114 (upd (M5.1 114) 4 (nI 0))) = M9
  have hk11 := fI_up hM10 hk7
  have hF12 := fr_sI hF8 hM10 (by decide)
  show Wn _ 45 _ (18, [(0, .ref 114), (1, .int mo)], [], M9)
  refine Wn.run (tab := tb_m_taken) rfl 3 (c' := (23, [(0, .ref 114), (1, .int mo)], [], (mI M9 114 (upd (M9.1 114) 5 mo)))) (o := [shp 114 = (0, 10)]) rfl rfl ?_
  generalize hM14 : (mI M9 114 (upd (M9.1 114) 5 mo)) = M13
  have hk15 := fI_up hM14 hk11
  have hF16 := fr_sI hF12 hM14 (by decide)
  show Wn _ 45 _ (23, [(0, .ref 114), (1, .int mo)], [], M13)
  exact Wn.vret rfl ⟨rfl, hk15, by rw [← hM14, ← hM10, ← hM6, ← hM2]; rfl, hF16⟩
