theorem pair_eta {q : Nat × Nat} {a : Nat} (h : q.1 = a) : q = (a, q.2) := by rw [← h]
section SNA
variable {p : Program} {l : Launch} {e : Env} {R : Room} {s : State} {m : MethodId} {args : Array Value} {below : List Frame} {meth : Method} {cd : Code} {Qf : State → Prop} {D : va_G} {tA : Nat → ClassId} {ρ : Nat → Nat} {A : Nat → Prop} {nL : Nat} {c c' : Cf} {o : List Prop}
variable {cc : ByteArray} {own : String} {Ts : List Cond}
theorem sg_ald {t : Nat} (hx : p.tables.exec = Jvm.exec) (hb : cd.code = cc) (hK : va_K D cls (tysL tA) s) (ho : allP o)
    (hd : (t = 0 ∧ decode cc c.1 = .ok (.iaload, 1)) ∨ ((t = 1 ∨ t = 2) ∧ decode cc c.1 = .ok (.baload, 1)) ∨ (t = 3 ∧ decode cc c.1 = .ok (.laload, 1)) ∨ ((t = 4 ∨ t = 5 ∨ t = 6) ∧ decode cc c.1 = .ok (.aaload, 1)))
    (h : o_ald shp t c = some (c', o)) (k : Gg p l e R s m args below meth cd Qf D tA ρ A nL c') : Gg p l e R s m args below meth cd Qf D tA ρ A nL c := by
  unfold o_ald at h
  split at h
  · rename_i pc lv i pl st M
    rcases hd with ⟨rfl, hd⟩ | ⟨(rfl | rfl), hd⟩ | ⟨rfl, hd⟩ | ⟨(rfl | rfl | rfl), hd⟩
    · cases h
      intro H locs ls hP hS hl
      exact va_iald hx hb hK hP pl 0 (wl_get (pair_eta ho.1) (by decide)) rfl ho.2 hd (k H locs ls hP hS hl)
    · cases h
      intro H locs ls hP hS hl
      exact va_bald hx hb hK hP pl 1 (wl_get (pair_eta ho.1) (by decide)) rfl ho.2 hd (k H locs ls hP hS hl)
    · cases h
      intro H locs ls hP hS hl
      exact va_zald hx hb hK hP pl 2 (wl_get (pair_eta ho.1) (by decide)) rfl ho.2 hd (k H locs ls hP hS hl)
    · cases h
      intro H locs ls hP hS hl
      exact va_lald hx hb hK hP pl 3 (wl_get (pair_eta ho.1) (by decide)) rfl ho.2 hd (k H locs ls hP hS hl)
    · cases h
      intro H locs ls hP hS hl
      exact va_aldq hx hb hK hP pl 4 (wl_get (pair_eta ho.1) (by decide)) rfl ho.2 hd (k H locs ls hP hS hl)
    · cases h
      intro H locs ls hP hS hl
      exact va_aldq hx hb hK hP pl 5 (wl_get (pair_eta ho.1) (by decide)) rfl ho.2 hd (k H locs ls hP hS hl)
    · cases h
      intro H locs ls hP hS hl
      exact va_aldq hx hb hK hP pl 6 (wl_get (pair_eta ho.1) (by decide)) rfl ho.2 hd (k H locs ls hP hS hl)
  · cases h
theorem sg_ast {t : Nat} (hx : p.tables.exec = Jvm.exec) (hb : cd.code = cc) (hK : va_K D cls (tysL tA) s) (hD : ∀ M : Mm, va_D A (wl ρ tA M)) (hAny : ∀ (v : Nat) (H : Heap) (locs : List Loc), isK v → va_S A s.heap H locs → va_Any "IceManners$Kind" s H (ρ v)) (ho : allP o)
    (hd : (t = 0 ∧ decode cc c.1 = .ok (.iastore, 1)) ∨ ((t = 1 ∨ t = 2) ∧ decode cc c.1 = .ok (.bastore, 1)) ∨ (t = 3 ∧ decode cc c.1 = .ok (.lastore, 1)) ∨ (t = 4 ∧ decode cc c.1 = .ok (.aastore, 1)))
    (h : o_ast shp t c = some (c', o)) (k : Gg p l e R s m args below meth cd Qf D tA ρ A nL c') : Gg p l e R s m args below meth cd Qf D tA ρ A nL c := by
  unfold o_ast at h
  split at h
  · rename_i pc lv v i pl st M
    cases h
    have hd : decode cc pc = .ok (.iastore, 1) := by rcases hd with ⟨-, hd⟩ | ⟨(h | h), -⟩ | ⟨h, -⟩ | ⟨h, -⟩ <;> first | exact hd | cases h
    intro H locs ls hP hS hl
    refine va_iast hx hb hK hP (hD M) hS pl 0 (wl_get (pair_eta ho.1) (by decide)) rfl ho.2 hd (fun H1 locs1 hP1 _ hS1 => k H1 locs1 ls ?_ hS1 hl)
    rw [wl_set (M := M) (pair_eta ho.1) (by decide) (fun i hi => mI_off M pl _ i hi)]
    have e9 : ce ρ tA (mI M pl (upd (M.1 pl) i.toNatClampNeg v)) pl (0 + 1, (shp pl).2) = .inl (tA 0, (shp pl).2, .inl (upd (M.1 pl) i.toNatClampNeg v)) := by
      show Sum.inl (tA 0, (shp pl).2, Sum.inl _) = _
      simp [mI, va_up]
    rw [e9]
    exact hP1
  · rename_i pc lv v i pl st M
    cases h
    have hd : decode cc pc = .ok (.bastore, 1) := by rcases hd with ⟨h, -⟩ | ⟨-, hd⟩ | ⟨h, -⟩ | ⟨h, -⟩ <;> first | exact hd | cases h
    intro H locs ls hP hS hl
    refine va_bast hx hb hK hP (hD M) hS pl 1 (wl_get (pair_eta ho.1) (by decide)) rfl ho.2 hd (fun H1 locs1 hP1 _ hS1 => k H1 locs1 ls ?_ hS1 hl)
    rw [wl_set (M := M) (pair_eta ho.1) (by decide) (fun i hi => mI_off M pl _ i hi)]
    have e9 : ce ρ tA (mI M pl (upd (M.1 pl) i.toNatClampNeg v.toInt8.toInt32)) pl (1 + 1, (shp pl).2) = .inl (tA 1, (shp pl).2, .inl (upd (M.1 pl) i.toNatClampNeg v.toInt8.toInt32)) := by
      show Sum.inl (tA 1, (shp pl).2, Sum.inl _) = _
      simp [mI, va_up]
    rw [e9]
    rw [vp_nar_byte] at hP1
    exact hP1
  · rename_i pc lv v i pl st M
    cases h
    have hd : decode cc pc = .ok (.bastore, 1) := by rcases hd with ⟨h, -⟩ | ⟨-, hd⟩ | ⟨h, -⟩ | ⟨h, -⟩ <;> first | exact hd | cases h
    have h01 : is01 v := ho.2
    have hn : vp_nar .boolean v = v := by rcases h01 with h | h <;> (rw [h]; rfl)
    intro H locs ls hP hS hl
    refine va_zast hx hb hK hP (hD M) hS pl 2 (wl_get (pair_eta ho.1.1) (by decide)) rfl ho.1.2 hd (fun H1 locs1 hP1 _ hS1 => k H1 locs1 ls ?_ hS1 hl)
    rw [wl_set (M := M) (pair_eta ho.1.1) (by decide) (fun i hi => mI_off M pl _ i hi)]
    have e9 : ce ρ tA (mI M pl (upd (M.1 pl) i.toNatClampNeg v)) pl (2 + 1, (shp pl).2) = .inl (tA 2, (shp pl).2, .inl (upd (M.1 pl) i.toNatClampNeg v)) := by
      show Sum.inl (tA 2, (shp pl).2, Sum.inl _) = _
      simp [mI, va_up]
    rw [e9]
    rw [hn] at hP1
    exact hP1
  · rename_i pc lv v i pl st M
    cases h
    have hd : decode cc pc = .ok (.lastore, 1) := by rcases hd with ⟨h, -⟩ | ⟨(h | h), -⟩ | ⟨-, hd⟩ | ⟨h, -⟩ <;> first | exact hd | cases h
    intro H locs ls hP hS hl
    refine va_last hx hb hK hP (hD M) hS pl 3 (wl_get (pair_eta ho.1) (by decide)) rfl ho.2 hd (fun H1 locs1 hP1 _ hS1 => k H1 locs1 ls ?_ hS1 hl)
    rw [wl_set (M := M) (pair_eta ho.1) (by decide) (fun i hi => mJ_off M pl _ i hi)]
    have e9 : ce ρ tA (mJ M pl (vp_updL (M.2.1 pl) i.toNatClampNeg v)) pl (3 + 1, (shp pl).2) = .inl (tA 3, (shp pl).2, .inr (.inl (vp_updL (M.2.1 pl) i.toNatClampNeg v))) := by
      show Sum.inl (tA 3, (shp pl).2, Sum.inr (Sum.inl _)) = _
      simp [mJ, va_up]
    rw [e9]
    exact hP1
  · rename_i pc lv v i pl st M
    cases h
    have hd : decode cc pc = .ok (.aastore, 1) := by rcases hd with ⟨h, -⟩ | ⟨(h | h), -⟩ | ⟨h, -⟩ | ⟨-, hd⟩ <;> first | exact hd | cases h
    intro H locs ls hP hS hl
    refine va_astqM hx hb hK hP (hD M) hS pl 4 (wl_get (pair_eta ho.1.1) (by decide)) rfl (hAny v H locs ho.2 hS) ho.1.2 hd (fun H1 locs1 hP1 _ hS1 => k H1 locs1 ls ?_ hS1 hl)
    rw [wl_set (M := M) (pair_eta ho.1.1) (by decide) (fun i hi => mR_off M pl _ i hi)]
    have e9 : ce ρ tA (mR M pl (va_up (M.2.2 pl) i.toNatClampNeg v)) pl (4 + 1, (shp pl).2) = .inl (tA 4, (shp pl).2, .inr (.inr (.inr (.inr (va_up (fun k => some (ρ (M.2.2 pl k))) i.toNatClampNeg (some (ρ v))))))) := by
      show Sum.inl (tA 4, (shp pl).2, Sum.inr (Sum.inr (Sum.inr (Sum.inr _)))) = _
      refine congrArg (fun z => Sum.inl (tA 4, (shp pl).2, Sum.inr (Sum.inr (Sum.inr (Sum.inr z))))) ?_
      funext q
      simp only [mR, va_up]
      by_cases hq : q = i.toNatClampNeg <;> simp [hq, va_up]
    rw [e9]
    exact hP1
  · cases h
theorem sg_len (hx : p.tables.exec = Jvm.exec) (hb : cd.code = cc) (hK : va_K D cls (tysL tA) s) (ho : allP o) (hd : decode cc c.1 = .ok (.arraylength, 1))
    (h : o_len shp c = some (c', o)) (k : Gg p l e R s m args below meth cd Qf D tA ρ A nL c') : Gg p l e R s m args below meth cd Qf D tA ρ A nL c := by
  unfold o_len at h
  split at h
  · rename_i pc lv q st M
    cases h
    intro H locs ls hP hS hl
    exact va_alen hx hb hK hP q 0 (wl_get (pair_eta ho) (by decide)) rfl rfl hd (k H locs ls hP hS hl)
  · cases h
theorem sg_copy {t ix : Nat} (hx : p.tables.exec = Jvm.exec) (hb : cd.code = cc) (hml : cd.maxLocals = nL) (hown : s.vm.findClass own = some m.cls) (hK : va_K D cls (tysL tA) s) (hD : ∀ M : Mm, va_D A (wl ρ tA M)) (ho : allP o)
    (hlink : (Cond.methodLink own ix arraycopyName).before args s = true) (hnat : (Cond.native arraycopyName).before args s = true) (hstat : (Cond.static arraycopyName).before args s = true) (hini : (Cond.initialized "java/lang/System").before args s = true)
    (hfr : 1 ≤ R.frames) (hlo : 8 + (nativeFrameWords "java/lang/System" "arraycopy" 5 + 11) ≤ R.locals) (hd : decode cc c.1 = .ok (.invokestatic ix, 3))
    (h : o_copy shp t c = some (c', o)) (k : Gg p l e R s m args below meth cd Qf D tA ρ A nL c') : Gg p l e R s m args below meth cd Qf D tA ρ A nL c := by
  have hcat9 : ∀ st : List Value, ((st.map (tv ρ)).map (fun v => v.category)).sum = (st.map (fun v => v.category)).sum := by
    intro st
    rw [List.map_map]
    congr 1
    exact List.map_congr_left (fun v _ => tv_cat ρ v)
  unfold o_copy at h
  split at h
  · rename_i pc lv n d q s9 pl st M
    cases h
    obtain ⟨h1, h2, h3, h4, h5, h6, h7, hcat⟩ := ho
    have hcat : (st.map (fun v => v.category)).sum ≤ 8 := hcat
    subst h1; subst h2
    intro H locs ls hP hS hl
    refine va_copyi (ty := .int) hx hb (by rw [hml]; exact hl.1.symm) hown hlink hnat hstat hini hK hP (hD M) hS pl q 0 0 (wl_get (pair_eta h4) (by decide)) (wl_get (pair_eta h5) (by decide)) rfl rfl rfl (by decide) (by decide) h3 (by simpa using h6) (by simpa using h7) (fun _ _ => rfl) hfr (by rw [hcat9]; omega) hd (fun H1 locs1 hP1 _ hS1 => k H1 locs1 ls ?_ hS1 hl)
    rw [wl_set (M := M) (pair_eta h5) (by decide) (fun i hi => mI_off M q _ i hi)]
    have e9 : ce ρ tA (mI M q (va_cpy (M.1 pl) (M.1 q) 0 0 n.toNatClampNeg)) q (1, (shp q).2) = .inl (tA 0, (shp q).2, .inl (va_cpy (M.1 pl) (M.1 q) 0 0 n.toNatClampNeg)) := by
      show Sum.inl (tA 0, (shp q).2, Sum.inl _) = _
      simp [mI, va_up]
    rw [e9]
    exact hP1
  · rename_i pc lv n d q s9 pl st M
    cases h
    obtain ⟨h1, h2, h3, h4, h5, h6, h7, hcat⟩ := ho
    have hcat : (st.map (fun v => v.category)).sum ≤ 8 := hcat
    subst h1; subst h2
    intro H locs ls hP hS hl
    refine va_copyl (ty := .long) hx hb (by rw [hml]; exact hl.1.symm) hown hlink hnat hstat hini hK hP (hD M) hS pl q 3 3 (wl_get (pair_eta h4) (by decide)) (wl_get (pair_eta h5) (by decide)) rfl rfl rfl (by decide) (by decide) h3 (by simpa using h6) (by simpa using h7) (fun _ _ => rfl) hfr (by rw [hcat9]; omega) hd (fun H1 locs1 hP1 _ hS1 => k H1 locs1 ls ?_ hS1 hl)
    rw [wl_set (M := M) (pair_eta h5) (by decide) (fun i hi => mJ_off M q _ i hi)]
    have e9 : ce ρ tA (mJ M q (va_cpy (M.2.1 pl) (M.2.1 q) 0 0 n.toNatClampNeg)) q (4, (shp q).2) = .inl (tA 3, (shp q).2, .inr (.inl (va_cpy (M.2.1 pl) (M.2.1 q) 0 0 n.toNatClampNeg))) := by
      show Sum.inl (tA 3, (shp q).2, Sum.inr (Sum.inl _)) = _
      simp [mJ, va_up]
    rw [e9]
    exact hP1
  · cases h
end SNA
