theorem va_O_any {E : String} {t : Nat} {A : Nat → Prop} {s : State} {H : Heap} {locs : List Loc} (h : va_O E t A s s.heap) (hS : va_S A s.heap H locs) : va_Any E s H t := by
  obtain ⟨cell, h1, h2, h3, -⟩ := h.kept hS.2.1
  obtain ⟨kC, hkC, -⟩ := Vm.findClass_spec h3
  exact ⟨cell, h1, h2, ⟨kC, hkC⟩, fun comp h => by rw [Option.some.inj (h.symm.trans h3)]; exact va_asg _ _⟩
/-- what a frame of method j stands on -/
def Cx (j : Nat) (p : Program) (R : Room) (s : State) (m : MethodId) (args : Array Value) (cd : Code) (D : va_G) (tA : Nat → ClassId) (ρ : Nat → Nat) (A : Nat → Prop) : Prop :=
  p.tables.exec = Jvm.exec ∧ cd.code = mC j ∧ cd.maxLocals = mL j ∧ s.vm.findClass (mY j).cls = some m.cls ∧ (∀ w ∈ Tg, w.before args s = true) ∧ va_K D cls (tysL tA) s ∧ (∀ M : Mm, va_D A (wl ρ tA M)) ∧ Stt ρ A s s.heap ∧
  (∀ (a : String) (i : Nat) (b n d h : String), Cond.fieldLinkNest a i b n d h ∈ lw_tbl → (Cond.fieldLinkNest a i b n d h).before args s = true) ∧ 2 ≤ R.frames ∧ 400 ≤ R.locals
/-- the words of the JDK's methods and of the classes' fields -/
def Wds : Prop := (∀ (ci : Nat) (q : vw_C), cls[ci]? = some q → ∀ w ∈ u_ws q.1 q.2.1 q.2.2, w ∈ Tg) ∧
  Cond.native arraycopyName ∈ Tg ∧ Cond.static arraycopyName ∈ Tg ∧ Cond.initialized "java/lang/System" ∈ Tg ∧
  Cond.static Lib.Math.max.name ∈ Tg ∧ Cond.static Lib.Math.min.name ∈ Tg ∧ Cond.initialized "java/lang/Math" ∈ Tg ∧ Cond.code Lib.Math.max.name Lib.Math.max.code 2 (some .int) ∈ Tg ∧ Cond.code Lib.Math.min.name Lib.Math.min.code 2 (some .int) ∈ Tg
theorem cls_ty (ci : Nat) (C : vw_C) (h : cls[ci]? = some C) : (∀ k, k < C.2.2 → parseFieldDescriptor (C.2.1 k).2.2.1 = some (tyOf ci k)) ∧ (∀ a, a < C.2.2 → ∀ b, b < C.2.2 → a ≠ b → (C.2.1 a).2.1 ≠ (C.2.1 b).2.1) := by
  match ci, h with
  | 0, h => cases h; exact ⟨cy0_ok, cn0⟩
  | 1, h => cases h; exact ⟨cy1_ok, cn1⟩
  | 2, h => cases h; exact ⟨cy2_ok, cn2⟩
  | 3, h => cases h; exact ⟨cy3_ok, cn3⟩
  | 4, h => cases h; exact ⟨cy4_ok, cn4⟩
  | 5, h => cases h; exact ⟨cy5_ok, cn5⟩
  | 6, h => cases h; exact ⟨cy6_ok, cn6⟩
  | 7, h => cases h; exact ⟨cy7_ok, cn7⟩
  | 8, h => cases h; exact ⟨cy8_ok, cn8⟩
  | 9, h => cases h; exact ⟨cy9_ok, cn9⟩
  | 10, h => cases h; exact ⟨cy10_ok, cn10⟩
  | k + 11, h => simp [cls] at h
theorem flB_or {n ix : Nat} {own : String} {q : String × String × String × Bool} (h : flB n own ix q = true) : Cond.fieldLink own ix q.1 q.2.1 q.2.2.1 ∈ Tg ∨ Cond.fieldLinkNest own ix q.1 q.2.1 q.2.2.1 "IceManners" ∈ lw_tbl := by
  simp only [flB, Bool.or_eq_true, decide_eq_true_eq] at h
  rcases h with h | h
  · exact Or.inl (lkB_in h)
  · exact Or.inr (List.mem_of_getElem? h)
theorem ifB {x pc : Nat} : (pc : Int) + ((x : Int) - pc) = (x : Int) := by omega
section DSP
variable {p : Program} {l : Launch} {e : Env} {R : Room} {s : State} {m : MethodId} {args : Array Value} {below : List Frame} {meth : Method} {cd : Code} {Qf : State → Prop} {D : va_G} {tA : Nat → ClassId} {ρ : Nat → Nat} {A : Nat → Prop} {c c' : Cf} {o : List Prop}
theorem sg_max {b : Bool} {cc : ByteArray} {nL ix : Nat} {own : String} (hx : p.tables.exec = Jvm.exec) (hb : cd.code = cc) (hml : cd.maxLocals = nL) (hown : s.vm.findClass own = some m.cls) (hts : ∀ w ∈ Tg, w.before args s = true) (hw : Wds) (hR : 2 ≤ R.frames ∧ 400 ≤ R.locals) (hd : decode cc c.1 = .ok (.invokestatic ix, 3)) (ho : allP o)
    (hl : (b = true ∧ Cond.methodLink own ix Lib.Math.max.name ∈ Tg) ∨ (b = false ∧ Cond.methodLink own ix Lib.Math.min.name ∈ Tg))
    (h : o_max b c = some (c', o)) (k : Gg p l e R s m args below meth cd Qf D tA ρ A nL c') : Gg p l e R s m args below meth cd Qf D tA ρ A nL c := by
  obtain ⟨-, -, -, -, w1, w2, w3, w4, w5⟩ := hw
  unfold o_max at h
  split at h
  · rename_i pc lv y x st M
    cases h
    have hcat : (st.map (fun v => v.category)).sum ≤ 8 := ho
    have hcat9 : ((st.map (tv ρ)).map (fun v => v.category)).sum = (st.map (fun v => v.category)).sum := by
      rw [List.map_map]
      congr 1
      exact List.map_congr_left (fun v _ => tv_cat ρ v)
    intro H locs ls hP hS hl9
    rcases hl with ⟨rfl, hl⟩ | ⟨rfl, hl⟩
    · exact va_mmax hx hb (by rw [hml]; exact hl9.1.symm) hown (hts _ hl) (hts _ w1) (hts _ w3) (hts _ w4) (by omega) (by show ((st.map (tv ρ)).map (fun v => v.category)).sum + 13 ≤ _; rw [hcat9]; omega) (Nat.zero_le _) (Nat.zero_le _) hd (k H locs ls hP hS hl9)
    · exact va_mmin hx hb (by rw [hml]; exact hl9.1.symm) hown (hts _ hl) (hts _ w2) (hts _ w3) (hts _ w5) (by omega) (by show ((st.map (tv ρ)).map (fun v => v.category)).sum + 13 ≤ _; rw [hcat9]; omega) (Nat.zero_le _) (Nat.zero_le _) hd (k H locs ls hP hS hl9)
  · cases h
theorem sg_tsw {j nL : Nat} {ex : List Int} (hx : p.tables.exec = Jvm.exec) (hb : cd.code = mC j) (hok : tsB j c.1 ex = true) (h : o_tsw ex c = some (c', o)) (k : Gg p l e R s m args below meth cd Qf D tA ρ A nL c') : Gg p l e R s m args below meth cd Qf D tA ρ A nL c := by
  unfold o_tsw at h
  split at h
  · rename_i pc lv x st M
    cases h
    unfold tsB at hok
    split at hok
    · rename_i lo hi d ts dflt lo' hi' offs len hdec
      simp only [Bool.and_eq_true, decide_eq_true_eq, List.all_eq_true] at hok
      obtain ⟨⟨⟨⟨⟨⟨rfl, rfl⟩, hd1⟩, hd0⟩, hts9⟩, hsz⟩, hpos⟩ := hok
      intro H locs ls hP hS hl
      have k9 := k H locs ls hP hS hl
      dsimp only [tsw] at k9
      by_cases hout : x.toInt < lo' ∨ hi' < x.toInt
      · rw [if_pos hout] at k9
        exact lv_tableOut hx hb hdec hout (by show (pc : Int) + dflt = ((d.toNat : Nat) : Int); omega) k9
      · rw [if_neg hout] at k9
        have h1 : ¬ x.toInt < lo' := fun h => hout (Or.inl h)
        have h2 : ¬ hi' < x.toInt := fun h => hout (Or.inr h)
        have hlt : (x.toInt - lo').toNat < offs.size := by omega
        have ho9 : offs[(x.toInt - lo').toNat]? = some offs[(x.toInt - lo').toNat] := Array.getElem?_eq_getElem hlt
        have hg : ts.getD (x.toInt - lo').toNat d = (pc : Int) + offs[(x.toInt - lo').toNat] := by
          rw [hts9, List.getD_eq_getElem?_getD, List.getElem?_map, Array.getElem?_toList, ho9]
          rfl
        have hm : (pc : Int) + offs[(x.toInt - lo').toNat] ∈ ts := by
          rw [hts9]
          exact List.mem_map.mpr ⟨_, Array.getElem_mem_toList hlt, rfl⟩
        have hp9 := hpos _ hm
        rw [hg] at k9
        exact lv_tableIn hx hb hdec h1 h2 ho9 (by show (pc : Int) + offs[(x.toInt - lo').toNat] = (((pc : Int) + offs[(x.toInt - lo').toNat]).toNat : Int); omega) k9
    · cases hok
  · cases h
theorem sg_lsw {j nL : Nat} {d : Int} {ex : List Int} (hx : p.tables.exec = Jvm.exec) (hb : cd.code = mC j) (hok : lsB j c.1 d ex = true) (h : o_lsw d ex c = some (c', o)) (k : Gg p l e R s m args below meth cd Qf D tA ρ A nL c') : Gg p l e R s m args below meth cd Qf D tA ρ A nL c := by
  unfold o_lsw at h
  split at h
  · rename_i pc lv x st M
    cases h
    unfold lsB at hok
    split at hok
    · rename_i dflt ps len hdec
      simp only [Bool.and_eq_true, decide_eq_true_eq] at hok
      obtain ⟨⟨⟨⟨hd1, hd0⟩, he⟩, hp⟩, hb9⟩ := hok
      have key : ∀ (qs : List (Int × Int)), (qs.all (fun q => decide (0 ≤ (pc : Int) + q.2) && decide (-1000 < q.1 ∧ q.1 < 1000))) = true → (pc : Int) + Op.lookupswitch.offset qs dflt x.toInt = ((lsw d ((qs.map (fun q => [q.1, (pc : Int) + q.2])).flatten) x : Nat) : Int) := by
        intro qs
        induction qs with
        | nil =>
          intro _
          show (pc : Int) + dflt = ((d.toNat : Nat) : Int)
          omega
        | cons q t ih =>
          intro hq
          obtain ⟨a, o9⟩ := q
          simp only [List.all_cons, Bool.and_eq_true, decide_eq_true_eq] at hq
          obtain ⟨⟨q0, q1, q2⟩, hq⟩ := hq
          have ih := ih hq
          have iff9 : a = x.toInt ↔ x = Int32.ofInt a := by
            constructor
            · intro h9; rw [h9, Int32.ofInt_toInt]
            · intro h9; rw [h9, Int32.toInt_ofInt_of_le (by omega) (by omega)]
          show (pc : Int) + (if a = x.toInt then o9 else Op.lookupswitch.offset t dflt x.toInt) = (((if x = Int32.ofInt a then ((pc : Int) + o9).toNat else lsw d ((t.map (fun q => [q.1, (pc : Int) + q.2])).flatten) x) : Nat) : Int)
          by_cases h9 : a = x.toInt
          · rw [if_pos h9, if_pos (iff9.mp h9)]
            omega
          · rw [if_neg h9, if_neg (fun h8 => h9 (iff9.mpr h8))]
            exact ih
      intro H locs ls hP hS hl
      have k9 := k H locs ls hP hS hl
      rw [he] at k9
      exact lv_lookup hx hb hdec hp rfl (key ps.toList hb9) k9
    · cases hok
  · cases h
set_option maxHeartbeats 4000000 in
/-- one row, whatever it is -/
theorem disp {j n : Nat} {r : Rw} (hw : Wds) (C0 : Cx j p R s m args cd D tA ρ A) (hok : okB j c.1 r n = true)
    (hord : ∀ x : Nat, decode (mC j) c.1 = .ok (.invokevirtual x, 3) → Cond.methodLink (mY j).cls x ⟨"IceManners$Kind", "ordinal", "()I"⟩ ∈ Tg → allP o → o_ord c = some (c', o) → Gg p l e R s m args below meth cd Qf D tA ρ A (mL j) c' → Gg p l e R s m args below meth cd Qf D tA ρ A (mL j) c)
    (h : stp shp r c = some (c', o)) (ho : allP o) (k : Gg p l e R s m args below meth cd Qf D tA ρ A (mL j) c') : Gg p l e R s m args below meth cd Qf D tA ρ A (mL j) c := by
  obtain ⟨hx, hb, hml, hown, hts, hK, hD, hI, hN, hR⟩ := C0
  obtain ⟨op, i, x, ex⟩ := r
  match op, h, hok with
  | 0, h, hok =>
    exact sg_push (fun H locs ls rest k9 => lv_iconst hx hb (dcB_eq hok) rfl k9) h k
  | 1, h, hok =>
    exact sg_push (fun H locs ls rest k9 => lv_bipush hx hb (dcB_eq (Bool.and_eq_true_iff.mp hok).1) (of_decide_eq_true (Bool.and_eq_true_iff.mp hok).2) k9) h k
  | 2, h, hok =>
    exact sg_push (fun H locs ls rest k9 => lv_sipush hx hb (dcB_eq (Bool.and_eq_true_iff.mp hok).1) (of_decide_eq_true (Bool.and_eq_true_iff.mp hok).2) k9) h k
  | 3, h, hok =>
    simp only [okB, Bool.or_eq_true, Bool.and_eq_true, decide_eq_true_eq] at hok
    rcases hok with ⟨rfl, hd⟩ | ⟨rfl, hd⟩
    · exact sg_push (fun H locs ls rest k9 => lv_lconst hx hb (dcB_eq hd) rfl k9) h k
    · exact sg_push (fun H locs ls rest k9 => lv_lconst hx hb (dcB_eq hd) rfl k9) h k
  | 4, h, hok =>
    match ex, hok with
    | [ix], hok => exact sg_push (fun H locs ls rest k9 => lv_ldc hx hb hown (hts _ (lkB_in (Bool.and_eq_true_iff.mp hok).2)) (dcB_eq (Bool.and_eq_true_iff.mp hok).1) k9) h k
    | [], hok => cases hok
    | _ :: _ :: _, hok => cases hok
  | 5, h, hok =>
    match ex, hok with
    | [ix], hok => exact sg_push (fun H locs ls rest k9 => lv_ldcw hx hb hown (hts _ (lkB_in (Bool.and_eq_true_iff.mp hok).2)) (dcB_eq (Bool.and_eq_true_iff.mp hok).1) k9) h k
    | [], hok => cases hok
    | _ :: _ :: _, hok => cases hok
  | 6, h, hok =>
    match ex, hok with
    | [ix], hok => exact sg_push (fun H locs ls rest k9 => lv_ldc2 hx hb hown (hts _ (lkB_in (Bool.and_eq_true_iff.mp hok).2)) (dcB_eq (Bool.and_eq_true_iff.mp hok).1) k9) h k
    | [], hok => cases hok
    | _ :: _ :: _, hok => cases hok
  | 7, h, hok =>
    exact sg_iload (fun H locs ls rest v hv k9 => lv_iload_n hx hb (dcB_eq (Bool.and_eq_true_iff.mp hok).2) (f4_eq (of_decide_eq_true (Bool.and_eq_true_iff.mp hok).1)) hv k9) h k
  | 8, h, hok =>
    exact sg_iload (fun H locs ls rest v hv k9 => lv_iload hx hb (dcB_eq hok) hv k9) h k
  | 9, h, hok =>
    exact sg_lload (fun H locs ls rest v hv k9 => lv_lload_n hx hb (dcB_eq (Bool.and_eq_true_iff.mp hok).2) (f4_eq (of_decide_eq_true (Bool.and_eq_true_iff.mp hok).1)) hv k9) h k
  | 10, h, hok =>
    exact sg_lload (fun H locs ls rest v hv k9 => lv_lload hx hb (dcB_eq hok) hv k9) h k
  | 11, h, hok =>
    exact sg_aload (fun H locs ls rest v hv k9 => lv_aload_n hx hb (dcB_eq (Bool.and_eq_true_iff.mp hok).2) (f4_eq (of_decide_eq_true (Bool.and_eq_true_iff.mp hok).1)) hv k9) h k
  | 12, h, hok =>
    exact sg_aload (fun H locs ls rest v hv k9 => lv_aload hx hb (dcB_eq hok) hv k9) h k
  | 13, h, hok =>
    have h1 := Bool.and_eq_true_iff.mp hok
    have h2 := Bool.and_eq_true_iff.mp h1.1
    exact sg_istore (of_decide_eq_true h2.2) (fun H locs ls rest v lv lv' hl hn he k9 => lv_istore_n hx hb (dcB_eq h1.2) (f4_eq (of_decide_eq_true h2.1)) hl hn he k9) h k
  | 14, h, hok =>
    have h1 := Bool.and_eq_true_iff.mp hok
    exact sg_istore (of_decide_eq_true h1.1) (fun H locs ls rest v lv lv' hl hn he k9 => lv_istore hx hb (dcB_eq h1.2) hl hn he k9) h k
  | 15, h, hok =>
    have h1 := Bool.and_eq_true_iff.mp hok
    have h2 := Bool.and_eq_true_iff.mp h1.1
    exact sg_lstore (of_decide_eq_true h2.2) (fun H locs ls rest v lv lv' hl hn he k9 => lv_lstore_n hx hb (dcB_eq h1.2) (f4_eq (of_decide_eq_true h2.1)) hl hn he k9) h k
  | 16, h, hok => cases hok
  | 17, h, hok =>
    have h1 := Bool.and_eq_true_iff.mp hok
    have h2 := Bool.and_eq_true_iff.mp h1.1
    exact sg_astore (of_decide_eq_true h2.2) (fun H locs ls rest v lv lv' hl hn he k9 => lv_astore_n hx hb (dcB_eq h1.2) (f4_eq (of_decide_eq_true h2.1)) hl hn he k9) h k
  | 18, h, hok =>
    have h1 := Bool.and_eq_true_iff.mp hok
    exact sg_astore (of_decide_eq_true h1.1) (fun H locs ls rest v lv lv' hl hn he k9 => lv_astore hx hb (dcB_eq h1.2) hl hn he k9) h k
  | 19, h, hok =>
    have h1 := Bool.and_eq_true_iff.mp hok
    exact sg_iinc hx hb (of_decide_eq_true h1.1) (dcB_eq h1.2) h k
  | 20, h, hok =>
    exact sg_bin (fun H locs ls rest x y k9 => lv_iadd hx hb (dcB_eq hok) k9) h k
  | 21, h, hok =>
    exact sg_bin (fun H locs ls rest x y k9 => lv_isub hx hb (dcB_eq hok) k9) h k
  | 22, h, hok =>
    exact sg_bin (fun H locs ls rest x y k9 => lv_imul hx hb (dcB_eq hok) k9) h k
  | 23, h, hok =>
    exact sg_bin (fun H locs ls rest x y k9 => lv_iand hx hb (dcB_eq hok) k9) h k
  | 24, h, hok =>
    exact sg_bin (fun H locs ls rest x y k9 => lv_ior hx hb (dcB_eq hok) k9) h k
  | 25, h, hok =>
    exact sg_bin (fun H locs ls rest x y k9 => lv_ixor hx hb (dcB_eq hok) k9) h k
  | 26, h, hok =>
    exact sg_bin (fun H locs ls rest x y k9 => lv_ishl hx hb (dcB_eq hok) k9) h k
  | 27, h, hok =>
    exact sg_bin (fun H locs ls rest x y k9 => lv_ishr hx hb (dcB_eq hok) k9) h k
  | 28, h, hok =>
    exact sg_bin (fun H locs ls rest x y k9 => lv_iushr hx hb (dcB_eq hok) rfl k9) h k
  | 29, h, hok =>
    exact sg_div ho (fun H locs ls rest x y hne k9 => lv_idiv hx hb (dcB_eq hok) hne k9) h k
  | 30, h, hok =>
    exact sg_div ho (fun H locs ls rest x y hne k9 => lv_irem hx hb (dcB_eq hok) hne k9) h k
  | 31, h, hok =>
    exact sg_un (fun H locs ls rest x k9 => lv_ineg hx hb (dcB_eq hok) k9) h k
  | 32, h, hok =>
    exact sg_lbin (fun H locs ls rest x y k9 => lv_lor hx hb (dcB_eq hok) k9) h k
  | 33, h, hok =>
    exact sg_lbin (fun H locs ls rest x y k9 => lv_land hx hb (dcB_eq hok) k9) h k
  | 34, h, hok =>
    exact sg_lsh (fun H locs ls rest x y k9 => lv_lshl hx hb (dcB_eq hok) rfl k9) h k
  | 35, h, hok =>
    exact sg_lsh (fun H locs ls rest x y k9 => lv_lshr hx hb (dcB_eq hok) rfl k9) h k
  | 36, h, hok =>
    exact sg_lsh (fun H locs ls rest x y k9 => lv_lushr hx hb (dcB_eq hok) rfl k9) h k
  | 37, h, hok =>
    exact sg_lcmp hx hb (dcB_eq hok) h k
  | 38, h, hok =>
    exact sg_i2l hx hb (dcB_eq hok) h k
  | 39, h, hok =>
    exact sg_l2i hx hb (dcB_eq hok) h k
  | 40, h, hok =>
    exact sg_un (fun H locs ls rest x k9 => lv_i2b hx hb (dcB_eq hok) rfl k9) h k
  | 41, h, hok =>
    exact sg_un (fun H locs ls rest x k9 => lv_i2c hx hb (dcB_eq hok) rfl k9) h k
  | 42, h, hok =>
    exact sg_dup hx hb (dcB_eq hok) h k
  | 43, h, hok =>
    exact sg_pop hx hb (dcB_eq hok) h k
  | 44, h, hok =>
    exact sg_dup2 hx hb (dcB_eq hok) h k
  | 45, h, hok =>
    exact sg_if (fun H locs ls rest z kt kf => lv_if_eq hx hb (dcB_eq hok) ifB kt (fun h9 => kf h9)) h k
  | 46, h, hok =>
    exact sg_if (fun H locs ls rest z kt kf => lv_if_ne hx hb (dcB_eq hok) ifB kt (fun h9 => kf (fun h8 => h8 h9))) h k
  | 47, h, hok =>
    exact sg_if (fun H locs ls rest z kt kf => lv_if_lt hx hb (dcB_eq hok) ifB kt (fun h9 => kf h9)) h k
  | 48, h, hok =>
    exact sg_if (fun H locs ls rest z kt kf => lv_if_ge hx hb (dcB_eq hok) ifB kt (fun h9 => kf h9)) h k
  | 49, h, hok =>
    exact sg_if (fun H locs ls rest z kt kf => lv_if_gt hx hb (dcB_eq hok) ifB kt (fun h9 => kf h9)) h k
  | 50, h, hok =>
    exact sg_if (fun H locs ls rest z kt kf => lv_if_le hx hb (dcB_eq hok) ifB kt (fun h9 => kf h9)) h k
  | 51, h, hok =>
    exact sg_ic (fun H locs ls rest z y kt kf => lv_icmp_eq hx hb (dcB_eq hok) ifB kt (fun h9 => kf h9)) h k
  | 52, h, hok =>
    exact sg_ic (fun H locs ls rest z y kt kf => lv_icmp_ne hx hb (dcB_eq hok) ifB kt (fun h9 => kf (fun h8 => h8 h9))) h k
  | 53, h, hok =>
    exact sg_ic (fun H locs ls rest z y kt kf => lv_icmp_lt hx hb (dcB_eq hok) ifB kt (fun h9 => kf h9)) h k
  | 54, h, hok =>
    exact sg_ic (fun H locs ls rest z y kt kf => lv_icmp_ge hx hb (dcB_eq hok) ifB kt (fun h9 => kf h9)) h k
  | 55, h, hok =>
    exact sg_ic (fun H locs ls rest z y kt kf => lv_icmp_gt hx hb (dcB_eq hok) ifB kt (fun h9 => kf h9)) h k
  | 56, h, hok =>
    exact sg_ic (fun H locs ls rest z y kt kf => lv_icmp_le hx hb (dcB_eq hok) ifB kt (fun h9 => kf h9)) h k
  | 57, h, hok =>
    exact sg_ac hx hb (Or.inl ⟨rfl, dcB_eq hok⟩) ifB hI ho h k
  | 58, h, hok =>
    exact sg_ac hx hb (Or.inr ⟨rfl, dcB_eq hok⟩) ifB hI ho h k
  | 59, h, hok =>
    exact sg_goto hx hb (dcB_eq hok) ifB h k
  | 60, h, hok =>
    exact sg_tsw hx hb hok h k
  | 61, h, hok =>
    exact sg_lsw hx hb hok h k
  | 62, h, hok =>
    have h1 := Bool.and_eq_true_iff.mp hok
    refine sg_get hx hb hts hw.1 hown hK (dcB_eq h1.1) ho ?_ h k
    rintro t ci kk f rfl
    have h2 := h1.2
    unfold gtB at h2
    dsimp only at h2
    cases hC : cls[ci.toNat]? with
    | none => rw [hC] at h2; cases h2
    | some C =>
      cases hq : (fkl ci.toNat)[kk.toNat]? with
      | none => rw [hC, hq] at h2; cases h2
      | some q =>
        rw [hC, hq] at h2
        simp only [Bool.and_eq_true, decide_eq_true_eq] at h2
        refine ⟨C, q, rfl, h2.1.1, rfl, kdB_ok h2.1.2, ?_⟩
        rcases flB_or h2.2 with h9 | h9
        · exact Or.inl (hts _ h9)
        · exact Or.inr ⟨_, hN _ _ _ _ _ _ h9⟩
  | 63, h, hok =>
    have h1 := Bool.and_eq_true_iff.mp hok
    refine sg_put hx hb hts hw.1 hown hK hD (dcB_eq h1.1) ho ?_ h k
    rintro t ci kk f rfl
    have h2 := h1.2
    unfold ptB at h2
    dsimp only at h2
    cases hC : cls[ci.toNat]? with
    | none => rw [hC] at h2; cases h2
    | some C =>
      cases hq : (fkl ci.toNat)[kk.toNat]? with
      | none => rw [hC, hq] at h2; cases h2
      | some q =>
        rw [hC, hq] at h2
        simp only [Bool.and_eq_true, decide_eq_true_eq, Bool.not_eq_true'] at h2
        obtain ⟨⟨⟨⟨a1, a2⟩, a3⟩, a4⟩, a5⟩ := h2
        exact ⟨C, q, tyOf ci.toNat, rfl, a1, rfl, kdB_ok a2, hts _ (lkB_in a3), (cls_ty _ _ hC).1, (cls_ty _ _ hC).2, a4, a5.1, a5.2.1, a5.2.2.1, a5.2.2.2⟩
  | 64, h, hok =>
    have h1 := Bool.and_eq_true_iff.mp hok
    have h2 := Bool.and_eq_true_iff.mp h1.1
    have h3 := of_decide_eq_true h2.2
    have h3 : isSt i.toNat := h3
    refine sg_gets hx hb hown (dcB_eq h2.1) hI h3 ?_ h k
    have h4 := h1.2
    simp only [Bool.or_eq_true, decide_eq_true_eq] at h4
    rcases h4 with h9 | h9
    · exact Or.inl (hts _ (lkB_in h9))
    · exact Or.inr ⟨_, hN _ _ _ _ _ _ (List.mem_of_getElem? h9)⟩
  | 65, h, hok =>
    simp only [okB, Bool.or_eq_true, Bool.and_eq_true, decide_eq_true_eq] at hok
    refine sg_ald hx hb hK ho ?_ h k
    rcases hok with ((h9 | h9) | h9) | h9
    · exact Or.inl ⟨h9.1, dcB_eq h9.2⟩
    · exact Or.inr (Or.inl ⟨h9.1, dcB_eq h9.2⟩)
    · exact Or.inr (Or.inr (Or.inl ⟨h9.1, dcB_eq h9.2⟩))
    · exact Or.inr (Or.inr (Or.inr ⟨h9.1, dcB_eq h9.2⟩))
  | 66, h, hok =>
    simp only [okB, Bool.or_eq_true, Bool.and_eq_true, decide_eq_true_eq] at hok
    refine sg_ast hx hb hK hD (fun v H locs hv hS => ?_) ho ?_ h k
    · obtain ⟨i9, hi9, rfl⟩ := isK_off hv
      exact va_O_any (hI.1.1 i9 hi9).2.1 hS
    · rcases hok with ((h9 | h9) | h9) | h9
      · exact Or.inl ⟨h9.1, dcB_eq h9.2⟩
      · exact Or.inr (Or.inl ⟨h9.1, dcB_eq h9.2⟩)
      · exact Or.inr (Or.inr (Or.inl ⟨h9.1, dcB_eq h9.2⟩))
      · exact Or.inr (Or.inr (Or.inr ⟨h9.1, dcB_eq h9.2⟩))
  | 67, h, hok =>
    exact sg_len hx hb hK ho (dcB_eq hok) h k
  | 68, h, hok =>
    have h1 := Bool.and_eq_true_iff.mp hok
    exact hord x (dcB_eq h1.1) (lkB_in h1.2) ho h k
  | 69, h, hok =>
    have h1 := Bool.and_eq_true_iff.mp hok
    exact sg_kcode hx hb hown (dcB_eq h1.1) hI ho (hts _ (lkB_in h1.2)) h k
  | 70, h, hok =>
    exact sg_kall hx hb (dcB_eq hok) hI ho h k
  | 71, h, hok =>
    have h1 := Bool.and_eq_true_iff.mp hok
    exact sg_step hx hb (dcB_eq h1.1) hI ho (of_decide_eq_true h1.2) h k
  | 72, h, hok =>
    exact sg_klen hx hb (dcB_eq hok) hI ho h k
  | 73, h, hok =>
    have h1 := Bool.and_eq_true_iff.mp hok
    exact sg_max hx hb hml hown hts hw hR (dcB_eq h1.1) ho (Or.inl ⟨rfl, lkB_in h1.2⟩) h k
  | 74, h, hok =>
    have h1 := Bool.and_eq_true_iff.mp hok
    exact sg_max hx hb hml hown hts hw hR (dcB_eq h1.1) ho (Or.inr ⟨rfl, lkB_in h1.2⟩) h k
  | 75, h, hok => cases hok
  | 76, h, hok =>
    match ex, hok with
    | [ix], hok =>
      have h1 := Bool.and_eq_true_iff.mp hok
      exact sg_copy hx hb hml hown hK hD ho (hts _ (lkB_in h1.2)) (hts _ hw.2.1) (hts _ hw.2.2.1) (hts _ hw.2.2.2.1) (by omega) (Nat.le_trans (by decide) hR.2) (dcB_eq h1.1) h k
    | [], hok => cases hok
    | _ :: _ :: _, hok => cases hok
  | n + 77, h, hok => cases h
end DSP
