def tysL (tA : Nat → ClassId) : List (ClassId × FieldType) := [(tA 0, .int), (tA 1, .byte), (tA 2, .boolean), (tA 3, .long), (tA 4, .object "IceManners$Kind"), (tA 5, .object cR5), (tA 6, .object cR8)]
/-- the kind of a field as a row says it -/
def kdOk (t : Int) (q : Nat × Nat) (o : Int) : Prop := match t with
  | 0 => q.1 = 0 ∨ q.1 = 6
  | 1 => q.1 = 1
  | 2 => q.1 = 2
  | 3 => q = (3, o.toNat)
  | 4 => q.1 = 4
  | 5 => q = (5, o.toNat)
  | 6 => q.1 = 6
  | _ => False
theorem fvs_set {ρ : Nat → Nat} {M M' : Mm} {p ci k : Nat} {q : Nat × Nat} {v : Value} (hk : (fkl ci)[k]? = some q) (h1 : fval ρ M' p k q = v) (h2 : ∀ (i : Nat) (z : Nat × Nat), i ≠ k → fval ρ M' p i z = fval ρ M p i z) : fvs ρ M' p ci = (fvs ρ M p ci).set k v := by
  apply List.ext_getElem?
  intro i
  by_cases hi : i = k
  · subst hi
    have hl : i < (fvs ρ M p ci).length := by
      unfold fvs
      simp
      exact (List.getElem?_eq_some_iff.mp hk).1
    rw [List.getElem?_set_self hl, fvs_get, hk]
    simp [h1]
  · rw [List.getElem?_set_ne (Ne.symm hi), fvs_get, fvs_get]
    cases (fkl ci)[i]? with
    | none => rfl
    | some z => simp [h2 i z hi]
theorem fvI_off {ρ : Nat → Nat} {M : Mm} {p k : Nat} {v : Int32} (i : Nat) (z : Nat × Nat) (h : i ≠ k) : fval ρ (mI M p (upd (M.1 p) k v)) p i z = fval ρ M p i z := by
  unfold fval mI
  simp [va_up, upd, h]
theorem fvJ_off {ρ : Nat → Nat} {M : Mm} {p k : Nat} {v : Int64} (i : Nat) (z : Nat × Nat) (h : i ≠ k) : fval ρ (mJ M p (vp_updL (M.2.1 p) k v)) p i z = fval ρ M p i z := by
  unfold fval mJ
  simp [va_up, vp_updL, h]
theorem fvR_off {ρ : Nat → Nat} {M : Mm} {p k : Nat} {v : Nat} (i : Nat) (z : Nat × Nat) (h : i ≠ k) : fval ρ (mR M p (va_up (M.2.2 p) k v)) p i z = fval ρ M p i z := by
  unfold fval mR
  simp [va_up, h]
section SNM
variable {p : Program} {l : Launch} {e : Env} {R : Room} {s : State} {m : MethodId} {args : Array Value} {below : List Frame} {meth : Method} {cd : Code} {Qf : State → Prop} {D : va_G} {tA : Nat → ClassId} {ρ : Nat → Nat} {A : Nat → Prop} {nL : Nat} {c c' : Cf} {o : List Prop}
variable {cc : ByteArray} {own : String} {Ts : List Cond}
theorem sg_get {ix : Nat} {ex : List Int} (hx : p.tables.exec = Jvm.exec) (hb : cd.code = cc) (hts : ∀ w ∈ Ts, w.before args s = true) (hin : ∀ (ci : Nat) (q : vw_C), cls[ci]? = some q → ∀ w ∈ u_ws q.1 q.2.1 q.2.2, w ∈ Ts) (hown : s.vm.findClass own = some m.cls) (hK : va_K D cls (tysL tA) s) (hd : decode cc c.1 = .ok (.getfield ix, 3)) (ho : allP o)
    (hR : ∀ t ci k f : Int, ex = [t, ci, k, f] → ∃ (C : vw_C) (q : Nat × Nat), cls[ci.toNat]? = some C ∧ k.toNat < C.2.2 ∧ (fkl ci.toNat)[k.toNat]? = some q ∧ kdOk t q f ∧ ((Cond.fieldLink own ix (C.2.1 k.toNat).1 (C.2.1 k.toNat).2.1 (C.2.1 k.toNat).2.2.1).before args s = true ∨ ∃ host, (Cond.fieldLinkNest own ix (C.2.1 k.toNat).1 (C.2.1 k.toNat).2.1 (C.2.1 k.toNat).2.2.1 host).before args s = true))
    (h : o_get shp ex c = some (c', o)) (kk : Gg p l e R s m args below meth cd Qf D tA ρ A nL c') : Gg p l e R s m args below meth cd Qf D tA ρ A nL c := by
  unfold o_get at h
  split at h
  · rename_i t ci k f pc lv pl st M
    obtain ⟨C, q, hC, hkN, hkq, hkd, hlk⟩ := hR t ci k f rfl
    obtain ⟨C, T, N⟩ := C
    have key : ∀ v : Value, fval ρ M pl k.toNat q = tv ρ v → c' = (pc + 3, lv, v :: st, M) → shp pl = (0, ci.toNat) → Gg p l e R s m args below meth cd Qf D tA ρ A nL (pc, lv, .ref pl :: st, M) := by
      intro v hv hc' hsh
      subst hc'
      intro H locs ls hP hS hl
      have hv9 : (fvs ρ M pl ci.toNat)[k.toNat]? = some (tv ρ v) := by rw [fvs_get, hkq]; simp [hv]
      rcases hlk with hlk | ⟨host, hlk⟩
      · exact va_get hx hb hts (hin ci.toNat _ hC) hown hK hP pl (wl_get hsh (by decide)) hC k.toNat hkN hlk (fun _ h9 => h9) hv9 hd (kk H locs ls hP hS hl)
      · exact va_getN hx hb hts (hin ci.toNat _ hC) hown hK hP pl (wl_get hsh (by decide)) hC k.toNat hkN hlk (fun _ h9 => h9) hv9 hd (kk H locs ls hP hS hl)
    split at h
    · cases h
      refine key _ ?_ rfl ho
      rcases hkd with h9 | h9 <;> (unfold fval; rw [h9]; rfl)
    · cases h
      refine key _ ?_ rfl ho
      have h9 : q.1 = 1 := hkd
      unfold fval; rw [h9]; rfl
    · cases h
      refine key _ ?_ rfl ho
      have h9 : q.1 = 2 := hkd
      unfold fval; rw [h9]; rfl
    · cases h
      refine key _ ?_ rfl ho
      have h9 : q = (3, f.toNat) := hkd
      rw [h9]; rfl
    · cases h
      refine key _ ?_ rfl ho
      have h9 : q.1 = 4 := hkd
      unfold fval; rw [h9]; rfl
    · cases h
      refine key _ ?_ rfl ho
      have h9 : q = (5, f.toNat) := hkd
      rw [h9]; rfl
    · cases h
  · cases h
theorem sg_put {ix : Nat} {ex : List Int} (hx : p.tables.exec = Jvm.exec) (hb : cd.code = cc) (hts : ∀ w ∈ Ts, w.before args s = true) (hin : ∀ (ci : Nat) (q : vw_C), cls[ci]? = some q → ∀ w ∈ u_ws q.1 q.2.1 q.2.2, w ∈ Ts) (hown : s.vm.findClass own = some m.cls) (hK : va_K D cls (tysL tA) s) (hD : ∀ M : Mm, va_D A (wl ρ tA M)) (hd : decode cc c.1 = .ok (.putfield ix, 3)) (ho : allP o)
    (hR : ∀ t ci k f : Int, ex = [t, ci, k, f] → ∃ (C : vw_C) (q : Nat × Nat) (ty : Nat → FieldType), cls[ci.toNat]? = some C ∧ k.toNat < C.2.2 ∧ (fkl ci.toNat)[k.toNat]? = some q ∧ kdOk t q f ∧ (Cond.fieldLink own ix (C.2.1 k.toNat).1 (C.2.1 k.toNat).2.1 (C.2.1 k.toNat).2.2.1).before args s = true ∧ (∀ k, k < C.2.2 → parseFieldDescriptor (C.2.1 k).2.2.1 = some (ty k)) ∧ (∀ a, a < C.2.2 → ∀ b, b < C.2.2 → a ≠ b → (C.2.1 a).2.1 ≠ (C.2.1 b).2.1) ∧ (C.2.1 k.toNat).2.2.2 = false ∧
      (t = 0 → ty k.toNat = .int) ∧ (t = 6 → ty k.toNat = .boolean) ∧ (t = 1 → ty k.toNat = .long) ∧ (t = 2 → ty k.toNat = .object "IceManners$Kind"))
    (h : o_put shp ex c = some (c', o)) (kk : Gg p l e R s m args below meth cd Qf D tA ρ A nL c') : Gg p l e R s m args below meth cd Qf D tA ρ A nL c := by
  have key : ∀ (t ci k f : Int) (pc : Nat) (lv : Lv) (v : Value) (pl : Nat) (st : List Value) (M M' : Mm), ex = [t, ci, k, f] → c = (pc, lv, v :: .ref pl :: st, M) → c' = (pc + 3, lv, st, M') → shp pl = (0, ci.toNat) →
      (∀ q, kdOk t q f → fval ρ M' pl k.toNat q = tv ρ v) → (∀ (i : Nat) (z : Nat × Nat), i ≠ k.toNat → fval ρ M' pl i z = fval ρ M pl i z) → (∀ i, i ≠ pl → M'.1 i = M.1 i ∧ M'.2.1 i = M.2.1 i ∧ M'.2.2 i = M.2.2 i) →
      (∀ ty, (t = 0 → ty = FieldType.int) → (t = 6 → ty = .boolean) → (t = 1 → ty = .long) → (t = 2 → ty = .object "IceManners$Kind") → narrow ty (tv ρ v) = tv ρ v ∧ fits ty (tv ρ v) = true) → Gg p l e R s m args below meth cd Qf D tA ρ A nL c := by
    intro t ci k f pc lv v pl st M M' he hc hc' hsh hv hoff hM hty
    subst hc; subst hc'
    obtain ⟨C, q, ty, hC, hkN, hkq, hkd, hlk, htys, hnm, hfin, y1, y2, y3, y4⟩ := hR t ci k f he
    obtain ⟨C, T, N⟩ := C
    obtain ⟨n1, n2⟩ := hty _ y1 y2 y3 y4
    intro H locs ls hP hS hl
    have hlen : k.toNat < (fvs ρ M pl ci.toNat).length := by
      unfold fvs
      simp
      exact (List.getElem?_eq_some_iff.mp hkq).1
    refine va_put (v := tv ρ v) hx hb hts (hin ci.toNat _ hC) ty htys hnm hown hK hP (hD M) hS pl (wl_get hsh (by decide)) hC k.toNat hkN hlk (fun _ h9 => h9) hfin (htys _ hkN) n1 n2 hlen hd (fun H1 locs1 hP1 _ hS1 => ?_)
    refine kk H1 locs1 ls ?_ hS1 hl
    rw [wl_set (M := M) (M' := M') hsh (by decide) hM]
    have e9 : ce ρ tA M' pl (0, ci.toNat) = .inr (ci.toNat, (fvs ρ M pl ci.toNat).set k.toNat (tv ρ v)) := by
      show Sum.inr (ci.toNat, fvs ρ M' pl ci.toNat) = _
      rw [fvs_set hkq (hv q hkd) hoff]
    rw [e9]
    exact hP1
  unfold o_put at h
  split at h
  · rename_i ci k f pc lv v pl st M
    cases h
    refine key 0 ci k f pc lv (.int v) pl st M _ rfl rfl rfl ho (fun q hq => ?_) (fun i z => fvI_off i z) (fun i hi => mI_off M pl _ i hi) (fun ty h0 _ _ _ => by rw [h0 rfl]; exact ⟨rfl, rfl⟩)
    have hq : q.1 = 0 ∨ q.1 = 6 := hq
    rcases hq with h9 | h9 <;> (unfold fval; rw [h9]; simp [mI, va_up, upd, tv])
  · rename_i ci k f pc lv v pl st M
    cases h
    have h01 : is01 v := ho.2
    refine key 6 ci k f pc lv (.int v) pl st M _ rfl rfl rfl ho.1 (fun q hq => ?_) (fun i z => fvI_off i z) (fun i hi => mI_off M pl _ i hi) (fun ty _ h0 _ _ => by rw [h0 rfl]; rcases h01 with h | h <;> (rw [h]; exact ⟨rfl, rfl⟩))
    have hq : q.1 = 6 := hq
    unfold fval; rw [hq]; simp [mI, va_up, upd, tv]
  · rename_i ci k f pc lv v pl st M
    cases h
    refine key 1 ci k f pc lv (.long v) pl st M _ rfl rfl rfl ho (fun q hq => ?_) (fun i z => fvJ_off i z) (fun i hi => mJ_off M pl _ i hi) (fun ty _ _ h0 _ => by rw [h0 rfl]; exact ⟨rfl, rfl⟩)
    have hq : q.1 = 1 := hq
    unfold fval; rw [hq]; simp [mJ, va_up, vp_updL, tv]
  · rename_i ci k f pc lv v pl st M
    cases h
    refine key 2 ci k f pc lv (.ref v) pl st M _ rfl rfl rfl ho.1 (fun q hq => ?_) (fun i z => fvR_off i z) (fun i hi => mR_off M pl _ i hi) (fun ty _ _ _ h0 => by rw [h0 rfl]; exact ⟨rfl, rfl⟩)
    have hq : q.1 = 2 := hq
    unfold fval; rw [hq]; simp [mR, va_up, tv]
  · cases h
end SNM
