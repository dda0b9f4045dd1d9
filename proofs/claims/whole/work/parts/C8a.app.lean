/-! Calls with the cells at a world's end. -/
theorem rng_mapA (wr wc : va_W) : (List.range wr.length).map (fun i => (wr ++ wc)[i]?) = wr.map some := by
  apply List.ext_getElem?
  intro i
  rw [List.getElem?_map, List.getElem?_map]
  by_cases hi : i < wr.length
  · rw [List.getElem?_range hi, Option.map_some, List.getElem?_append_left hi, List.getElem?_eq_getElem hi]; rfl
  · rw [List.getElem?_eq_none (by rw [List.length_range]; omega), List.getElem?_eq_none (by omega)]; rfl
theorem rng_mapB (wr wc : va_W) : (List.range' wr.length wc.length).map (fun i => (wr ++ wc)[i]?) = wc.map some := by
  apply List.ext_getElem?
  intro i
  rw [List.getElem?_map, List.getElem?_map]
  by_cases hi : i < wc.length
  · rw [List.getElem?_range' hi, Option.map_some, Nat.one_mul, List.getElem?_append_right (Nat.le_add_right _ _), Nat.add_sub_cancel_left, List.getElem?_eq_getElem hi]; rfl
  · rw [List.getElem?_eq_none (by rw [List.length_range']; omega), List.getElem?_eq_none (by omega)]; rfl
theorem rng_ndB (a n : Nat) : va_nd (List.range' a n) = true := rng_ndl _ List.nodup_range'
theorem va_P.lft {D : va_G} {cl : List vw_C} {w1 w2 : va_W} {H : Heap} (h : va_P D cl (w1 ++ w2) H) : va_P D cl w1 H := fun k q hq => h k q (by rw [List.getElem?_append_left (List.getElem?_eq_some_iff.mp hq).1]; exact hq)
theorem va_P.rgt {D : va_G} {cl : List vw_C} {w1 w2 : va_W} {H : Heap} (h : va_P D cl (w1 ++ w2) H) : va_P D cl w2 H := fun k q hq => h (w1.length + k) q (by rw [List.getElem?_append_right (Nat.le_add_right _ _), Nat.add_sub_cancel_left]; exact hq)
theorem va_D.lft {A : Nat → Prop} {w1 w2 : va_W} (h : va_D A (w1 ++ w2)) : va_D A w1 := ⟨fun i j x y hx hy e => h.1 i j x y (by rw [List.getElem?_append_left (List.getElem?_eq_some_iff.mp hx).1]; exact hx) (by rw [List.getElem?_append_left (List.getElem?_eq_some_iff.mp hy).1]; exact hy) e, fun k q hq => h.2 k q (by rw [List.getElem?_append_left (List.getElem?_eq_some_iff.mp hq).1]; exact hq)⟩
theorem va_D.aprt {A : Nat → Prop} {w1 w2 : va_W} (h : va_D A (w1 ++ w2)) {i j : Nat} {x y : Nat × va_E} (hx : w1[i]? = some x) (hy : w2[j]? = some y) : x.1 ≠ y.1 := fun e => by
  have hl := (List.getElem?_eq_some_iff.mp hx).1
  have h1 := h.1 i (w1.length + j) x y (by rw [List.getElem?_append_left hl]; exact hx) (by rw [List.getElem?_append_right (Nat.le_add_right _ _), Nat.add_sub_cancel_left]; exact hy) e
  omega
/-- behind a call of the small machine the cells beside its world are as they were -/
theorem wl_beside {D : va_G} {ρ : Nat → Nat} {tA : Nat → ClassId} {M M' : Mm} {A : Nat → Prop} {w : va_W} {H H1 : Heap} (hP : va_P D clx (wl ρ tA M ++ w) H) (hD : va_D A (wl ρ tA M ++ w)) (hk : Kp ρ H H1) (hP1 : va_P D cls (wl ρ tA M') H1) : va_P D clx (wl ρ tA M' ++ w) H1 := by
  refine va_P.app hP1.up (hk.P hP.rgt (fun k q hq p hp => ?_))
  cases hs : shl[p]? with
  | none => rw [List.getElem?_eq_none_iff] at hs; omega
  | some z =>
    have h1 : (wl ρ tA M)[p]? = some (ρ p, ce ρ tA M p z) := by rw [wl_get?, hs]; rfl
    exact hD.aprt h1 hq
theorem wl_addrA (ρ : Nat → Nat) (tA : Nat → ClassId) (M M' : Mm) (A : Nat → Prop) {w : va_W} (h : va_D A (wl ρ tA M ++ w)) : va_D A (wl ρ tA M' ++ w) := by
  refine va_D_addr (fun k => ?_) h
  by_cases hk : k < shl.length
  · rw [List.getElem?_append_left (by rw [wl_len]; exact hk), List.getElem?_append_left (by rw [wl_len]; exact hk), wl_get?, wl_get?]
    cases shl[k]? <;> rfl
  · rw [List.getElem?_append_right (by rw [wl_len]; omega), List.getElem?_append_right (by rw [wl_len]; omega), wl_len, wl_len]
section KFA
variable {κ : Nat → Nat} {own : String} {cc : ByteArray} {nL : Nat} {p : Program} {l : Launch} {e : Env} {R : Room} {s : State} {m : MethodId} {args : Array Value} {below : List Frame} {meth : Method} {c : Code} {D : va_G} {tA : Nat → ClassId} {A : Nat → Prop} {H : Heap} {locs : List Loc} {cells slots mc ms : Nat} {Qf : State → Prop} {ls : Array Slot} {pc : Nat} {st rest : List Value} {wc wr : va_W} {Q : Option Value → va_W → Prop}
theorem k_callVA {y : MethodName} {cc' : ByteArray} {nL' d n ix n1 n2 n3 n4 n5 b : Nat} {ret : Option FieldType} {As : List Value} (C0 : Kf κ own cc nL p s m args c D tA A) (hM : Ct l κ D tA y cc' nL' ret d mc ms (.ref b :: As) wc Q) (hB : kvB own ix y cc' nL' ret n n1 n2 n3 n4 n5 = true) (hrecv : ∃ cellB : Cell, H[b]? = some cellB ∧ cellB.vm.isStatics = false ∧ s.vm.findClass y.cls = some cellB.cls)
    (hP : va_P D clx (wr ++ wc) H) (hD : va_D A (wr ++ wc)) (hS : va_S A s.heap H locs)
    (hl : ls.size = nL) (hlen : As.length = n) (hcat : (rest.map (fun v => v.category)).sum ≤ 8) (hro : d + 1 ≤ R.frames ∧ 200 * (d + 1) ≤ R.locals) (hcs : cells + mc ≤ R.cells ∧ slots + ms ≤ R.slots) (hdec : decode cc pc = .ok (.invokevirtual ix, 3)) (hstk : st = As.reverse ++ .ref b :: rest)
    (k : ∀ (r : Option Value) (w1 : va_W) (H1 : Heap) (locs1 : List Loc), Q r w1 → va_P D clx (wr ++ w1) H1 → va_D A (wr ++ w1) → va_S A s.heap H1 locs1 → W p l e R s m args below meth c H1 locs1 (cells + mc) (slots + ms) Qf (F0 m (pc + 3) ls (r.toList ++ rest))) :
    W p l e R s m args below meth c H locs cells slots Qf (F0 m pc ls st) :=
  k_callV C0 hM hB hrecv hP hD hS (List.range' wr.length wc.length) (List.range wr.length) (rng_mapB wr wc) (rng_mapA wr wc) (rng_ndB _ _) (rng_nd _) (fun i hi => by rw [List.mem_range] at hi; rw [List.mem_range'_1]; omega) hl hlen hcat hro hcs hdec hstk k
end KFA
