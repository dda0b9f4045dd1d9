/-! Calls out of frames that are walked with the given rows. -/
theorem fm_map {β : Type} {f : Nat → Option β} : ∀ (is : List Nat) (w : List β), is.map f = w.map some → is.filterMap f = w
  | [], [], _ => rfl
  | [], _ :: _, h => by cases h
  | _ :: _, [], h => by cases h
  | i :: t, b :: w, h => by
    have h1 : f i = some b := (List.cons.inj h).1
    rw [List.filterMap_cons_some h1, fm_map t w (List.cons.inj h).2]
theorem sel_priv {C : String} {x y : MethodName} {s : State} {args : Array Value} (hy : y.cls ≠ "java/lang/invoke/MethodHandle" ∧ y.cls ≠ "java/lang/invoke/VarHandle") (hxy : x.cls = y.cls)
    (hx : (Cond.selects C x x).before args s = true) (hix : (Cond.instanceMethod x).before args s = true) (hpriv : (Cond.privateMethod y).before args s = true) (hinst : (Cond.instanceMethod y).before args s = true) : (Cond.selects C y y).before args s = true := by
  obtain ⟨mx, methX, hnx, -, -, -⟩ := Cond.instanceMethod_spec hix
  obtain ⟨mk, methM, hnamed, hmethM, -, -⟩ := Cond.instanceMethod_spec hinst
  have hfound : s.methodFound? y.cls y.name y.desc = some mk := State.methodFound?_of_named hnamed hy
  have hfx : s.methodFound? x.cls x.name x.desc = some mx := State.methodFound?_of_named hnx (by rw [hxy]; exact hy)
  have hcc : mx.cls = mk.cls := Option.some.inj ((findClass_of_methodNamed hnx).symm.trans ((by rw [hxy]) : s.vm.findClass x.cls = s.vm.findClass y.cls) |>.trans (findClass_of_methodNamed hnamed))
  cases hc : s.vm.findClass C with
  | none => simp [Cond.before, Cond.holds, Cond.value, hc] at hx
  | some c =>
    have hsel : selectMethod {} s.vm c mk = .method mk := selectMethod_private hmethM (Cond.privateMethod_at hpriv mk methM hnamed hmethM)
    simp only [Cond.before, Cond.holds, Cond.value, hc, hfx, hnx] at hx
    simp only [Cond.before, Cond.holds, Cond.value, hc, hfound, hnamed, hsel]
    rw [hcc] at hx
    simp at hx ⊢
    split at hx
    · simp only [Bool.and_eq_true] at hx
      exact hx.2
    · cases hx
theorem rng_ndl : ∀ (l : List Nat), l.Nodup → va_nd l = true
  | [], _ => rfl
  | a :: l, h => by
    have h1 := List.nodup_cons.mp h
    simp only [va_nd, Bool.and_eq_true, decide_eq_true_eq]
    exact ⟨h1.1, rng_ndl l h1.2⟩
theorem rng_nd (n : Nat) : va_nd (List.range n) = true := rng_ndl _ List.nodup_range
theorem rng_map (wr : va_W) (x : Nat × va_E) : (List.range wr.length).map (fun i => (wr ++ [x])[i]?) = wr.map some := by
  apply List.ext_getElem?
  intro i
  rw [List.getElem?_map, List.getElem?_map]
  by_cases hi : i < wr.length
  · rw [List.getElem?_range hi, Option.map_some, List.getElem?_append_left hi, List.getElem?_eq_getElem hi]; rfl
  · rw [List.getElem?_eq_none (by rw [List.length_range]; omega), List.getElem?_eq_none (by omega)]; rfl
def notMH (y : MethodName) : Bool := decide (y.cls ≠ "java/lang/invoke/MethodHandle") && decide (y.cls ≠ "java/lang/invoke/VarHandle")
def dlB (y : MethodName) (n : Nat) : Bool := decide ((parseMethodDescriptor y.desc).map (fun d => d.parameters.length) = some n)
/-- a call of an instance method of the receiver's own class: link, instance, selects, class, code -/
def kvB (own : String) (ix : Nat) (y : MethodName) (cc : ByteArray) (nL : Nat) (ret : Option FieldType) (n n1 n2 n3 n4 n5 : Nat) : Bool := lkB n1 (.methodLink own ix y) && lkB n2 (.instanceMethod y) && lkB n3 (.selects y.cls y y) && lkB n4 (.initialized y.cls) && lkB n5 (.code y cc nL ret) && notMH y && dlB y n && decide (nL ≤ 100)
def ksB (own : String) (ix : Nat) (y : MethodName) (cc : ByteArray) (nL : Nat) (ret : Option FieldType) (n n1 n2 n4 n5 : Nat) : Bool := lkB n1 (.methodLink own ix y) && lkB n2 (.static y) && lkB n4 (.initialized y.cls) && lkB n5 (.code y cc nL ret) && notMH y && dlB y n && decide (nL ≤ 100)
def kiB (own : String) (ix : Nat) (y : MethodName) (cc : ByteArray) (nL : Nat) (n n1 n2 n4 n5 : Nat) : Bool := lkB n1 (.methodLink own ix y) && lkB n2 (.instanceMethod y) && lkB n4 (.initialized y.cls) && lkB n5 (.code y cc nL none) && decide (y.name = "<init>") && notMH y && dlB y n && decide (nL ≤ 100)
def kuB (own : String) (ix : Nat) (y : MethodName) (cc : ByteArray) (nL : Nat) (ret : Option FieldType) (n n1 n2 n3 n4 n5 : Nat) : Bool := lkB n1 (.methodLink own ix y) && lkB n2 (.instanceMethod y) && lkB n3 (.sameMethod y.cls y.cls y.name y.desc) && lkB n4 (.initialized y.cls) && lkB n5 (.code y cc nL ret) && notMH y && dlB y n && decide (nL ≤ 100)
def kpB (own : String) (ix : Nat) (y : MethodName) (cc : ByteArray) (nL : Nat) (ret : Option FieldType) (n n1 n2 n3 n4 n5 : Nat) : Bool := lkB n1 (.methodLink own ix y) && lkB n2 (.instanceMethod y) && lkB n3 (.sameMethod y.cls y.cls y.name y.desc) && lkB n4 (.initialized y.cls) && lkB n5 (.code y cc nL ret) && notMH y && dlB y n && decide (nL ≤ 100)
section KFC
variable {κ : Nat → Nat} {own : String} {cc : ByteArray} {nL : Nat} {p : Program} {l : Launch} {e : Env} {R : Room} {s : State} {m : MethodId} {args : Array Value} {below : List Frame} {meth : Method} {c : Code} {D : va_G} {tA : Nat → ClassId} {A : Nat → Prop} {H : Heap} {locs : List Loc} {cells slots mc ms : Nat} {Qf : State → Prop} {ls : Array Slot} {pc : Nat} {st rest : List Value} {ws wc wr : va_W} {Q : Option Value → va_W → Prop}
theorem k_on {a : Array Value} {st0 : List Value} (C0 : Kf κ own cc nL p s m args c D tA A) (hP : va_P D clx ws H) (hD : va_D A ws) (hS : va_S A s.heap H locs) (isC isR : List Nat) (hC : isC.map (fun i => ws[i]?) = wc.map some) (hR : isR.map (fun i => ws[i]?) = wr.map some) (hn : va_nd isR = true) (hdis : ∀ i ∈ isR, i ∉ isC)
    (hr : va_Run p l e R s m args below meth c H locs cells slots mc ms (F0 m pc ls st0) rest (Qk D Q (va_A wc H.size) a) (va_A wc H.size))
    (k : ∀ (r : Option Value) (w1 : va_W) (H1 : Heap) (locs1 : List Loc), Q r w1 → va_P D clx (wr ++ w1) H1 → va_D A (wr ++ w1) → va_S A s.heap H1 locs1 → W p l e R s m args below meth c H1 locs1 (cells + mc) (slots + ms) Qf (F0 m (pc + 3) ls (r.toList ++ rest))) :
    W p l e R s m args below meth c H locs cells slots Qf (F0 m pc ls st0) := by
  obtain ⟨hx, hb, hml, hown, hts, hK, hA, hI⟩ := C0
  have hF := va_free hD hS hA isC hC
  intro T hT X
  obtain ⟨v, st₀, t, T', L, h0, X', hL, e1, e2, ⟨⟨r, w1, hv, hQ, hP1, hD1⟩, hz, hk⟩, step⟩ := hr T hT X
  cases hv
  rw [h0] at hz hk
  obtain ⟨hP2, hD2⟩ := va_join (H1 := T'.heap) hP hD isC isR hC hR hn hdis (fun q h1 h2 => by rw [e1]; exact hk q h1 h2) hF (by rw [e1]; exact hP1) hD1
  have hS2 : va_S A s.heap T'.heap (locs ++ L) := by
    refine ⟨Nat.le_trans hS.1 (by rw [e1]; exact hz), fun q h1 h2 => ?_, fun q hq => ?_⟩
    · rw [e1, hk q (Nat.lt_of_lt_of_le h1 hS.1) (fun z => h2 (hF q z))]
      exact hS.2.1 q h1 h2
    · rcases List.mem_append.mp hq with h | h
      · exact hS.2.2 q h
      · exact hF _ (hL q h)
  obtain ⟨t2, a1, b1⟩ := k _ w1 T'.heap (locs ++ L) hQ hP2 hD2 hS2 T' rfl X'
  exact ⟨t2, step t2 a1, b1⟩
theorem k_pre {Av : List Value} (C0 : Kf κ own cc nL p s m args c D tA A) (hP : va_P D clx ws H) (hD : va_D A ws) (hS : va_S A s.heap H locs) (isC : List Nat) (hC : isC.map (fun i => ws[i]?) = wc.map some) (hn : va_nd isC = true) (U : State) (hU : U.heap = H) (hW : s.WarmedH U.vm) : Pk κ D tA wc H.size Av Av.toArray U := by
  obtain ⟨hx, hb, hml, hown, hts, hK, hA, hI⟩ := C0
  have hF := va_free hD hS hA isC hC
  refine ⟨rfl, by rw [hU], by rw [hU]; exact hP.sub isC (fm_map isC wc hC), va_K.moved hW.alike hK, (hD.sub isC hn hC).weaken (fun _ _ _ _ => trivial), ?_⟩
  rw [hU]
  exact ((hI.kept hS.2.1).warm hW).narrow hF
theorem k_callV {y : MethodName} {cc' : ByteArray} {nL' d n ix n1 n2 n3 n4 n5 b : Nat} {ret : Option FieldType} {As : List Value} (C0 : Kf κ own cc nL p s m args c D tA A) (hM : Ct l κ D tA y cc' nL' ret d mc ms (.ref b :: As) wc Q) (hB : kvB own ix y cc' nL' ret n n1 n2 n3 n4 n5 = true) (hrecv : ∃ cellB : Cell, H[b]? = some cellB ∧ cellB.vm.isStatics = false ∧ s.vm.findClass y.cls = some cellB.cls)
    (hP : va_P D clx ws H) (hD : va_D A ws) (hS : va_S A s.heap H locs) (isC isR : List Nat) (hC : isC.map (fun i => ws[i]?) = wc.map some) (hR : isR.map (fun i => ws[i]?) = wr.map some) (hn : va_nd isC = true) (hn2 : va_nd isR = true) (hdis : ∀ i ∈ isR, i ∉ isC)
    (hl : ls.size = nL) (hlen : As.length = n) (hcat : (rest.map (fun v => v.category)).sum ≤ 8) (hro : d + 1 ≤ R.frames ∧ 200 * (d + 1) ≤ R.locals) (hcs : cells + mc ≤ R.cells ∧ slots + ms ≤ R.slots) (hdec : decode cc pc = .ok (.invokevirtual ix, 3)) (hstk : st = As.reverse ++ .ref b :: rest)
    (k : ∀ (r : Option Value) (w1 : va_W) (H1 : Heap) (locs1 : List Loc), Q r w1 → va_P D clx (wr ++ w1) H1 → va_D A (wr ++ w1) → va_S A s.heap H1 locs1 → W p l e R s m args below meth c H1 locs1 (cells + mc) (slots + ms) Qf (F0 m (pc + 3) ls (r.toList ++ rest))) :
    W p l e R s m args below meth c H locs cells slots Qf (F0 m pc ls st) := by
  have C1 := C0
  obtain ⟨hx, hb, hml, hown, hts, hK, hA, hI⟩ := C0
  simp only [kvB, notMH, dlB, Bool.and_eq_true, decide_eq_true_eq] at hB
  obtain ⟨⟨⟨⟨⟨⟨⟨b1, b2⟩, b3⟩, b4⟩, b5⟩, b6⟩, b7⟩, b8⟩ := hB
  refine k_on C1 hP hD hS isC isR hC hR hn2 hdis (va_runV (n := n) (bytes := cc') (maxL := nL') (ret := ret) (C := y.cls) (b := b) (As := As) (rest := rest) ⟨hx, hb, hml, hown, hts⟩ (hM H.size)
    (cwV n hts (Tg_GoodIn (fun w h9 => by
      unfold wsV at h9
      rcases List.mem_append.mp h9 with h9 | h9
      · simp only [List.mem_cons, List.not_mem_nil, or_false] at h9
        rcases h9 with rfl | rfl | rfl | rfl
        · exact lkB_in b1
        · exact lkB_in b2
        · exact lkB_in b3
        · exact lkB_in b4
      · rcases List.mem_cons.mp h9 with rfl | h9
        · exact lkB_in b5
        · exact h9)) rfl rfl rfl ⟨rfl, b6.1, b6.2, b7⟩ ⟨hro.1, by show 8 + (nL' + 11) + 200 * d ≤ R.locals; omega⟩) ⟨Pk_blind, hrecv, fun U hU hW => k_pre (Av := .ref b :: As) C1 hP hD hS isC hC hn U hU hW⟩ rfl hlen hl hstk (by show 2 * 0 + _ ≤ 8; omega) hdec hcs) k
theorem k_callS {y : MethodName} {cc' : ByteArray} {nL' d n ix n1 n2 n4 n5 : Nat} {ret : Option FieldType} {As : List Value} (C0 : Kf κ own cc nL p s m args c D tA A) (hM : Ct l κ D tA y cc' nL' ret d mc ms As wc Q) (hB : ksB own ix y cc' nL' ret n n1 n2 n4 n5 = true)
    (hP : va_P D clx ws H) (hD : va_D A ws) (hS : va_S A s.heap H locs) (isC isR : List Nat) (hC : isC.map (fun i => ws[i]?) = wc.map some) (hR : isR.map (fun i => ws[i]?) = wr.map some) (hn : va_nd isC = true) (hn2 : va_nd isR = true) (hdis : ∀ i ∈ isR, i ∉ isC)
    (hl : ls.size = nL) (hlen : As.length = n) (hcat : (rest.map (fun v => v.category)).sum ≤ 8) (hro : d + 1 ≤ R.frames ∧ 200 * (d + 1) ≤ R.locals) (hcs : cells + mc ≤ R.cells ∧ slots + ms ≤ R.slots) (hdec : decode cc pc = .ok (.invokestatic ix, 3)) (hstk : st = As.reverse ++ rest)
    (k : ∀ (r : Option Value) (w1 : va_W) (H1 : Heap) (locs1 : List Loc), Q r w1 → va_P D clx (wr ++ w1) H1 → va_D A (wr ++ w1) → va_S A s.heap H1 locs1 → W p l e R s m args below meth c H1 locs1 (cells + mc) (slots + ms) Qf (F0 m (pc + 3) ls (r.toList ++ rest))) :
    W p l e R s m args below meth c H locs cells slots Qf (F0 m pc ls st) := by
  have C1 := C0
  obtain ⟨hx, hb, hml, hown, hts, hK, hA, hI⟩ := C0
  simp only [ksB, notMH, dlB, Bool.and_eq_true, decide_eq_true_eq] at hB
  obtain ⟨⟨⟨⟨⟨⟨b1, b2⟩, b4⟩, b5⟩, b6⟩, b7⟩, b8⟩ := hB
  refine k_on C1 hP hD hS isC isR hC hR hn2 hdis (va_runS (n := n) (bytes := cc') (maxL := nL') (ret := ret) (As := As) (rest := rest) ⟨hx, hb, hml, hown, hts⟩ (hM H.size)
    (va_cwS n hts (Tg_GoodIn (fun w h9 => by
      unfold va_wsS at h9
      rcases List.mem_append.mp h9 with h9 | h9
      · simp only [List.mem_cons, List.not_mem_nil, or_false] at h9
        rcases h9 with rfl | rfl | rfl
        · exact lkB_in b1
        · exact lkB_in b2
        · exact lkB_in b4
      · rcases List.mem_cons.mp h9 with rfl | h9
        · exact lkB_in b5
        · exact h9)) rfl rfl rfl ⟨b6.1, b6.2, b7⟩ ⟨hro.1, by show 8 + (nL' + 11) + 200 * d ≤ R.locals; omega⟩) ⟨Pk_blind, fun U hU hW => k_pre (Av := As) C1 hP hD hS isC hC hn U hU hW⟩ rfl hlen hl hstk (by show 2 * 0 + _ ≤ 8; omega) hdec hcs) k
theorem k_callI {y : MethodName} {cc' : ByteArray} {nL' d n ix n1 n2 n4 n5 b : Nat} {As : List Value} (C0 : Kf κ own cc nL p s m args c D tA A) (hM : Ct l κ D tA y cc' nL' none d mc ms (.ref b :: As) wc Q) (hB : kiB own ix y cc' nL' n n1 n2 n4 n5 = true)
    (hP : va_P D clx ws H) (hD : va_D A ws) (hS : va_S A s.heap H locs) (isC isR : List Nat) (hC : isC.map (fun i => ws[i]?) = wc.map some) (hR : isR.map (fun i => ws[i]?) = wr.map some) (hn : va_nd isC = true) (hn2 : va_nd isR = true) (hdis : ∀ i ∈ isR, i ∉ isC)
    (hl : ls.size = nL) (hlen : As.length = n) (hcat : (rest.map (fun v => v.category)).sum ≤ 8) (hro : d + 1 ≤ R.frames ∧ 200 * (d + 1) ≤ R.locals) (hcs : cells + mc ≤ R.cells ∧ slots + ms ≤ R.slots) (hdec : decode cc pc = .ok (.invokespecial ix, 3)) (hstk : st = As.reverse ++ .ref b :: rest)
    (k : ∀ (r : Option Value) (w1 : va_W) (H1 : Heap) (locs1 : List Loc), Q r w1 → va_P D clx (wr ++ w1) H1 → va_D A (wr ++ w1) → va_S A s.heap H1 locs1 → W p l e R s m args below meth c H1 locs1 (cells + mc) (slots + ms) Qf (F0 m (pc + 3) ls (r.toList ++ rest))) :
    W p l e R s m args below meth c H locs cells slots Qf (F0 m pc ls st) := by
  have C1 := C0
  obtain ⟨hx, hb, hml, hown, hts, hK, hA, hI⟩ := C0
  simp only [kiB, notMH, dlB, Bool.and_eq_true, decide_eq_true_eq] at hB
  obtain ⟨⟨⟨⟨⟨⟨⟨b1, b2⟩, b4⟩, b5⟩, b9⟩, b6⟩, b7⟩, b8⟩ := hB
  refine k_on C1 hP hD hS isC isR hC hR hn2 hdis (va_runI (n := n) (bytes := cc') (maxL := nL') (b := b) (As := As) (rest := rest) ⟨hx, hb, hml, hown, hts⟩ (hM H.size)
    (cwI n hts (Tg_GoodIn (fun w h9 => by
      rcases List.mem_cons.mp h9 with rfl | h9
      · exact lkB_in b5
      · exact h9)) rfl rfl rfl (hts _ (lkB_in b4)) (hts _ (lkB_in b1)) (hts _ (lkB_in b2)) b9 ⟨b6.1, b6.2, b7⟩ ⟨hro.1, by show 8 + (nL' + 11) + 200 * d ≤ R.locals; omega⟩) ⟨Pk_blind, fun U hU hW => k_pre (Av := .ref b :: As) C1 hP hD hS isC hC hn U hU hW⟩ rfl hlen hl hstk (by show 2 * 0 + _ ≤ 8; omega) hdec hcs) k
/-- a constructor of the nest -/
theorem k_callN {y : MethodName} {cc' : ByteArray} {nL' d n ix n2 n4 n5 b : Nat} {As : List Value} (C0 : Kf κ "IceManners" cc nL p s m args c D tA A) (hM : Ct l κ D tA y cc' nL' none d mc ms (.ref b :: As) wc Q) (hB : (lkB n2 (.instanceMethod y) && lkB n4 (.initialized y.cls) && lkB n5 (.code y cc' nL' none) && decide (y.name = "<init>") && notMH y && dlB y n && decide (nL' ≤ 100)) = true) (hin : (ix, y) ∈ nsL)
    (hP : va_P D clx ws H) (hD : va_D A ws) (hS : va_S A s.heap H locs) (isC isR : List Nat) (hC : isC.map (fun i => ws[i]?) = wc.map some) (hR : isR.map (fun i => ws[i]?) = wr.map some) (hn : va_nd isC = true) (hn2 : va_nd isR = true) (hdis : ∀ i ∈ isR, i ∉ isC)
    (hl : ls.size = nL) (hlen : As.length = n) (hcat : (rest.map (fun v => v.category)).sum ≤ 8) (hro : d + 1 ≤ R.frames ∧ 200 * (d + 1) ≤ R.locals) (hcs : cells + mc ≤ R.cells ∧ slots + ms ≤ R.slots) (hdec : decode cc pc = .ok (.invokespecial ix, 3)) (hstk : st = As.reverse ++ .ref b :: rest)
    (k : ∀ (r : Option Value) (w1 : va_W) (H1 : Heap) (locs1 : List Loc), Q r w1 → va_P D clx (wr ++ w1) H1 → va_D A (wr ++ w1) → va_S A s.heap H1 locs1 → W p l e R s m args below meth c H1 locs1 (cells + mc) (slots + ms) Qf (F0 m (pc + 3) ls (r.toList ++ rest))) :
    W p l e R s m args below meth c H locs cells slots Qf (F0 m pc ls st) := by
  have C1 := C0
  obtain ⟨hx, hb, hml, hown, hts, hK, hA, hI⟩ := C0
  simp only [notMH, dlB, Bool.and_eq_true, decide_eq_true_eq] at hB
  obtain ⟨⟨⟨⟨⟨⟨b2, b4⟩, b5⟩, b9⟩, b6⟩, b7⟩, b8⟩ := hB
  refine k_on C1 hP hD hS isC isR hC hR hn2 hdis (va_runIN (n := n) (bytes := cc') (maxL := nL') (host := "IceManners") (b := b) (As := As) (rest := rest) ⟨hx, hb, hml, hown, hts⟩ (hM H.size)
    ⟨va_cnB n hts (Tg_GoodIn (fun w h9 => by
      rcases List.mem_cons.mp h9 with rfl | h9
      · exact lkB_in b5
      · exact h9)) rfl rfl rfl (hI.2.2.2.2.2.2.2.1 _ hin) (hts _ (lkB_in b4)) ⟨b6.1, b6.2, b7⟩ ⟨hro.1, by show 8 + (nL' + 11) + 200 * d ≤ R.locals; omega⟩, b9, hts _ (lkB_in b2)⟩ ⟨Pk_blind, fun U hU hW => k_pre (Av := .ref b :: As) C1 hP hD hS isC hC hn U hU hW⟩ rfl hlen hl hstk (by show 2 * 0 + _ ≤ 8; omega) hdec hcs) k
theorem k_callIL {y : MethodName} {cc' : ByteArray} {nL' d n ix n1 n2 n4 n5 b : Nat} {As : List Value} {x : Nat × va_E} (C0 : Kf κ own cc nL p s m args c D tA A) (hM : Ct l κ D tA y cc' nL' none d mc ms (.ref b :: As) [x] Q) (hB : kiB own ix y cc' nL' n n1 n2 n4 n5 = true)
    (hP : va_P D clx (wr ++ [x]) H) (hD : va_D A (wr ++ [x])) (hS : va_S A s.heap H locs)
    (hl : ls.size = nL) (hlen : As.length = n) (hcat : (rest.map (fun v => v.category)).sum ≤ 8) (hro : d + 1 ≤ R.frames ∧ 200 * (d + 1) ≤ R.locals) (hcs : cells + mc ≤ R.cells ∧ slots + ms ≤ R.slots) (hdec : decode cc pc = .ok (.invokespecial ix, 3)) (hstk : st = As.reverse ++ .ref b :: rest)
    (k : ∀ (r : Option Value) (w1 : va_W) (H1 : Heap) (locs1 : List Loc), Q r w1 → va_P D clx (wr ++ w1) H1 → va_D A (wr ++ w1) → va_S A s.heap H1 locs1 → W p l e R s m args below meth c H1 locs1 (cells + mc) (slots + ms) Qf (F0 m (pc + 3) ls (r.toList ++ rest))) :
    W p l e R s m args below meth c H locs cells slots Qf (F0 m pc ls st) :=
  k_callI C0 hM hB hP hD hS [wr.length] (List.range wr.length) (by simp) (rng_map wr x) rfl (rng_nd _) (fun i hi => by simp at hi ⊢; omega) hl hlen hcat hro hcs hdec hstk k
theorem k_callNL {y : MethodName} {cc' : ByteArray} {nL' d n ix n2 n4 n5 b : Nat} {As : List Value} {x : Nat × va_E} (C0 : Kf κ "IceManners" cc nL p s m args c D tA A) (hM : Ct l κ D tA y cc' nL' none d mc ms (.ref b :: As) [x] Q) (hB : (lkB n2 (.instanceMethod y) && lkB n4 (.initialized y.cls) && lkB n5 (.code y cc' nL' none) && decide (y.name = "<init>") && notMH y && dlB y n && decide (nL' ≤ 100)) = true) (hin : (ix, y) ∈ nsL)
    (hP : va_P D clx (wr ++ [x]) H) (hD : va_D A (wr ++ [x])) (hS : va_S A s.heap H locs)
    (hl : ls.size = nL) (hlen : As.length = n) (hcat : (rest.map (fun v => v.category)).sum ≤ 8) (hro : d + 1 ≤ R.frames ∧ 200 * (d + 1) ≤ R.locals) (hcs : cells + mc ≤ R.cells ∧ slots + ms ≤ R.slots) (hdec : decode cc pc = .ok (.invokespecial ix, 3)) (hstk : st = As.reverse ++ .ref b :: rest)
    (k : ∀ (r : Option Value) (w1 : va_W) (H1 : Heap) (locs1 : List Loc), Q r w1 → va_P D clx (wr ++ w1) H1 → va_D A (wr ++ w1) → va_S A s.heap H1 locs1 → W p l e R s m args below meth c H1 locs1 (cells + mc) (slots + ms) Qf (F0 m (pc + 3) ls (r.toList ++ rest))) :
    W p l e R s m args below meth c H locs cells slots Qf (F0 m pc ls st) :=
  k_callN C0 hM hB hin hP hD hS [wr.length] (List.range wr.length) (by simp) (rng_map wr x) rfl (rng_nd _) (fun i hi => by simp at hi ⊢; omega) hl hlen hcat hro hcs hdec hstk k
/-- a method that the receiver's class inherits -/
theorem k_callU {C : String} {y : MethodName} {cc' : ByteArray} {nL' d n ix n1 n2 n3 n4 n5 b : Nat} {ret : Option FieldType} {As : List Value} (C0 : Kf κ own cc nL p s m args c D tA A) (hM : Ct l κ D tA y cc' nL' ret d mc ms (.ref b :: As) wc Q) (hB : kuB own ix y cc' nL' ret n n1 n2 n3 n4 n5 = true) (hsel : (Cond.selects C y y).before args s = true) (hrecv : ∃ cellB : Cell, H[b]? = some cellB ∧ cellB.vm.isStatics = false ∧ s.vm.findClass C = some cellB.cls)
    (hP : va_P D clx ws H) (hD : va_D A ws) (hS : va_S A s.heap H locs) (isC isR : List Nat) (hC : isC.map (fun i => ws[i]?) = wc.map some) (hR : isR.map (fun i => ws[i]?) = wr.map some) (hn : va_nd isC = true) (hn2 : va_nd isR = true) (hdis : ∀ i ∈ isR, i ∉ isC)
    (hl : ls.size = nL) (hlen : As.length = n) (hcat : (rest.map (fun v => v.category)).sum ≤ 8) (hro : d + 1 ≤ R.frames ∧ 200 * (d + 1) ≤ R.locals) (hcs : cells + mc ≤ R.cells ∧ slots + ms ≤ R.slots) (hdec : decode cc pc = .ok (.invokevirtual ix, 3)) (hstk : st = As.reverse ++ .ref b :: rest)
    (k : ∀ (r : Option Value) (w1 : va_W) (H1 : Heap) (locs1 : List Loc), Q r w1 → va_P D clx (wr ++ w1) H1 → va_D A (wr ++ w1) → va_S A s.heap H1 locs1 → W p l e R s m args below meth c H1 locs1 (cells + mc) (slots + ms) Qf (F0 m (pc + 3) ls (r.toList ++ rest))) :
    W p l e R s m args below meth c H locs cells slots Qf (F0 m pc ls st) := by
  have C1 := C0
  obtain ⟨hx, hb, hml, hown, hts, hK, hA, hI⟩ := C0
  simp only [kuB, notMH, dlB, Bool.and_eq_true, decide_eq_true_eq] at hB
  obtain ⟨⟨⟨⟨⟨⟨⟨b1, b2⟩, b3⟩, b4⟩, b5⟩, b6⟩, b7⟩, b8⟩ := hB
  have hG : GoodIn Tg (.code y cc' nL' ret :: Tg) := Tg_GoodIn (fun w h9 => by
      rcases List.mem_cons.mp h9 with rfl | h9
      · exact lkB_in b5
      · exact h9)
  have cw : va_CU R s args own C y.cls ix y y cc' nL' ret (.code y cc' nL' ret :: Tg) (rmc d mc ms) mc ms n := by
    refine ⟨⟨rfl, rfl, hro.1, by show 8 + (nL' + 11) + 200 * d ≤ R.locals; omega, pay_in hts hG, List.mem_cons_self⟩, hts _ (lkB_in b5), hts _ (lkB_in b4), b6, fun sig h => ?_, hts _ (lkB_in b1), hts _ (lkB_in b3), va_Decl.of (hts _ (lkB_in b2)) (hts _ (lkB_in b5)), hsel, hts _ (lkB_in b2)⟩
    rw [h] at b7
    exact (Option.some.inj b7).symm
  exact k_on C1 hP hD hS isC isR hC hR hn2 hdis (va_runU (n := n) (bytes := cc') (maxL := nL') (ret := ret) (C := C) (owner := y.cls) (x := y) (b := b) (As := As) (rest := rest) ⟨hx, hb, hml, hown, hts⟩ (hM H.size) cw ⟨Pk_blind, hrecv, fun U hU hW => k_pre (Av := .ref b :: As) C1 hP hD hS isC hC hn U hU hW⟩ rfl hlen hl hstk (by show 2 * 0 + _ ≤ 8; omega) hdec hcs) k
/-- super.m(..) -/
theorem k_callP {C : String} {cC : ClassId} {y : MethodName} {cc' : ByteArray} {nL' d n ix n1 n2 n3 n4 n5 n6 b : Nat} {ret : Option FieldType} {As : List Value} (C0 : Kf κ own cc nL p s m args c D tA A) (hM : Ct l κ D tA y cc' nL' ret d mc ms (.ref b :: As) wc Q) (hB : kpB own ix y cc' nL' ret n n1 n2 n3 n4 n5 = true) (hB2 : lkB n6 (.superclass own y.cls) = true) (hno : y.name ≠ "<init>") (hat : ClassAt s C cC) (hrecv : ∃ cellB : Cell, H[b]? = some cellB ∧ cellB.vm.isStatics = false ∧ s.vm.findClass C = some cellB.cls)
    (hP : va_P D clx ws H) (hD : va_D A ws) (hS : va_S A s.heap H locs) (isC isR : List Nat) (hC : isC.map (fun i => ws[i]?) = wc.map some) (hR : isR.map (fun i => ws[i]?) = wr.map some) (hn : va_nd isC = true) (hn2 : va_nd isR = true) (hdis : ∀ i ∈ isR, i ∉ isC)
    (hl : ls.size = nL) (hlen : As.length = n) (hcat : (rest.map (fun v => v.category)).sum ≤ 8) (hro : d + 1 ≤ R.frames ∧ 200 * (d + 1) ≤ R.locals) (hcs : cells + mc ≤ R.cells ∧ slots + ms ≤ R.slots) (hdec : decode cc pc = .ok (.invokespecial ix, 3)) (hstk : st = As.reverse ++ .ref b :: rest)
    (k : ∀ (r : Option Value) (w1 : va_W) (H1 : Heap) (locs1 : List Loc), Q r w1 → va_P D clx (wr ++ w1) H1 → va_D A (wr ++ w1) → va_S A s.heap H1 locs1 → W p l e R s m args below meth c H1 locs1 (cells + mc) (slots + ms) Qf (F0 m (pc + 3) ls (r.toList ++ rest))) :
    W p l e R s m args below meth c H locs cells slots Qf (F0 m pc ls st) := by
  have C1 := C0
  obtain ⟨hx, hb, hml, hown, hts, hK, hA, hI⟩ := C0
  simp only [kpB, notMH, dlB, Bool.and_eq_true, decide_eq_true_eq] at hB
  obtain ⟨⟨⟨⟨⟨⟨⟨b1, b2⟩, b3⟩, b4⟩, b5⟩, b6⟩, b7⟩, b8⟩ := hB
  refine k_on C1 hP hD hS isC isR hC hR hn2 hdis (va_runSU (n := n) (bytes := cc') (maxL := nL') (ret := ret) (C := C) (b := b) (As := As) (rest := rest) hat ⟨hx, hb, hml, hown, hts⟩ (hM H.size)
    (va_cwSU n hts (Tg_GoodIn (fun w h9 => by
      unfold va_wsSU at h9
      rcases List.mem_append.mp h9 with h9 | h9
      · simp only [List.mem_cons, List.not_mem_nil, or_false] at h9
        rcases h9 with rfl | rfl | rfl | rfl | rfl
        · exact lkB_in b1
        · exact lkB_in b3
        · exact lkB_in hB2
        · exact lkB_in b2
        · exact lkB_in b4
      · rcases List.mem_cons.mp h9 with rfl | h9
        · exact lkB_in b5
        · exact h9)) rfl rfl rfl ⟨hno, b7⟩ ⟨hro.1, by show 8 + (nL' + 11) + 200 * d ≤ R.locals; omega⟩) ⟨Pk_blind, hrecv, fun U hU hW => k_pre (Av := .ref b :: As) C1 hP hD hS isC hC hn U hU hW⟩ rfl hlen hl hstk (by show 2 * 0 + _ ≤ 8; omega) hdec hcs) k
end KFC
