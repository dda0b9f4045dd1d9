/-! 'throw new NoSuchElementException("text")': its constructor calls the next one by the index 13, where the given rows want 7. Printed by wip/whole/pFB.py. -/
def nsE : String := "java/util/NoSuchElementException"
/-- the words of a throw of X, whose constructor calls that of Y by the index i1 -/
def nsA (own : String) (ic : Nat) (X Y : String) (i1 : Nat) (b1 : ByteArray) (names : List String) : List Cond :=
  Bundle.throwableAtoms ++ (Bundle.throwableSAtoms ++ (Bundle.passSAtoms X Y i1 b1 ++ (Bundle.chainSAtoms Y names ++
  [.methodLink own ic (Bundle.initS X), .instantiable X 6, .selects X Bundle.tFill0 Bundle.tFill0, .selects X Bundle.tFill Bundle.tFill,
   .lays X Bundle.tN "cause" "Ljava/lang/Throwable;", .lays X Bundle.tN "stackTrace" Bundle.steD, .lays X Bundle.tN "suppressedExceptions" Bundle.listD, .lays X Bundle.tN "detailMessage" "Ljava/lang/String;",
   .isRef (.static Bundle.tN "UNASSIGNED_STACK" Bundle.steD), .isRef (.static Bundle.tN "SUPPRESSED_SENTINEL" Bundle.listD),
   .fieldLink Bundle.tN 198 Bundle.tN "backtrace" "Ljava/lang/Object;", .lays Bundle.tN Bundle.tN "backtrace" "Ljava/lang/Object;", .lays X Bundle.tN "backtrace" "Ljava/lang/Object;"])))
section NSC
variable {p : Program} {l : Launch} {e : Env} {R : Room} {s : State} {m₀ : MethodId} {args : Array Value} {below : List Frame} {meth : Method} {c : Code} {W9 : State} {cells slots : Nat}
set_option maxHeartbeats 4000000 in
/-- its constructor, and the throw behind it -/
theorem ns_ctor (X : Stand p l e R s m₀ args below meth c W9 [] cells slots) (hexec : p.tables.exec = Jvm.exec) (htr : e.platform.stackTraces = false) {own cls Y1 : String} {names : List String} {ic i1 : Nat} {b1 : ByteArray}
    (k0 : decode b1 0 = .ok (.aload_n 0, 1)) (k1 : decode b1 1 = .ok (.aload_n 1, 1)) (k2 : decode b1 2 = .ok (.invokespecial i1, 3)) (k5 : decode b1 5 = .ok (.return_, 1))
    (hown : s.vm.findClass own = some m₀.cls) (hcls : Bundle.fit cls = true) (hY1 : Bundle.fit Y1 = true) (hnames : ∀ n ∈ names, Bundle.fit n = true)
    (h : ∀ a ∈ nsA own ic cls Y1 i1 b1 names, a.before args s = true)
    {a : Addr} {cX : ClassId} {kX : Class} (hfoundX : s.vm.findClass cls = some cX) (hkX : s.vm.classes[cX]? = some kX) (hcell : W9.heap[a]? = some (freshCell cX kX)) (hnew : s.heap.size ≤ a)
    {msg : Value} (hmsg : msg.isRef = true)
    {g : JFrame} (hg : g.method = m₀) (hsize : g.locals.size = c.maxLocals) (hlocked : g.locked = none) (hentered : g.entered = []) {rest : List Value} (hstack : g.stack = msg :: .ref a :: .ref a :: rest)
    (hd6 : decode c.code g.pc = .ok (.invokespecial ic, 3)) (hd9 : decode c.code (g.pc + 3) = .ok (.athrow, 1)) (hout : ∀ x ∈ c.exceptionTable.toList, covers x (g.pc + 3) = false)
    (hRframes : names.length + 4 < R.frames) (hRlocals : 2 * g.monitorRoom + ((Value.ref a :: rest).map fun v => v.category).sum + (13 * (names.length + 2) + 42) ≤ R.locals) (hlocks : meth.locks = false) :
    ∃ U : State, Steps p.tables e below (W9.setTop g) U ∧ U.status = .running ∧ Ended U below (.threw a) ∧ s.WarmedH U.vm ∧ s.sameButNew ({ U with vm := s.vm } : State) [] cells slots ∧
      ∃ ce, U.heap[a]? = some ce ∧ s.vm.findClass cls = some ce.cls ∧ ce.vm = .none := by
  have hpl : e.platform.magicAccessors = ({} : Platform).magicAccessors := by rw [X.admits.platform]
  have w : ∀ x, x ∈ nsA own ic cls Y1 i1 b1 names → x.holds args s none s [] = true := fun x hx => h x hx
  obtain ⟨T, Z0, L, -, Y⟩ := ThrowableC.of_atoms (args := args) (by rw [X.admits.platform]) (by rw [X.admits.platform]) hpl (fun x hx => h x (by simp [nsA, hx]))
  obtain ⟨Z, M, LZ, LM, hnZ⟩ := Init0T.ofS_atoms (args := args) hpl L Y (fun x hx => h x (by simp [nsA, hx]))
  obtain ⟨P1, L1, hP1m, hP1s⟩ := PassC.ofS_atoms (args := args) (s := s) hpl (X := cls) (Y := Y1) (Bundle.fit_spec hcls).1 (Bundle.fit_spec hY1).2 k0 k1 k2 k5 (fun x hx => h x (by simp [nsA, hx]))
  obtain ⟨P2, Ps, hlen, L2, hLs, hP2m, hto2, hto⟩ := Bundle.chainS (args := args) hpl hnZ names Y1 hY1 hnames (fun x hx => h x (by simp [nsA, hx]))
  have hf : s.vm.findClass cls = some P1.m.cls := findClass_of_methodNamed hP1m
  cases Option.some.inj (hfoundX.symm.trans hf)
  obtain ⟨c1, kX2, hc1, hk, hord, -, -, hn6⟩ := Cond.instantiable_spec (w (.instantiable cls 6) (by simp [nsA]))
  cases Option.some.inj (hc1.symm.trans hf)
  cases Option.some.inj (hkX.symm.trans hk)
  have sel0 : selectMethod e.platform s.vm P1.m.cls T.fill0 = .method T.fill0 := by
    obtain ⟨c2, r2, m2, q1, q2, q3, q4, -⟩ := Cond.selects_spec (w (.selects cls Bundle.tFill0 Bundle.tFill0) (by simp [nsA]))
    cases Option.some.inj (q1.symm.trans hf)
    cases Option.some.inj (q2.symm.trans (State.methodFound?_of_named Y.fill0 (by decide)))
    cases Option.some.inj (q3.symm.trans Y.fill0)
    rw [Launch.admits_selectMethod X.admits]; exact q4
  have selF : selectMethod e.platform s.vm P1.m.cls T.fill = .method T.fill := by
    obtain ⟨c2, r2, m2, q1, q2, q3, q4, -⟩ := Cond.selects_spec (w (.selects cls Bundle.tFill Bundle.tFill) (by simp [nsA]))
    cases Option.some.inj (q1.symm.trans hf)
    cases Option.some.inj (q2.symm.trans (State.methodFound?_of_named Y.fill (by decide)))
    cases Option.some.inj (q3.symm.trans Y.fill)
    rw [Launch.admits_selectMethod X.admits]; exact q4
  obtain ⟨cS, hcS, iS⟩ := Y.statics
  obtain ⟨u0, hu0⟩ := Cond.staticRefV Y.unassigned L.unassignedStatic L.statics hcS iS (w (.isRef (.static Bundle.tN "UNASSIGNED_STACK" Bundle.steD)) (by simp [nsA]))
  obtain ⟨sen, hsen⟩ := Cond.staticRefV Y.sentinel L.sentinelStatic L.statics hcS iS (w (.isRef (.static Bundle.tN "SUPPRESSED_SENTINEL" Bundle.listD)) (by simp [nsA]))
  obtain ⟨ci9, i9, fB, hk9, hg9, ha9, hsB, -, hnB, htB, hffB⟩ := Cond.ownField (t := .object "java/lang/Object") Y.found L.cls (by decide +kernel) (w (.fieldLink Bundle.tN 198 Bundle.tN "backtrace" "Ljava/lang/Object;") (by simp [nsA])) (w (.lays Bundle.tN Bundle.tN "backtrace" "Ljava/lang/Object;") (by simp [nsA])) e.platform hpl
  obtain ⟨cS2, hcS2, eS2, -, kS2⟩ := X.same.2.2.2.2.2 T.aS cS hcS
  have hcS3 : W9.heap[T.aS]? = some cS2 := hcS2
  have nix : ∀ i, (⟨T.aS, i⟩ : Loc) ∉ ([] : List Loc) := fun i hm => nomatch hm
  have kn : cS2.vm ≠ .unknown := by
    rw [eS2]; intro hu
    rw [show cS.vm = .unknown from hu] at iS
    cases iS
  have neS : T.aS ≠ a := Nat.ne_of_lt (Nat.lt_of_lt_of_le (Array.getElem?_eq_some_iff.mp hcS).1 hnew)
  obtain ⟨iM, hffM⟩ := Y.msg
  obtain ⟨tyC, dC, hdC, hdnC⟩ := Cond.laysAt hf hk Y.cause (w (.lays cls Bundle.tN "cause" "Ljava/lang/Throwable;") (by simp [nsA]))
  obtain ⟨tyS, dS, hdS, hdnS⟩ := Cond.laysAt hf hk Y.stack (w (.lays cls Bundle.tN "stackTrace" Bundle.steD) (by simp [nsA]))
  obtain ⟨tyP, dP, hdP, hdnP⟩ := Cond.laysAt hf hk Y.supp (w (.lays cls Bundle.tN "suppressedExceptions" Bundle.listD) (by simp [nsA]))
  obtain ⟨tyM, dM, hdM, hdnM⟩ := Cond.laysAt hf hk hffM (w (.lays cls Bundle.tN "detailMessage" "Ljava/lang/String;") (by simp [nsA]))
  obtain ⟨tyB, dB, hdB, hdnB⟩ := Cond.laysAt hf hk hffB (w (.lays cls Bundle.tN "backtrace" "Ljava/lang/Object;") (by simp [nsA]))
  have bC := Cond.laysApart hdB hdC hdnB hdnC (by rw [hnB, Y.causeName]; decide)
  have bS := Cond.laysApart hdB hdS hdnB hdnS (by rw [hnB, Y.stackName]; decide)
  have bP := Cond.laysApart hdB hdP hdnB hdnP (by rw [hnB, Y.suppName]; decide)
  have skp : SkipFacts T e.platform s (fun u => u) u0 ((preparedCellV T.toThrowableT (freshCell P1.m.cls kX) a u0 sen).withEntry W9.cur) :=
    ⟨{ ci198 := ci9, i198 := i9, fBack := fB }, ⟨hk9, hg9, ha9, hsB⟩, by
      have hz := fresh_default (c := P1.m.cls) tyB
      rw [htB] at hz
      simpa [preparedCellV, Cell.setSlot, Cell.withEntry, Array.getElem?_setIfInBounds, bC, bS, bP, bC.symm, bS.symm, bP.symm, defaultValue] using hz, fun _ _ => rfl⟩
  obtain ⟨tm, mC, cdC, kC, vm1, hnC, -, -, -, -, -, -, -, hW1, st1⟩ := Steps.initColdS (tb := p.tables) (e := e) (below := below) (s := s) (U := W9) X.here hexec X.warmed hpl hown (t := Bundle.initS cls) rfl rfl (Bundle.fit_spec hcls).2
    (w (.methodLink own ic (Bundle.initS cls)) (by simp [nsA])) (h (.instanceMethod (Bundle.initS cls)) (by simp [nsA, Bundle.passSAtoms])) (bytes := b1) (maxL := 2) (h (.code (Bundle.initS cls) b1 2 none) (by simp [nsA, Bundle.passSAtoms]))
    (f := g) hg (a := a) (msg := msg) (rest := .ref a :: rest) hstack hd6
  cases Option.some.inj (hnC.symm.trans hP1m)
  have X1 := X.noted hW1
  obtain ⟨vm2, X2, st2⟩ := X1.ctorMessageOffV hexec (g := { g with stack := .ref a :: rest }) hg hsize T L Z LZ M LM (P1 :: P2 :: Ps)
    (fun P hP => by
      rcases List.mem_cons.mp hP with rfl | hP
      · exact L1
      · rcases List.mem_cons.mp hP with rfl | hP
        · exact L2
        · exact hLs P hP) ⟨Option.some.inj (hP1s.symm.trans hP2m), hto2, hto⟩ (u0 := u0) (sen := sen) (self := a) hmsg (cell := freshCell P1.m.cls kX) (cellS := cS2)
    hcell (fun _ => by simp) (by simp) rfl rfl sel0 selF hcS3 neS kn (by rw [kS2 _ (nix _)]; exact hu0) (by rw [kS2 _ (nix _)]; exact hsen)
    (Takes.of_laid hk hord tyC (by rw [Y.causeType]; rfl)) (Takes.of_laid hk hord tyS (by rw [Y.stackType]; exact fits_refV_array _ u0)) (Takes.of_laid hk hord tyP (by rw [Y.suppType]; exact fits_refV_object _ sen))
    (Takes.of_laid hk hord tyM (by rw [Y.msgType]; exact fits_refV_object _ ⟨msg, hmsg⟩)) Y.objLocals skp htr [] hd6
    (by simp only [List.length_cons, hlen]; omega) (by simp only [List.length_cons, hlen]; exact hRlocals)
  obtain ⟨hwalk, hrun, hended, hWU, hsame⟩ := X2.athrowLeaves hexec (g := { g with stack := .ref a :: rest, pc := g.pc + 3 }) hg hlocked hentered hout (a := a) (rest := rest) rfl hd9 hlocks
  have hlt : a < ((W9.setVm vm1).setVm vm2).heap.size := (Array.getElem?_eq_some_iff.mp hcell).1
  have hU := heapAt_setCell_self (s := (W9.setVm vm1).setVm vm2) (plainBareV T.toThrowableT (freshCell P1.m.cls kX) a u0 sen msg) hlt
  refine ⟨_, st1 _ (fun acts => ?_), hrun, hended, hWU, hsame.weaken (fun y hy hlt2 => ?_) (Nat.le_refl _) (Nat.le_refl _), _, hU, hf, rfl⟩
  · rw [doInvoke_state]
    exact st2 _ hwalk
  · rcases List.mem_append.mp hy with h1 | h1
    · exact h1
    · exfalso
      have hb : y.base = a := by
        simp only [List.mem_cons, List.not_mem_nil, or_false] at h1
        rcases h1 with rfl | rfl | rfl | rfl | rfl <;> rfl
      rw [hb] at hlt2
      exact Nat.not_lt.mpr hnew hlt2
end NSC
/-- the words of this class's throws -/
def nsL9 : List Cond := (nsA "IceManners" 143 nsE "java/lang/RuntimeException" 13 prog_36_method_4_code ["java/lang/Exception"]).filter vx_no
def nsB9 : List Cond := [.declares (Bundle.initS "java/lang/RuntimeException"), .declares (Bundle.initS "java/lang/Exception"), .declares (Bundle.initS "java/lang/Throwable")]
set_option maxRecDepth 100000 in
theorem ns_in : nsL9.filter goodWord = ([126, 1452, 1461, 1463, 1466, 1468, 1453, 1454, 141, 142, 1455, 1460, 1464, 1484, 1442, 1485, 1444, 1486, 1446, 1456, 1458, 1448, 1480, 1481, 1483, 1448, 1471, 1472, 1473, 1474, 1474, 1475, 1476, 1477, 1477, 1478, 1479, 1480, 1470, 1431, 1439, 1440, 1441, 1443, 1445, 1447, 1451, 1450, 1449] : List Nat).filterMap (fun i => lw_tbl[i]?) := by decide +kernel
set_option maxRecDepth 100000 in
theorem ns_no : nsL9.filter (fun w => !goodWord w) = nsB9 := by decide +kernel
set_option maxRecDepth 100000 in
theorem ns_ot : nsL9.all vx_ot = true := by decide +kernel
set_option maxRecDepth 100000 in
theorem ns_ck : lkB 1430 (.classLink "IceManners" 139 nsE) = true := by decide +kernel
set_option maxRecDepth 100000 in
theorem ns_ini : lkB 129 (.initialized nsE) = true := by decide +kernel
set_option maxRecDepth 100000 in
theorem ns_lk : lkB 1425 (.classLink "IceMannersLaw" 13 nsE) = true := by decide +kernel
theorem ns_d0 : decode prog_36_method_4_code 0 = .ok (.aload_n 0, 1) := by decide +kernel
theorem ns_d1 : decode prog_36_method_4_code 1 = .ok (.aload_n 1, 1) := by decide +kernel
theorem ns_d2 : decode prog_36_method_4_code 2 = .ok (.invokespecial 13, 3) := by decide +kernel
theorem ns_d5 : decode prog_36_method_4_code 5 = .ok (.return_, 1) := by decide +kernel
theorem ns_fit : Bundle.fit nsE = true ∧ Bundle.fit "java/lang/RuntimeException" = true ∧ ∀ n ∈ ["java/lang/Exception"], Bundle.fit n = true := by decide +kernel
/-- where a method has thrown: the cells are as they were -/
def XCk (D : va_G) (ws : va_W) (A : Nat → Prop) : String → State → State → Prop := fun E st t => E = nsE ∧ va_P D clx ws t.heap ∧ va_F A st t
def NoQ : Array Value → State → Outcome → State → Prop := fun _ _ _ _ => False
/-- a contract of a method that throws -/
def Cth (l : Launch) (κ : Nat → Nat) (D : va_G) (tA : Nat → ClassId) (y : MethodName) (cc : ByteArray) (nL : Nat) (ret : Option FieldType) (d mc ms : Nat) (Av : List Value) (ws : va_W) : Prop :=
  ∀ sz : Nat, vx_Met l y (.code y cc nL ret :: Tg) (rmc d mc ms) (Pk κ D tA ws sz Av) NoQ (XCk D ws (va_A ws sz)) mc ms (va_A ws sz)
def Kx (D : va_G) (ws : va_W) (A : Nat → Prop) (below : List Frame) (args : Array Value) (s : State) (mc ms : Nat) : State → Prop := vx_MQ below NoQ (XCk D ws A) args s mc ms A
theorem Cth.of {l : Launch} {κ : Nat → Nat} {D : va_G} {tA : Nat → ClassId} {y : MethodName} {cc : ByteArray} {nL : Nat} {ret : Option FieldType} {d mc ms : Nat} {Av : List Value} {ws : va_W} (hpl : plainName y.cls = true) (hlen : (lg_sl Av).length ≤ nL)
    (h : ∀ (p : Program) (e : Env) (s : State) (m : MethodId) (args : Array Value) (below : List Frame) (meth : Method) (c : Code) (A : Nat → Prop) (ls : Array Slot), Kf κ y.cls cc nL p s m args c D tA A → meth.sig.returnType = ret → meth.locks = false → (∀ x ∈ c.exceptionTable.toList, False) → va_P D clx ws s.heap → va_D A ws → va_S A s.heap s.heap [] → lv_has ls nL (lv_args 0 Av) →
      W p l e (rmc d mc ms) s m args below meth c s.heap [] 0 0 (Kx D ws A below args s mc ms) (F0 m 0 ls [])) : Cth l κ D tA y cc nL ret d mc ms Av ws := by
  intro sz
  refine vx_ofW (cc := cc) (maxL := nL) (ret := ret) hpl rfl ?_
  intro p e s m args below meth c s₁ B hml ht hv
  obtain ⟨rfl, hsz, hP, hK, hD0, hI⟩ := hv
  have hts := atoms_spec (ws := .code y cc nL ret :: Tg) B.pre
  have hown : s.vm.findClass y.cls = some m.cls := findClass_of_methodNamed B.named
  have hl := lv_entry Av (n := nL) hlen
  rw [lg_entry_eq]
  subst hsz
  exact h p e s m _ below meth c (va_A ws s.heap.size) _ ⟨B.exec, B.bytes, hml, hown, fun w hw => hts w (List.mem_cons_of_mem _ hw), hK, fun q hq => Or.inr hq, hI⟩ B.returns B.notSynchronized ht hP hD0.self va_S.rf hl
section NST
variable {κ : Nat → Nat} {cc : ByteArray} {nL : Nat} {p : Program} {l : Launch} {e : Env} {R : Room} {s : State} {m : MethodId} {args : Array Value} {below : List Frame} {meth : Method} {c : Code} {D : va_G} {tA : Nat → ClassId} {A : Nat → Prop} {H : Heap} {locs : List Loc} {cells slots : Nat} {ls : Array Slot} {pc mc ms : Nat} {ws : va_W}
theorem ns_words (C0 : Kf κ "IceManners" cc nL p s m args c D tA A) : ∀ w ∈ nsL9, w.before args s = true := by
  have hts := C0.2.2.2.2.1
  have hT := C0.2.2.2.2.2.2.2.2.2.2.1.1
  refine vx_hat (B := nsB9) (fun w hw => ?_) (fun w hw => by rw [ns_no] at hw; exact hw) (vx_c (hT.1.use rfl) (vx_c (hT.2.1.use rfl) (vx_c (hT.2.2.1.use rfl) vx_n)))
  have hg := (List.mem_filter.mp hw).2
  rw [ns_in] at hw
  obtain ⟨i, -, hi⟩ := List.mem_filterMap.mp hw
  exact hts w (Tg_of (List.mem_of_getElem? hi) hg)
set_option maxHeartbeats 4000000 in
/-- throw new NoSuchElementException(text) -/
theorem ns_throw {is sa : Nat} {text : String} (C0 : Kf κ "IceManners" cc nL p s m args c D tA A) (hl9 : l.stackTraces = false) (hstr : vk_R "IceManners" is text sa s) (hP : va_P D clx ws H) (hS : va_S A s.heap H locs) (hsize : ls.size = nL)
    (d0 : decode cc pc = .ok (.new 139, 3)) (d3 : decode cc (pc + 3) = .ok (.dup, 1)) (d4 : decode cc (pc + 4) = .ok (.ldc is, 2)) (d6 : decode cc (pc + 6) = .ok (.invokespecial 143, 3)) (d9 : decode cc (pc + 9) = .ok (.athrow, 1))
    (hout : ∀ x ∈ c.exceptionTable.toList, False) (hR : 10 ≤ R.frames ∧ 200 ≤ R.locals) (hcs : cells + 1 ≤ R.cells ∧ slots + 6 ≤ R.slots) (hlocks : meth.locks = false) (hc : cells + 1 ≤ mc) (hs : slots + 6 ≤ ms) :
    W p l e R s m args below meth c H locs cells slots (Kx D ws A below args s mc ms) (F0 m pc ls []) := by
  have hwords := ns_words C0
  obtain ⟨hexec, hb, hml, hown, hts, hK, hA, hI⟩ := C0
  obtain ⟨-, hU, hN, -⟩ := hI.2.2.2.1
  intro T hT X
  have htr : e.platform.stackTraces = false := (show e.platform.stackTraces = l.stackTraces by rw [X.admits.platform]).trans hl9
  have Y := vx_rebase X (R' := { frames := R.frames, locals := R.locals, cells := 1, slots := 6 }) (Nat.le_refl _) (Nat.le_refl _) hcs.1 hcs.2
  obtain ⟨s', hA9⟩ : ∃ z, z = (T.setVm s.vm).setFrames (.invoking m args :: below) := ⟨_, rfl⟩
  rw [← hA9] at Y
  have hvm : s'.vm = s.vm := by rw [hA9]; rfl
  have hhp : s'.heap = H := by rw [hA9]; exact hT
  have hW0 : s.WarmedH s'.vm := by rw [hvm]; exact State.WarmedH.refl s
  have hat' : ∀ w ∈ nsL9, w.before args s' = true := fun w hw => vx_ot_at hW0 hvm.symm (List.all_eq_true.mp ns_ot w hw) (hwords w hw)
  have gk : vx_ot (.classLink "IceManners" 139 nsE) = true := by decide +kernel
  have gi : vx_ot (.initialized nsE) = true := by decide +kernel
  have hk' : (Cond.classLink "IceManners" 139 nsE).before args s' = true := vx_ot_at hW0 hvm.symm gk (hts _ (lkB_in ns_ck))
  have hini' : (Cond.initialized nsE).before args s' = true := vx_ot_at hW0 hvm.symm gi (hts _ (lkB_in ns_ini))
  have hU' : vx_Zq Bundle.tN "UNASSIGNED_STACK" Bundle.steD A s' s'.heap := by rw [hhp]; exact vx_Zq.moved hW0.alike (hU.kept hS.2.1)
  have hN' : vx_Zq Bundle.tN "SUPPRESSED_SENTINEL" Bundle.listD A s' s'.heap := by rw [hhp]; exact vx_Zq.moved hW0.alike (hN.kept hS.2.1)
  have h : ∀ w ∈ nsA "IceManners" 143 nsE "java/lang/RuntimeException" 13 prog_36_method_4_code ["java/lang/Exception"], w.before args s' = true := vx_own hat' (vx_isRefq hU'.1) (vx_isRefq hN'.1) hU'.2.word hN'.2.word
  have hown' : s'.vm.findClass "IceManners" = some m.cls := by rw [hvm]; exact hown
  have hins : (Cond.instantiable nsE 6).before args s' = true := h _ (by simp [nsA])
  obtain ⟨vm₁, cX, kX, hfX, hkX, -, -, X₁, st1⟩ := Y.newCold hexec (own := "IceManners") (C := nsE) (index := 139) (n := 6) hown' hk' hins hini'
    (g := F0 m pc ls []) rfl (by rw [hb]; exact d0) (Nat.le_refl _) (Nat.le_refl _)
  generalize hT1 : (T.setVm vm₁).pushCell { cls := cX, slots := kX.instanceTypes.map defaultValue, vm := .none } = T1 at X₁ st1
  have hcat : (Value.ref T.heap.size).category = 1 := rfl
  have hcellA : T1.heap[T.heap.size]? = some (freshCell cX kX) := by rw [← hT1]; exact State.heap_pushCell_size _ _
  have d3' : decode c.code (pc + 3) = .ok (.dup, 1) := by rw [hb]; exact d3
  have d4' : decode c.code (pc + 4) = .ok (.ldc is, 2) := by rw [hb]; exact d4
  have hstr' : vk_R "IceManners" is text sa s' := vk_R.warm hW0 hstr
  obtain ⟨U, hsteps, hrun, hend, hW, hsame, ce, hce, hcc, hcv⟩ := ns_ctor X₁ hexec htr (own := "IceManners") (cls := nsE) (Y1 := "java/lang/RuntimeException") (names := ["java/lang/Exception"]) (ic := 143) ns_d0 ns_d1 ns_d2 ns_d5 hown' ns_fit.1 ns_fit.2.1 ns_fit.2.2 h hfX hkX hcellA (by rw [hhp, hT]; exact Nat.le_refl _) (msg := .ref sa) rfl
    (g := { method := m, pc := pc + 6, locals := ls, stack := .ref sa :: .ref T.heap.size :: .ref T.heap.size :: [], locked := none }) rfl (hsize.trans hml.symm) rfl rfl (rest := []) rfl
    (by rw [hb]; exact d6) (by rw [hb]; exact d9) (fun x hx => (hout x hx).elim) (by show 1 + 4 < R.frames; have := hR.1; omega) (by show 2 * 0 + (1 + 0) + (13 * (1 + 2) + 42) ≤ R.locals; have := hR.2; omega) hlocks
  obtain ⟨f1, f2⟩ := vx_frame hsame
  rw [hhp] at f1 f2
  have f3 : ∀ q : Nat, q < H.size → U.heap[q]? = H[q]? := fun q hq => f2 q hq (fun z hz => nomatch hz)
  have hWs : s.WarmedH U.vm := State.WarmedH.trans hW0 hW
  have hcl : s.vm.findClass nsE = some ce.cls := by rw [← hvm]; exact hcc
  have hall : s.sameButNew ({ U with vm := s.vm } : State) locs mc ms := by
    subst hA9
    obtain ⟨e1, e2⟩ := hsame
    rw [State.setFrames_setFrames] at e1
    have h2 : (T.setVm s.vm).sameButNew ({ U with vm := s.vm } : State) [] (0 + 1) (0 + 6) := ⟨e1, e2⟩
    have h3 := X.same.trans h2
    rw [List.append_nil] at h3
    exact h3.mono hc hs
  refine ⟨U, ?_, .threw T.heap.size, hrun, hend, Or.inr ⟨T.heap.size, rfl, nsE, ce, locs, ⟨rfl, fun k q hq => (hP k q hq).kept (f3 q.1 (hP k q hq).lt), Nat.le_trans hS.1 f1, fun q h1 h2 => ?_⟩, hce, hcv, hcl, hWs, hall, hS.2.2⟩⟩
  · refine st1 _ ?_
    show Steps p.tables e below (T1.setTop { method := m, pc := pc + 3, locals := ls, stack := .ref T.heap.size :: [], locked := none }) _
    jvm_step X₁.here [X₁.here.top, hexec, d3', Value.category]
    exact X₁.ldcString hexec (own := "IceManners") (text := text) (index := is) (a := sa) hown' hstr'.1 hstr'.2
      (g := { method := m, pc := pc + 4, locals := ls, stack := .ref T.heap.size :: .ref T.heap.size :: [], locked := none }) rfl d4' _ hsteps
  · rw [f3 q (Nat.lt_of_lt_of_le h1 hS.1)]
    exact hS.2.1 q h1 h2
end NST
section NSK
variable {κ : Nat → Nat} {own : String} {cc : ByteArray} {nL : Nat} {p : Program} {l : Launch} {e : Env} {R : Room} {s : State} {m : MethodId} {args : Array Value} {below : List Frame} {meth : Method} {c : Code} {D : va_G} {tA : Nat → ClassId} {A : Nat → Prop} {H : Heap} {locs : List Loc} {cells slots mc ms : Nat} {Qf : State → Prop} {ls : Array Slot} {pc : Nat} {st rest : List Value} {wc wr : va_W} {Q : Option Value → va_W → Prop}
/-- a call that throws -/
theorem k_callVX {y : MethodName} {cc' : ByteArray} {nL' d n ix n1 n2 n3 n4 n5 b : Nat} {ret : Option FieldType} {As : List Value} (C0 : Kf κ own cc nL p s m args c D tA A) (hM : Cth l κ D tA y cc' nL' ret d mc ms (.ref b :: As) wc) (hB : kvB own ix y cc' nL' ret n n1 n2 n3 n4 n5 = true) (hrecv : ∃ cellB : Cell, H[b]? = some cellB ∧ cellB.vm.isStatics = false ∧ s.vm.findClass y.cls = some cellB.cls)
    (hP : va_P D clx (wr ++ wc) H) (hD : va_D A (wr ++ wc)) (hS : va_S A s.heap H locs)
    (hl : ls.size = nL) (hlen : As.length = n) (hcat : (rest.map (fun v => v.category)).sum ≤ 8) (hro : d + 1 ≤ R.frames ∧ 200 * (d + 1) ≤ R.locals) (hcs : cells + mc ≤ R.cells ∧ slots + ms ≤ R.slots) (hdec : decode cc pc = .ok (.invokevirtual ix, 3)) (hstk : st = As.reverse ++ .ref b :: rest)
    (k : ∀ (q : Nat) (ce : Cell) (H1 : Heap) (locs1 : List Loc), va_P D clx (wr ++ wc) H1 → va_S A s.heap H1 locs1 → H1[q]? = some ce → ce.vm = .none → s.vm.findClass nsE = some ce.cls → vx_W p l e R s m args below meth c H1 locs1 (cells + mc) (slots + ms) Qf (F0 m pc ls rest) q) :
    W p l e R s m args below meth c H locs cells slots Qf (F0 m pc ls st) := by
  have C1 := C0
  obtain ⟨hx, hb, hml, hown, hts, hK, hA, hI⟩ := C0
  simp only [kvB, notMH, dlB, Bool.and_eq_true, decide_eq_true_eq] at hB
  obtain ⟨⟨⟨⟨⟨⟨⟨b1, b2⟩, b3⟩, b4⟩, b5⟩, b6⟩, b7⟩, b8⟩ := hB
  have hF := va_free hD hS hA (List.range' wr.length wc.length) (rng_mapB wr wc)
  have hr := vx_runV (l := l) (e := e) (R := R) (below := below) (meth := meth) (H := H) (locs := locs) (cells := cells) (slots := slots) (g := F0 m pc ls st) (n := n) (bytes := cc') (maxL := nL') (ret := ret) (C := y.cls) (b := b) (As := As) (rest := rest) ⟨hx, hb, hml, hown, hts⟩ (hM H.size)
    (cwV n hts (Tg_GoodIn (fun w h9 => by
      unfold wsV at h9
      rcases List.mem_append.mp h9 with h9 | h9
      · simp only [List.mem_cons, List.not_mem_nil, or_false] at h9
        rcases h9 with rfl | rfl | rfl | rfl
        · exact lkB_in b1
        · exact lkB_in b2
        · exact lkB_in b3
        · exact lkB_in b4
      · rcases List.mem_cons.mp h9 with rfl | h9
        · exact lkB_in b5
        · exact h9)) rfl rfl rfl ⟨rfl, b6.1, b6.2, b7⟩ ⟨hro.1, by show 8 + (nL' + 11) + 200 * d ≤ R.locals; omega⟩) ⟨Pk_blind, hrecv, fun U hU hW => k_pre (Av := .ref b :: As) C1 hP hD hS (List.range' wr.length wc.length) (rng_mapB wr wc) (rng_ndB _ _) U hU hW⟩ rfl hlen hl hstk (by show 2 * 0 + _ ≤ 8; omega) hdec hcs
  intro T hT X
  rcases hr T hT X with ⟨v, st₀, t, T', L, h0, X', hL, e1, e2, hq, -⟩ | ⟨q, st₀, t, T', L, E, ce, h0, X', hL, e1, e2, hXC, hce, hcv, hcl, step⟩
  · exact False.elim hq
  · obtain ⟨rfl, hP1, hz, hk⟩ := hXC
    rw [h0] at hz hk
    have hS2 : va_S A s.heap T'.heap (locs ++ L) := by
      refine ⟨Nat.le_trans hS.1 (by rw [e1]; exact hz), fun q h1 h2 => ?_, fun q hq => ?_⟩
      · rw [e1, hk q (Nat.lt_of_lt_of_le h1 hS.1) (fun z => h2 (hF q z))]
        exact hS.2.1 q h1 h2
      · rcases List.mem_append.mp hq with h | h
        · exact hS.2.2 q h
        · exact hF _ (hL q h)
    have hP2 : va_P D clx (wr ++ wc) T'.heap := by
      rw [e1]
      refine va_P.app (fun k q hq => (hP.lft k q hq).kept (hk q.1 (hP.lft k q hq).lt (fun z => ?_))) hP1
      rcases z with ⟨k2, e2, h2⟩ | h2
      · exact hD.aprt hq h2 rfl
      · exact absurd (hP.lft k q hq).lt (by omega)
    obtain ⟨t2, a1, b1⟩ := k q ce T'.heap (locs ++ L) hP2 hS2 (by rw [e1]; exact hce) hcv hcl T' rfl X'
    exact ⟨t2, step.trans a1, b1⟩
/-- a contract of a method with handlers -/
def Cw (l : Launch) (κ : Nat → Nat) (D : va_G) (tA : Nat → ClassId) (y : MethodName) (cc : ByteArray) (nL : Nat) (ret : Option FieldType) (hh : List (Nat × Nat × Nat × Nat)) (d mc ms : Nat) (Av : List Value) (ws : va_W) (Q : Option Value → va_W → Prop) : Prop :=
  ∀ sz : Nat, Met l y (.codeWith y cc nL ret hh :: Tg) (rmc d mc ms) (Pk κ D tA ws sz Av) (Qk D Q (va_A ws sz)) mc ms (va_A ws sz)
theorem Cw.of {l : Launch} {κ : Nat → Nat} {D : va_G} {tA : Nat → ClassId} {y : MethodName} {cc : ByteArray} {nL : Nat} {ret : Option FieldType} {hh : List (Nat × Nat × Nat × Nat)} {d mc ms : Nat} {Av : List Value} {ws : va_W} {Q : Option Value → va_W → Prop} (hpl : plainName y.cls = true) (hlen : (lg_sl Av).length ≤ nL)
    (h : ∀ (p : Program) (e : Env) (s : State) (m : MethodId) (args : Array Value) (below : List Frame) (meth : Method) (c : Code) (A : Nat → Prop) (ls : Array Slot), Kf κ y.cls cc nL p s m args c D tA A → meth.sig.returnType = ret → meth.locks = false → c.exceptionTable.toList = tableOf hh → va_P D clx ws s.heap → va_D A ws → va_S A s.heap s.heap [] → lv_has ls nL (lv_args 0 Av) →
      W p l e (rmc d mc ms) s m args below meth c s.heap [] 0 0 (Ke D Q A below args s mc ms) (F0 m 0 ls [])) : Cw l κ D tA y cc nL ret hh d mc ms Av ws Q := by
  intro sz
  refine va_MetW (cc := cc) (maxL := nL) (ret := ret) (hh := hh) hpl rfl ?_
  intro p e s m args below meth c s₁ B hml hv
  obtain ⟨rfl, hsz, hP, hK, hD0, hI⟩ := hv
  have hts := atoms_spec (ws := .codeWith y cc nL ret hh :: Tg) B.pre
  have htab := vx_table (x := y) B (hts _ List.mem_cons_self)
  have hown : s.vm.findClass y.cls = some m.cls := findClass_of_methodNamed B.named
  have hl := lv_entry Av (n := nL) hlen
  rw [lg_entry_eq]
  subst hsz
  exact h p e s m _ below meth c (va_A ws s.heap.size) _ ⟨B.exec, B.bytes, hml, hown, fun w hw => hts w (List.mem_cons_of_mem _ hw), hK, fun q hq => Or.inr hq, hI⟩ B.returns B.notSynchronized htab hP hD0.self va_S.rf hl
/-- a static call of a method with handlers -/
theorem k_callSW {y : MethodName} {cc' : ByteArray} {nL' d n ix n1 n2 n4 n5 : Nat} {ret : Option FieldType} {hh : List (Nat × Nat × Nat × Nat)} {As : List Value} (C0 : Kf κ own cc nL p s m args c D tA A) (hM : Cw l κ D tA y cc' nL' ret hh d mc ms As wc Q) (hB : (lkB n1 (.methodLink own ix y) && lkB n2 (.static y) && lkB n4 (.initialized y.cls) && lkB n5 (.codeWith y cc' nL' ret hh) && notMH y && dlB y n && decide (nL' ≤ 100)) = true)
    (hP : va_P D clx (wr ++ wc) H) (hD : va_D A (wr ++ wc)) (hS : va_S A s.heap H locs)
    (hl : ls.size = nL) (hlen : As.length = n) (hcat : (rest.map (fun v => v.category)).sum ≤ 8) (hro : d + 1 ≤ R.frames ∧ 200 * (d + 1) ≤ R.locals) (hcs : cells + mc ≤ R.cells ∧ slots + ms ≤ R.slots) (hdec : decode cc pc = .ok (.invokestatic ix, 3)) (hstk : st = As.reverse ++ rest)
    (k : ∀ (r : Option Value) (w1 : va_W) (H1 : Heap) (locs1 : List Loc), Q r w1 → va_P D clx (wr ++ w1) H1 → va_D A (wr ++ w1) → va_S A s.heap H1 locs1 → W p l e R s m args below meth c H1 locs1 (cells + mc) (slots + ms) Qf (F0 m (pc + 3) ls (r.toList ++ rest))) :
    W p l e R s m args below meth c H locs cells slots Qf (F0 m pc ls st) := by
  have C1 := C0
  obtain ⟨hx, hb, hml, hown, hts, hK, hA, hI⟩ := C0
  simp only [notMH, dlB, Bool.and_eq_true, decide_eq_true_eq] at hB
  obtain ⟨⟨⟨⟨⟨⟨b1, b2⟩, b4⟩, b5⟩, b6⟩, b7⟩, b8⟩ := hB
  refine k_on C1 hP hD hS (List.range' wr.length wc.length) (List.range wr.length) (rng_mapB wr wc) (rng_mapA wr wc) (rng_nd _) (fun i hi => by rw [List.mem_range] at hi; rw [List.mem_range'_1]; omega) (vx_runSW (n := n) (bytes := cc') (maxL := nL') (ret := ret) (hh := hh) (As := As) (rest := rest) ⟨hx, hb, hml, hown, hts⟩ (hM H.size)
    (vx_cwSW n hts (Tg_GoodIn (fun w h9 => by
      unfold va_wsS at h9
      rcases List.mem_append.mp h9 with h9 | h9
      · simp only [List.mem_cons, List.not_mem_nil, or_false] at h9
        rcases h9 with rfl | rfl | rfl
        · exact lkB_in b1
        · exact lkB_in b2
        · exact lkB_in b4
      · rcases List.mem_cons.mp h9 with rfl | h9
        · exact lkB_in b5
        · exact h9)) rfl rfl rfl ⟨b6.1, b6.2, b7⟩ ⟨hro.1, by show 8 + (nL' + 11) + 200 * d ≤ R.locals; omega⟩) ⟨Pk_blind, fun U hU hW => k_pre (Av := As) C1 hP hD hS (List.range' wr.length wc.length) (rng_mapB wr wc) (rng_ndB _ _) U hU hW⟩ rfl hlen hl hstk (by show 2 * 0 + _ ≤ 8; omega) hdec hcs) k
end NSK
