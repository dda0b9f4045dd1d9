/-! Frames walked with the given rows: what they rest on, contracts over lists of cells, calls. -/
def sbT : u_T := fun k => match k with
  | 0 => ("java/lang/AbstractStringBuilder", "value", "[B", false)
  | 1 => ("java/lang/AbstractStringBuilder", "coder", "B", false)
  | 2 => ("java/lang/AbstractStringBuilder", "maybeLatin1", "Z", false)
  | _ => ("java/lang/AbstractStringBuilder", "count", "I", false)
def sbY : Nat → FieldType := fun k => match k with
  | 0 => .array .byte
  | 1 => .byte
  | 2 => .boolean
  | _ => .int
theorem sb_n : ∀ a, a < 4 → ∀ b, b < 4 → a ≠ b → (sbT a).2.1 ≠ (sbT b).2.1 := by decide +kernel
theorem sb_y : ∀ k, k < 4 → parseFieldDescriptor (sbT k).2.2.1 = some (sbY k) := by decide +kernel
def sbR : String := "java/lang/StringBuilder"
/-- the program's classes, and the text's -/
def clx : List vw_C := [(cR0, cT0, 5), (cR1, cT1, 3), (cR2, cT2, 10), (cR3, cT3, 13), (cR4, cT4, 5), (cR5, cT5, 13), (cR6, cT6, 9), (cR7, cT7, 4), (cR8, cT8, 3), (cR9, cT9, 17), (cR10, cT10, 49), (sbR, sbT, 4)]
def tyx (ci : Nat) : Nat → FieldType := match ci with
  | 0 => cY0 | 1 => cY1 | 2 => cY2 | 3 => cY3 | 4 => cY4 | 5 => cY5 | 6 => cY6 | 7 => cY7 | 8 => cY8 | 9 => cY9 | 10 => cY10 | _ => sbY
set_option maxRecDepth 100000 in
theorem ly_11 : ∀ w ∈ u_ws sbR sbT 4, w ∈ Tg := by
  have h : (u_ws sbR sbT 4) = ([513, 515, 517, 519] : List Nat).filterMap (fun i => lw_tbl[i]?) := by decide +kernel
  have g : (u_ws sbR sbT 4).all goodWord = true := by decide +kernel
  intro w hw
  refine Tg_of ?_ (List.all_eq_true.mp g w hw)
  rw [h] at hw
  obtain ⟨i, -, hi⟩ := List.mem_filterMap.mp hw
  exact List.mem_of_getElem? hi
theorem clx_ok : ∀ (ci : Nat) (q : vw_C), clx[ci]? = some q → (∀ w ∈ u_ws q.1 q.2.1 q.2.2, w ∈ Tg) ∧ (∀ k, k < q.2.2 → parseFieldDescriptor (q.2.1 k).2.2.1 = some (tyx ci k)) ∧ ∀ a, a < q.2.2 → ∀ b, b < q.2.2 → a ≠ b → (q.2.1 a).2.1 ≠ (q.2.1 b).2.1 := by
  intro ci q h
  match ci, h with
  | 0, h => cases h; exact ⟨ly_0, cy0_ok, cn0⟩
  | 1, h => cases h; exact ⟨ly_1, cy1_ok, cn1⟩
  | 2, h => cases h; exact ⟨ly_2, cy2_ok, cn2⟩
  | 3, h => cases h; exact ⟨ly_3, cy3_ok, cn3⟩
  | 4, h => cases h; exact ⟨ly_4, cy4_ok, cn4⟩
  | 5, h => cases h; exact ⟨ly_5, cy5_ok, cn5⟩
  | 6, h => cases h; exact ⟨ly_6, cy6_ok, cn6⟩
  | 7, h => cases h; exact ⟨ly_7, cy7_ok, cn7⟩
  | 8, h => cases h; exact ⟨ly_8, cy8_ok, cn8⟩
  | 9, h => cases h; exact ⟨ly_9, cy9_ok, cn9⟩
  | 10, h => cases h; exact ⟨ly_10, cy10_ok, cn10⟩
  | 11, h => cases h; exact ⟨ly_11, sb_y, sb_n⟩
  | k + 12, h => simp [clx] at h
/-- the texts that are appended -/
def txL : List (Nat × String × List Int32) := [(350, " fell", [32, 102, 101, 108, 108]), (356, " at ", [32, 97, 116, 32]), (364, " on ", [32, 111, 110, 32]), (366, " bowed", [32, 98, 111, 119, 101, 100])]
/-- the row of last digits, and what stands where an index is out of bounds -/
def Dgo (κ : Nat → Nat) (A : Nat → Prop) (U : State) (H : Heap) : Prop := va_Z "java/lang/Integer" "DigitOnes" "[B" (.ref (κ 400020)) A U H ∧ va_T .byte (κ 400020) 100 (fun j => .int (nI (48 + j % 10))) A U H ∧ va_Zq "jdk/internal/util/Preconditions" "SIOOBE_FORMATTER" "Ljava/util/function/BiFunction;" A U H
theorem Dgo.moved {κ : Nat → Nat} {A : Nat → Prop} {u U : State} {H : Heap} (hvm : u.vm.Alike U.vm) (h : Dgo κ A u H) : Dgo κ A U H := ⟨va_Z.moved hvm h.1, va_T.moved hvm h.2.1, va_Zq.moved hvm h.2.2⟩
theorem Dgo.kept {κ : Nat → Nat} {A : Nat → Prop} {U : State} {H H1 : Heap} (h : Dgo κ A U H) (hq : ∀ a : Nat, a < H.size → ¬ A a → H1[a]? = H[a]?) : Dgo κ A U H1 := ⟨h.1.kept hq, h.2.1.kept hq, va_Zq.kept h.2.2 hq⟩
theorem Dgo.narrow {κ : Nat → Nat} {A B : Nat → Prop} {U : State} {H : Heap} (h : Dgo κ A U H) (hAB : ∀ q, B q → A q) : Dgo κ B U H := ⟨h.1.narrow hAB, h.2.1.narrow hAB, va_Zq.narrow h.2.2 hAB⟩
def Txs (κ : Nat → Nat) (A : Nat → Prop) (U : State) (H : Heap) : Prop := va_Z "java/lang/String" "COMPACT_STRINGS" "Z" (.int 1) A U H ∧ Dgo κ A U H ∧ ∀ (i : Nat) (q : Nat × String × List Int32), txL[i]? = some q → vk_S 1 [q.2.2.length] [q.2.2] (fun _ => κ (400000 + i)) (fun _ => κ (400010 + i)) A U H ∧ vk_R "IceManners" q.1 q.2.1 (κ (400000 + i)) U
/-- what a throw needs: words that the tables alone decide, statics of Throwable, the messages -/
def Thr (A : Nat → Prop) (U : State) (H : Heap) : Prop := (va_Nw (.declares (Bundle.initS "java/lang/RuntimeException")) U ∧ va_Nw (.declares (Bundle.initS "java/lang/Exception")) U ∧ va_Nw (.declares (Bundle.initS "java/lang/Throwable")) U ∧ va_Nw (.castable "java/util/NoSuchElementException" "java/util/NoSuchElementException") U) ∧ vx_Zq Bundle.tN "UNASSIGNED_STACK" Bundle.steD A U H ∧ vx_Zq Bundle.tN "SUPPRESSED_SENTINEL" Bundle.listD A U H ∧
  (∃ a, vk_R "IceManners" 141 "no such person" a U) ∧ (∃ a, vk_R "IceManners" 171 "nothing such of a person" a U) ∧ (∃ a, vk_R "IceManners" 235 "a fraction has two numbers" a U)
/-- constructors of nested classes that the nest alone may call -/
def nsL : List (Nat × MethodName) := [(15, ⟨"IceManners$Scene", "<init>", "()V"⟩), (78, ⟨"IceManners$Ways", "<init>", "()V"⟩)]
/-- private methods of the text's class -/
def prL : List MethodName := [⟨"java/lang/AbstractStringBuilder", "newCapacity", "(I)I"⟩, ⟨"java/lang/AbstractStringBuilder", "ensureCapacityInternal", "(I)V"⟩, ⟨"java/lang/AbstractStringBuilder", "putStringAt", "(ILjava/lang/String;)V"⟩, ⟨"java/lang/AbstractStringBuilder", "inflateIfNeededFor", "(Ljava/lang/String;)V"⟩]
theorem Sel_warm {y : MethodName} {s U : State} (hW : s.WarmedH U.vm) (h : va_Nw (.selects sbR y y) s) : va_Nw (.selects sbR y y) U := va_Nw.of (A := #[]) rfl (word_at hW (Or.inl (by first | rfl | simp [Cond.onTables, Cond.keeps, Cond.steady])) (h.use (A := #[]) rfl))
/-- rows of references may be made; private constructors of the nest -/
def Aov (U : State) : Prop := va_AO "IceManners$Kind" U ∧ va_AO cR5 U ∧ va_AO cR8 U ∧ (∀ q ∈ nsL, va_Nw (.methodLinkNest "IceManners" q.1 q.2 "IceManners") U) ∧ ∀ y ∈ prL, va_Nw (.selects sbR y y) U
theorem Aov.warm {s U : State} (hW : s.WarmedH U.vm) (h : Aov s) : Aov U := ⟨h.1.moved hW.alike, h.2.1.moved hW.alike, h.2.2.1.moved hW.alike, fun q hq => va_Nw.warmM hW (h.2.2.2.1 q hq), fun y hy => Sel_warm hW (h.2.2.2.2 y hy)⟩
theorem Aov.same {u U : State} (hv : U.vm = u.vm) (h : Aov u) : Aov U := by
  have hal : u.vm.Alike U.vm := by rw [hv]; exact Vm.Alike.refl u.vm
  exact ⟨h.1.moved hal, h.2.1.moved hal, h.2.2.1.moved hal, fun q hq => va_Nw.same rfl hv.symm (h.2.2.2.1 q hq), fun y hy => va_Nw.same rfl hv.symm (h.2.2.2.2 y hy)⟩
/-- what never changes -/
def Ix (κ : Nat → Nat) (A : Nat → Prop) (U : State) (H : Heap) : Prop := Stt κ A U H ∧ Txs κ A U H ∧ nestw U ∧ Thr A U H ∧ Aov U
theorem Thr.warm {A : Nat → Prop} {s U : State} {H : Heap} (hW : s.WarmedH U.vm) (h : Thr A s H) : Thr A U H := by
  obtain ⟨⟨a1, a2, a3, a4⟩, h1, h2, ⟨x1, k1⟩, ⟨x2, k2⟩, ⟨x3, k3⟩⟩ := h
  exact ⟨⟨va_Nw.warmD hW a1, va_Nw.warmD hW a2, va_Nw.warmD hW a3, va_Nw.warmC hW a4⟩, h1.moved hW.alike, h2.moved hW.alike, ⟨x1, k1.warm hW⟩, ⟨x2, k2.warm hW⟩, ⟨x3, k3.warm hW⟩⟩
theorem Thr.kept {A : Nat → Prop} {U : State} {H H1 : Heap} (h : Thr A U H) (hq : ∀ a : Nat, a < H.size → ¬ A a → H1[a]? = H[a]?) : Thr A U H1 := ⟨h.1, h.2.1.kept hq, h.2.2.1.kept hq, h.2.2.2⟩
theorem Thr.narrow {A B : Nat → Prop} {U : State} {H : Heap} (h : Thr A U H) (hAB : ∀ q, B q → A q) : Thr B U H := ⟨h.1, h.2.1.narrow hAB, h.2.2.1.narrow hAB, h.2.2.2⟩
theorem Thr.same {A : Nat → Prop} {u U : State} {H : Heap} (hv : U.vm = u.vm) (h : Thr A u H) : Thr A U H := by
  obtain ⟨⟨a1, a2, a3, a4⟩, h1, h2, ⟨x1, k1⟩, ⟨x2, k2⟩, ⟨x3, k3⟩⟩ := h
  have hal : u.vm.Alike U.vm := by rw [hv]; exact Vm.Alike.refl u.vm
  exact ⟨⟨va_Nw.same rfl hv.symm a1, va_Nw.same rfl hv.symm a2, va_Nw.same rfl hv.symm a3, va_Nw.same rfl hv.symm a4⟩, h1.moved hal, h2.moved hal, ⟨x1, k1.same hv⟩, ⟨x2, k2.same hv⟩, ⟨x3, k3.same hv⟩⟩
theorem Ix.warm {κ : Nat → Nat} {A : Nat → Prop} {s U : State} {H : Heap} (hW : s.WarmedH U.vm) (h : Ix κ A s H) : Ix κ A U H := ⟨h.1.moved hW.alike, ⟨va_Z.moved hW.alike h.2.1.1, h.2.1.2.1.moved hW.alike, fun i q hq => ⟨(h.2.1.2.2 i q hq).1.moved hW.alike, (h.2.1.2.2 i q hq).2.warm hW⟩⟩, fun a i b n d g hm => va_Nw.warmF hW (h.2.2.1 a i b n d g hm), h.2.2.2.1.warm hW, h.2.2.2.2.warm hW⟩
theorem Ix.kept {κ : Nat → Nat} {A : Nat → Prop} {U : State} {H H1 : Heap} (h : Ix κ A U H) (hq : ∀ a : Nat, a < H.size → ¬ A a → H1[a]? = H[a]?) : Ix κ A U H1 := ⟨h.1.kept hq, ⟨h.2.1.1.kept hq, h.2.1.2.1.kept hq, fun i q h9 => ⟨(h.2.1.2.2 i q h9).1.kept hq, (h.2.1.2.2 i q h9).2⟩⟩, h.2.2.1, h.2.2.2.1.kept hq, h.2.2.2.2⟩
theorem Ix.narrow {κ : Nat → Nat} {A B : Nat → Prop} {U : State} {H : Heap} (h : Ix κ A U H) (hAB : ∀ q, B q → A q) : Ix κ B U H := ⟨h.1.narrow hAB, ⟨h.2.1.1.narrow hAB, h.2.1.2.1.narrow hAB, fun i q h9 => ⟨(h.2.1.2.2 i q h9).1.narrow hAB, (h.2.1.2.2 i q h9).2⟩⟩, h.2.2.1, h.2.2.2.1.narrow hAB, h.2.2.2.2⟩
theorem Ix.same {κ : Nat → Nat} {A : Nat → Prop} {u U : State} {H : Heap} (hv : U.vm = u.vm) (h : Ix κ A u H) : Ix κ A U H := by
  have hal : u.vm.Alike U.vm := by rw [hv]; exact Vm.Alike.refl u.vm
  exact ⟨h.1.moved hal, ⟨va_Z.moved hal h.2.1.1, h.2.1.2.1.moved hal, fun i q h9 => ⟨(h.2.1.2.2 i q h9).1.moved hal, (h.2.1.2.2 i q h9).2.same hv⟩⟩, fun a i b n d g hm => va_Nw.same rfl hv.symm (h.2.2.1 a i b n d g hm), h.2.2.2.1.same hv, h.2.2.2.2.same hv⟩
/-- the ground of a frame -/
def Kf (κ : Nat → Nat) (own : String) (cc : ByteArray) (nL : Nat) (p : Program) (s : State) (m : MethodId) (args : Array Value) (c : Code) (D : va_G) (tA : Nat → ClassId) (A : Nat → Prop) : Prop :=
  p.tables.exec = Jvm.exec ∧ c.code = cc ∧ c.maxLocals = nL ∧ s.vm.findClass own = some m.cls ∧ (∀ w ∈ Tg, w.before args s = true) ∧ va_K D clx (tysL tA) s ∧ (∀ q, s.heap.size ≤ q → A q) ∧ Ix κ A s s.heap
def rmc (d mc ms : Nat) : Room := { frames := d, cells := mc, slots := ms, locals := 200 * d }
def Pk (κ : Nat → Nat) (D : va_G) (tA : Nat → ClassId) (ws : va_W) (sz : Nat) (Av : List Value) : Array Value → State → Prop := va_Pc Av (fun U => U.heap.size = sz ∧ va_P D clx ws U.heap ∧ va_K D clx (tysL tA) U ∧ va_D (fun _ => True) ws ∧ Ix κ (va_A ws sz) U U.heap)
def Qk (D : va_G) (Q : Option Value → va_W → Prop) (A : Nat → Prop) : Array Value → State → Outcome → State → Prop := fun _ st oc t => (∃ (r : Option Value) (w1 : va_W), oc = .returned r ∧ Q r w1 ∧ va_P D clx w1 t.heap ∧ va_D A w1) ∧ va_F A st t
/-- a contract: with the numbers Av and the cells ws the method ends, at most d calls deep; Q says of the answer and of the cells behind it -/
def Ct (l : Launch) (κ : Nat → Nat) (D : va_G) (tA : Nat → ClassId) (y : MethodName) (cc : ByteArray) (nL : Nat) (ret : Option FieldType) (d mc ms : Nat) (Av : List Value) (ws : va_W) (Q : Option Value → va_W → Prop) : Prop :=
  ∀ sz : Nat, Met l y (.code y cc nL ret :: Tg) (rmc d mc ms) (Pk κ D tA ws sz Av) (Qk D Q (va_A ws sz)) mc ms (va_A ws sz)
theorem Pk_blind {κ : Nat → Nat} {D : va_G} {tA : Nat → ClassId} {ws : va_W} {sz : Nat} {Av : List Value} : FrameBlind (Pk κ D tA ws sz Av) := by
  intro a U g mk q
  obtain ⟨q1, q2, q3, q4, q5, q6⟩ := q
  exact ⟨q1, q2, q3, va_K.moved (u := U) (U := U.calling g mk a) (Vm.Alike.refl U.vm) q4, q5, Ix.same (u := U) (U := U.calling g mk a) rfl q6⟩
/-- what a frame owes at its end -/
def Ke (D : va_G) (Q : Option Value → va_W → Prop) (A : Nat → Prop) (below : List Frame) (args : Array Value) (s : State) (mc ms : Nat) : State → Prop := MQ below (Qk D Q A) args s mc ms A
theorem Ct.of {l : Launch} {κ : Nat → Nat} {D : va_G} {tA : Nat → ClassId} {y : MethodName} {cc : ByteArray} {nL : Nat} {ret : Option FieldType} {d mc ms : Nat} {Av : List Value} {ws : va_W} {Q : Option Value → va_W → Prop} (hpl : plainName y.cls = true) (hlen : (lg_sl Av).length ≤ nL)
    (h : ∀ (p : Program) (e : Env) (s : State) (m : MethodId) (args : Array Value) (below : List Frame) (meth : Method) (c : Code) (A : Nat → Prop) (ls : Array Slot), Kf κ y.cls cc nL p s m args c D tA A → meth.sig.returnType = ret → meth.locks = false → meth.name = y.name → va_P D clx ws s.heap → va_D A ws → va_S A s.heap s.heap [] → lv_has ls nL (lv_args 0 Av) →
      W p l e (rmc d mc ms) s m args below meth c s.heap [] 0 0 (Ke D Q A below args s mc ms) (F0 m 0 ls [])) : Ct l κ D tA y cc nL ret d mc ms Av ws Q := by
  intro sz
  refine Met.ofW (cc := cc) (maxL := nL) (ret := ret) hpl rfl ?_
  intro p e s m args below meth c s₁ B hml hv
  obtain ⟨rfl, hsz, hP, hK, hD0, hI⟩ := hv
  have hts := atoms_spec (ws := .code y cc nL ret :: Tg) B.pre
  have hown : s.vm.findClass y.cls = some m.cls := findClass_of_methodNamed B.named
  have hl := lv_entry Av (n := nL) hlen
  rw [lg_entry_eq]
  subst hsz
  exact h p e s m _ below meth c (va_A ws s.heap.size) _ ⟨B.exec, B.bytes, hml, hown, fun w hw => hts w (List.mem_cons_of_mem _ hw), hK, fun q hq => Or.inr hq, hI⟩ B.returns B.notSynchronized (name_of_methodNamed B.named B.method).1 hP hD0.self va_S.rf hl
