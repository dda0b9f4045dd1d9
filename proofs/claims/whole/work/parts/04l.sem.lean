def rmd (d : Nat) : Room := { frames := d + 3, cells := 0, slots := 0, locals := 200 * (d + 3) }
/-- the end of a method: its answer and memory are as Q says -/
def Qs (D : va_G) (tA : Nat → ClassId) (ρ : Nat → Nat) (Q : Po) (A : Nat → Prop) : Array Value → State → Outcome → State → Prop := fun _ st oc t =>
  (∃ (r : Option Value) (M' : Mm), oc = .returned (r.map (tv ρ)) ∧ Q r M' ∧ va_P D cls (wl ρ tA M') t.heap) ∧ va_F A st t
def nestw (U : State) : Prop := ∀ (a : String) (i : Nat) (b n d h : String), Cond.fieldLinkNest a i b n d h ∈ lw_tbl → va_Nw (.fieldLinkNest a i b n d h) U
/-- the start of a method over the memory M -/
def Ps (D : va_G) (tA : Nat → ClassId) (ρ : Nat → Nat) (M : Mm) (sz : Nat) (As : List Value) : Array Value → State → Prop := va_Pc (As.map (tv ρ)) (fun U => U.heap.size = sz ∧ va_P D cls (wl ρ tA M) U.heap ∧ va_K D cls (tysL tA) U ∧ va_D (fun _ => True) (wl ρ tA M) ∧ Stt ρ (va_A (wl ρ tA M) sz) U U.heap ∧ nestw U)
def sem (l : Launch) (D : va_G) (tA : Nat → ClassId) (ρ : Nat → Nat) (d j : Nat) (Q : Po) (c : Cf) : Prop :=
  ∀ (p : Program) (e : Env) (s : State) (m : MethodId) (args : Array Value) (below : List Frame) (meth : Method) (cd : Code) (A : Nat → Prop), Cx j p (rmd d) s m args cd D tA ρ A → meth.sig.returnType = mR9 j → meth.locks = false → (∀ q, s.heap.size ≤ q → A q) →
    Gg p l e (rmd d) s m args below meth cd (MQ below (Qs D tA ρ Q A) args s 0 0 A) D tA ρ A (mL j) c
theorem lva_map (ρ : Nat → Nat) : ∀ (vs : List Value) (i : Nat), lv_args i (vs.map (tv ρ)) = tvl ρ (lv_args i vs)
  | [], _ => rfl
  | v :: t, i => by
    show (i, tv ρ v) :: lv_args (if (tv ρ v).category = 2 then i + 2 else i + 1) (t.map (tv ρ)) = (i, tv ρ v) :: tvl ρ (lv_args (if v.category = 2 then i + 2 else i + 1) t)
    rw [tv_cat, lva_map ρ t]
theorem sl_len : ∀ vs : List Value, (lg_sl vs).length = ct vs
  | [] => rfl
  | v :: t => by
    have ih := sl_len t
    unfold lg_sl at ih ⊢
    rw [List.flatMap_cons, List.length_append, ih]
    show _ = v.category + ct t
    cases v <;> rfl
def mW (j : Nat) : List Cond := .code (mY j) (mC j) (mL j) (mR9 j) :: Tg
/-- what the tables say of each method -/
def Mok (j : Nat) : Prop := plainName (mY j).cls = true ∧ Cond.code (mY j) (mC j) (mL j) (mR9 j) ∈ Tg ∧ Cond.initialized (mY j).cls ∈ Tg ∧ mL j ≤ 100 ∧ (mY j).cls ≠ "java/lang/invoke/MethodHandle" ∧ (mY j).cls ≠ "java/lang/invoke/VarHandle"
set_option maxHeartbeats 4000000 in
theorem sem_met {l : Launch} {D : va_G} {tA : Nat → ClassId} {ρ : Nat → Nat} {d j : Nat} {Q : Po} {M : Mm} {As : List Value} (sz : Nat) (hj : Mok j) (hc : ct As ≤ mL j) (h : sem l D tA ρ d j Q (0, lv_args 0 As, [], M)) :
    Met l (mY j) (mW j) (rmd d) (Ps D tA ρ M sz As) (Qs D tA ρ Q (va_A (wl ρ tA M) sz)) 0 0 (va_A (wl ρ tA M) sz) := by
  refine Met.ofW (cc := mC j) (maxL := mL j) (ret := mR9 j) hj.1 rfl ?_
  intro p e s m args below meth c s₁ B hml hv
  obtain ⟨rfl, hsz, hP, hK, hD0, hI, hN⟩ := hv
  have hts := atoms_spec (ws := mW j) B.pre
  have hown : s.vm.findClass (mY j).cls = some m.cls := findClass_of_methodNamed B.named
  have hlen : (lg_sl (As.map (tv ρ))).length ≤ mL j := by
    rw [sl_len]
    unfold ct at hc ⊢
    rw [List.map_map]
    have : As.map ((fun v => v.category) ∘ tv ρ) = As.map (fun v => v.category) := List.map_congr_left (fun v _ => tv_cat ρ v)
    rw [this]
    exact hc
  have hl := lv_entry (As.map (tv ρ)) (n := mL j) hlen
  rw [lg_entry_eq]
  rw [lva_map] at hl
  refine h p e s m _ below meth c (va_A (wl ρ tA M) sz) ⟨B.exec, B.bytes, hml, hown, fun w hw => hts w (List.mem_cons_of_mem _ hw), hK, fun M' => wl_addr ρ tA M M' _ (hD0.self), hI, fun a i b n d h hm => (hN a i b n d h hm).use rfl, ?_, ?_⟩ B.returns B.notSynchronized (fun q hq => Or.inr (by rw [← hsz]; exact hq)) s.heap [] _ hP va_S.rf hl
  · show 2 ≤ d + 3
    omega
  · show 400 ≤ 200 * (d + 3)
    omega
section SEM
variable {l : Launch} {D : va_G} {tA : Nat → ClassId} {ρ : Nat → Nat}
/-- behind a call: the callee's memory in the caller's world -/
theorem go_on {p : Program} {e : Env} {s : State} {m : MethodId} {args : Array Value} {below : List Frame} {meth : Method} {cd : Code} {A : Nat → Prop} {d nL : Nat} {Qf : State → Prop} {H : Heap} {locs : List Loc} {ls : Array Slot} {pc : Nat} {lv : Lv} {st : List Value} {st0 : List Value} {M : Mm} {Qc : Po} {a : Array Value}
    (hD : ∀ M : Mm, va_D A (wl ρ tA M)) (hA : ∀ q, s.heap.size ≤ q → A q) (hS : va_S A s.heap H locs) (hl : lv_has ls nL (tvl ρ lv))
    (hr : va_Run p l e (rmd (d + 1)) s m args below meth cd H locs 0 0 0 0 (F0 m pc ls st0) (st.map (tv ρ)) (Qs D tA ρ Qc (va_A (wl ρ tA M) H.size) a) (va_A (wl ρ tA M) H.size))
    (k : ∀ (r : Option Value) (M' : Mm), Qc r M' → Gg p l e (rmd (d + 1)) s m args below meth cd Qf D tA ρ A nL (pc + 3, lv, r.toList ++ st, M')) :
    W p l e (rmd (d + 1)) s m args below meth cd H locs 0 0 Qf (F0 m pc ls st0) := by
  have hA1 : ∀ q, va_A (wl ρ tA M) H.size q → A q := by
    intro q hq
    rcases hq with ⟨k9, e9, hq⟩ | hq
    · exact (hD M).2 k9 (q, e9) hq
    · exact hA q (Nat.le_trans hS.1 hq)
  intro T hT X
  obtain ⟨v, st₀, t, T', L, h0, X', hL, e1, e2, ⟨⟨r, M', hv, hQ, hP'⟩, hz, hk⟩, step⟩ := hr T hT X
  cases hv
  rw [h0] at hz hk
  have hS' : va_S A s.heap T'.heap (locs ++ L) := by
    refine ⟨Nat.le_trans hS.1 (by rw [e1]; exact hz), fun q h1 h2 => ?_, fun q hq => ?_⟩
    · rw [e1, hk q (Nat.lt_of_lt_of_le h1 hS.1) (fun z => h2 (hA1 q z))]
      exact hS.2.1 q h1 h2
    · rcases List.mem_append.mp hq with h | h
      · exact hS.2.2 q h
      · exact hA1 _ (hL q h)
  have k9 := k r M' hQ T'.heap (locs ++ L) ls (by rw [e1]; exact hP') hS' hl
  obtain ⟨t2, a1, b1⟩ := k9 T' rfl X'
  refine ⟨t2, step t2 ?_, b1⟩
  have e9 : (r.map (tv ρ)).toList ++ st.map (tv ρ) = (r.toList ++ st).map (tv ρ) := by cases r <;> simp
  rw [e9]
  exact a1
end SEM
