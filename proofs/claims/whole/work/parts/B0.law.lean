/-! Frames that are walked by hand: calls of the small machine's methods out of them. -/
def Lw (own : String) (cc : ByteArray) (nL : Nat) (p : Program) (s : State) (m : MethodId) (args : Array Value) (c : Code) (D : va_G) (tA : Nat → ClassId) (ρ : Nat → Nat) (A : Nat → Prop) : Prop :=
  p.tables.exec = Jvm.exec ∧ c.code = cc ∧ c.maxLocals = nL ∧ s.vm.findClass own = some m.cls ∧ (∀ w ∈ Tg, w.before args s = true) ∧ va_K D cls (tysL tA) s ∧ (∀ M : Mm, va_D A (wl ρ tA M)) ∧ Stt ρ A s s.heap ∧
  (∀ (a : String) (i : Nat) (b n d h : String), Cond.fieldLinkNest a i b n d h ∈ lw_tbl → (Cond.fieldLinkNest a i b n d h).before args s = true) ∧ (∀ q, s.heap.size ≤ q → A q)
theorem Lw.pre {own : String} {cc : ByteArray} {nL : Nat} {p : Program} {s : State} {m : MethodId} {args : Array Value} {c : Code} {D : va_G} {tA : Nat → ClassId} {ρ : Nat → Nat} {A : Nat → Prop} {M : Mm} {H : Heap} {locs : List Loc} {As : List Value} (C0 : Lw own cc nL p s m args c D tA ρ A) (hP : va_P D cls (wl ρ tA M) H) (hS : va_S A s.heap H locs) (U : State) (hU : U.heap = H) (hW : s.WarmedH U.vm) : Ps D tA ρ M H.size As (As.map (tv ρ)).toArray U := by
  obtain ⟨hx, hb, hml, hown, hts, hK, hD, hI, hN, hA⟩ := C0
  have hA1 : ∀ q, va_A (wl ρ tA M) H.size q → A q := by
    intro q hq
    rcases hq with ⟨k9, e9, hq⟩ | hq
    · exact (hD M).2 k9 (q, e9) hq
    · exact hA q (Nat.le_trans hS.1 hq)
  refine ⟨rfl, by rw [hU], by rw [hU]; exact hP, va_K.moved hW.alike hK, (hD M).weaken (fun _ _ _ _ => trivial), ?_, fun a i b n d h hm => va_Nw.warmF hW (va_Nw.of rfl (hN a i b n d h hm))⟩
  rw [hU]
  exact ((hI.kept hS.2.1).moved hW.alike).narrow hA1
theorem wl_A {ρ : Nat → Nat} {tA : Nat → ClassId} {M : Mm} {sz q : Nat} (h : va_A (wl ρ tA M) sz q) : (∃ p, p < shl.length ∧ ρ p = q) ∨ sz ≤ q := by
  rcases h with ⟨k, e, h⟩ | h
  · left
    refine ⟨k, ?_, ?_⟩
    · have := (List.getElem?_eq_some_iff.mp h).1
      rw [wl_len] at this
      exact this
    · rw [wl_get?] at h
      cases hs : shl[k]? with
      | none => rw [hs] at h; cases h
      | some z => rw [hs] at h; cases h; rfl
  · exact Or.inr h
/-- cells that none of the world's places is stay -/
def Kp (ρ : Nat → Nat) (H H1 : Heap) : Prop := H.size ≤ H1.size ∧ ∀ q : Nat, q < H.size → (∀ p, p < shl.length → ρ p ≠ q) → H1[q]? = H[q]?
theorem Kp.rf {ρ : Nat → Nat} {H : Heap} : Kp ρ H H := ⟨Nat.le_refl _, fun _ _ _ => rfl⟩
theorem Kp.tr {ρ : Nat → Nat} {H H1 H2 : Heap} (h : Kp ρ H H1) (k : Kp ρ H1 H2) : Kp ρ H H2 := ⟨Nat.le_trans h.1 k.1, fun q h1 h2 => by rw [k.2 q (Nat.lt_of_lt_of_le h1 h.1) h2, h.2 q h1 h2]⟩
theorem Kp.of {ρ : Nat → Nat} {tA : Nat → ClassId} {M : Mm} {H H1 : Heap} (h : H.size ≤ H1.size) (k : ∀ q : Nat, q < H.size → ¬ va_A (wl ρ tA M) H.size q → H1[q]? = H[q]?) : Kp ρ H H1 := ⟨h, fun q h1 h2 => k q h1 (fun z => by
  rcases wl_A z with ⟨p, h3, h4⟩ | h3
  · exact h2 p h3 h4
  · omega)⟩
theorem Kp.P {ρ : Nat → Nat} {H H1 : Heap} {D : va_G} {cl : List vw_C} {ws : va_W} (h : Kp ρ H H1) (hP : va_P D cl ws H) (ha : ∀ (k : Nat) (q : Nat × va_E), ws[k]? = some q → ∀ p, p < shl.length → ρ p ≠ q.1) : va_P D cl ws H1 := fun k q hq => (hP k q hq).kept (h.2 q.1 (hP k q hq).lt (ha k q hq))
set_option maxHeartbeats 4000000 in
/-- a call of method j' at place p0 -/
theorem law_call {own : String} {cc : ByteArray} {nL : Nat} {p : Program} {l : Launch} {e : Env} {R : Room} {s : State} {m : MethodId} {args : Array Value} {below : List Frame} {meth : Method} {c : Code} {D : va_G} {tA : Nat → ClassId} {ρ : Nat → Nat} {A : Nat → Prop} {H : Heap} {locs : List Loc} {cells slots : Nat} {Qf : State → Prop} {ls : Array Slot} {pc : Nat} {M : Mm} {Qc : Po} {d p0 : Nat} {As st : List Value} {stk : List Value} (j' ix n9 k9 : Nat)
    (C0 : Lw own cc nL p s m args c D tA ρ A) (hj : j' < 245) (hi : (mix.getD j' (0, 0, 0, 0, 0)).2.2.1 = 1) (q2 : lkB n9 (.methodLink own ix (mY j')) = true) (q3 : (parseMethodDescriptor (mY j').desc).map (fun d => d.parameters.length) = some As.length) (q4 : (cls[k9]?).map (fun q => q.1) = some (mY j').cls) (hsh : shp p0 = (0, k9)) (hct : ct (.ref p0 :: As) ≤ mL j') (hcat : (st.map (fun v => v.category)).sum ≤ 8)
    (hR : d + 4 ≤ R.frames ∧ 8 + (mL j' + 11) + 200 * (d + 3) ≤ R.locals) (hcs : cells ≤ R.cells ∧ slots ≤ R.slots) (hdec : decode cc pc = .ok (.invokevirtual ix, 3)) (hstk : stk = (As.map (tv ρ)).reverse ++ .ref (ρ p0) :: st) (hl : ls.size = nL)
    (hP : va_P D cls (wl ρ tA M) H) (hS : va_S A s.heap H locs) (hM : Wn d j' Qc (0, lv_args 0 (.ref p0 :: As), [], M))
    (k : ∀ (r : Option Value) (M' : Mm) (H1 : Heap) (locs1 : List Loc), Qc r M' → va_P D cls (wl ρ tA M') H1 → va_S A s.heap H1 locs1 → Kp ρ H H1 → W p l e R s m args below meth c H1 locs1 cells slots Qf (F0 m (pc + 3) ls ((r.map (tv ρ)).toList ++ st))) :
    W p l e R s m args below meth c H locs cells slots Qf (F0 m pc ls stk) := by
  have C1 := C0
  obtain ⟨hx, hb, hml, hown, hts, hK, hD, hI, hN, hA⟩ := C0
  obtain ⟨hj9, hin9, -⟩ := mok_sp j' hj
  obtain ⟨hin, hse⟩ := hin9 hi
  have hrecv : ∃ cellB : Cell, H[ρ p0]? = some cellB ∧ cellB.vm.isStatics = false ∧ s.vm.findClass (mY j').cls = some cellB.cls := by
    cases hc9 : cls[k9]? with
    | none => rw [hc9] at q4; cases q4
    | some C9 =>
      rw [hc9] at q4
      have q4 : C9.1 = (mY j').cls := Option.some.inj q4
      rw [← q4]
      exact va_recv hK hP hc9 (wl_get hsh (by decide))
  have hrun := va_runV (l := l) (e := e) (below := below) (meth := meth) (locs := locs) (cells := cells) (slots := slots) (mc := 0) (ms := 0) (R := R) (g := F0 m pc ls stk) (As := As.map (tv ρ)) (rest := st) (b := ρ p0) (C := (mY j').cls) (index := ix) ⟨hx, hb, hml, hown, hts⟩ (Wn_met H.size hj hct hM)
    (cwV As.length hts (Tg_GoodIn (fun w h9 => by
      unfold wsV at h9
      rcases List.mem_append.mp h9 with h9 | h9
      · simp only [List.mem_cons, List.not_mem_nil, or_false] at h9
        rcases h9 with rfl | rfl | rfl | rfl
        · exact lkB_in q2
        · exact hin
        · exact hse
        · exact hj9.2.2.1
      · rcases List.mem_cons.mp h9 with rfl | h9
        · exact hj9.2.1
        · exact h9)) rfl rfl rfl ⟨rfl, hj9.2.2.2.2.1, hj9.2.2.2.2.2, q3⟩ ⟨hR.1, hR.2⟩)
    ⟨Ps_blind, hrecv, fun U hU hW => C1.pre (As := .ref p0 :: As) hP hS U hU hW⟩ rfl (by simp) hl hstk (by show 2 * 0 + _ ≤ 8; omega) hdec ⟨hcs.1, hcs.2⟩
  have hA1 : ∀ q, va_A (wl ρ tA M) H.size q → A q := by
    intro q hq
    rcases hq with ⟨k9, e9, hq⟩ | hq
    · exact (hD M).2 k9 (q, e9) hq
    · exact hA q (Nat.le_trans hS.1 hq)
  intro T hT X
  obtain ⟨v, st₀, t, T', L, h0, X', hL, e1, e2, ⟨⟨r, M', hv, hQ, hP'⟩, hz, hk⟩, step⟩ := hrun T hT X
  cases hv
  rw [h0] at hz hk
  have hS' : va_S A s.heap T'.heap (locs ++ L) := by
    refine ⟨Nat.le_trans hS.1 (by rw [e1]; exact hz), fun q h1 h2 => ?_, fun q hq => ?_⟩
    · rw [e1, hk q (Nat.lt_of_lt_of_le h1 hS.1) (fun z => h2 (hA1 q z))]
      exact hS.2.1 q h1 h2
    · rcases List.mem_append.mp hq with h | h
      · exact hS.2.2 q h
      · exact hA1 _ (hL q h)
  have k9 := k r M' T'.heap (locs ++ L) hQ (by rw [e1]; exact hP') hS' (by rw [e1]; exact Kp.of hz hk)
  obtain ⟨t2, a1, b1⟩ := k9 T' rfl X'
  exact ⟨t2, step t2 a1, b1⟩
