def rvB (ci : Int) (y : MethodName) : Bool := match ci with
  | .ofNat k => decide ((cls[k]?).map (fun q => q.1) = some y.cls)
  | _ => decide (y.cls = "IceManners$Kind")
theorem Ps_blind {D : va_G} {tA : Nat → ClassId} {ρ : Nat → Nat} {M : Mm} {sz : Nat} {As : List Value} : FrameBlind (Ps D tA ρ M sz As) := by
  intro a U g mk q
  obtain ⟨q1, q2, q3, q4, q5, q6, q7⟩ := q
  exact ⟨q1, q2, q3, va_K.moved (u := U) (U := U.calling g mk a) (Vm.Alike.refl U.vm) q4, q5, Stt.moved (u := U) (U := U.calling g mk a) (Vm.Alike.refl U.vm) q6, fun a9 i b n d h hm => va_Nw.same (u := U) rfl rfl (q7 a9 i b n d h hm)⟩
theorem Ps_pre {j : Nat} {p : Program} {R : Room} {s : State} {m : MethodId} {args : Array Value} {cd : Code} {D : va_G} {tA : Nat → ClassId} {ρ : Nat → Nat} {A : Nat → Prop} {M : Mm} {H : Heap} {locs : List Loc} {As : List Value} (C0 : Cx j p R s m args cd D tA ρ A) (hA : ∀ q, s.heap.size ≤ q → A q) (hP : va_P D cls (wl ρ tA M) H) (hS : va_S A s.heap H locs) (U : State) (hU : U.heap = H) (hW : s.WarmedH U.vm) : Ps D tA ρ M H.size As (As.map (tv ρ)).toArray U := by
  obtain ⟨hx, hb, hml, hown, hts, hK, hD, hI, hN, hR⟩ := C0
  have hA1 : ∀ q, va_A (wl ρ tA M) H.size q → A q := by
    intro q hq
    rcases hq with ⟨k9, e9, hq⟩ | hq
    · exact (hD M).2 k9 (q, e9) hq
    · exact hA q (Nat.le_trans hS.1 hq)
  refine ⟨rfl, by rw [hU], by rw [hU]; exact hP, va_K.moved hW.alike hK, (hD M).weaken (fun _ _ _ _ => trivial), ?_, fun a i b n d h hm => va_Nw.warmF hW (va_Nw.of rfl (hN a i b n d h hm))⟩
  rw [hU]
  exact ((hI.kept hS.2.1).moved hW.alike).narrow hA1
theorem rv_map (ρ : Nat → Nat) (As st : List Value) (p : Nat) : (As.reverse ++ .ref p :: st).map (tv ρ) = (As.map (tv ρ)).reverse ++ .ref (ρ p) :: st.map (tv ρ) := by
  rw [List.map_append, List.map_reverse]; rfl
theorem pd_len {y : MethodName} {n k : Nat} (h : (parseMethodDescriptor y.desc).map (fun d => d.parameters.length + 1) = some n) (hk : k + 1 = n) : (parseMethodDescriptor y.desc).map (fun d => d.parameters.length) = some k := by
  cases hq : parseMethodDescriptor y.desc with
  | none => rw [hq] at h; cases h
  | some z =>
    rw [hq] at h
    have h9 : z.parameters.length + 1 = n := Option.some.inj h
    exact congrArg some (by show z.parameters.length = k; omega)
set_option maxHeartbeats 4000000 in
/-- the machine keeps the small machine's rules -/
theorem sem_cl {l : Launch} {D : va_G} {tA : Nat → ClassId} {ρ : Nat → Nat} (hw : Wds) (hwo : WdO) (hok : ∀ (j pc : Nat) (r : Rw), fdr (mtab j) pc = some r → ∃ n, okB j pc r n = true)
    (hV : ∀ (j pc : Nat) (i : Int) (x : Nat) (ex : List Int), fdr (mtab j) pc = some (90, i, x, ex) → Mok x ∧ Cond.instanceMethod (mY x) ∈ Tg ∧ Cond.selects (mY x).cls (mY x) (mY x) ∈ Tg)
    (hSt : ∀ (j pc : Nat) (i : Int) (x : Nat) (ex : List Int), fdr (mtab j) pc = some (91, i, x, ex) → Mok x ∧ Cond.static (mY x) ∈ Tg) : Cl (sem l D tA ρ) := by
  refine ⟨?_, ?_, ?_, ?_, ?_, ?_, ?_, ?_, ?_⟩
  · intro d j Q c r c' o h1 h2 ho k p e s m args below meth cd A C0 hr hlk hA
    obtain ⟨n, hn⟩ := hok j c.1 r h1
    exact disp hw C0 hn (fun x hd hl9 ho9 h9 k9 => sg_ord hwo C0 hA hd hl9 ho9 h9 k9) h2 ho (k p e s m args below meth cd A C0 hr hlk hA)
  · intro d j Q Qc pc lv st M p0 As j' n ix ci h1 hn hrc hct hcat hM k p e s m args below meth cd A C0 hr hlk hA H locs ls hP hS hl
    obtain ⟨n9, hn9⟩ := hok j pc _ h1
    obtain ⟨hj, hin, hse⟩ := hV j pc _ _ _ h1
    have C1 := C0
    obtain ⟨hx, hb, hml, hown, hts, hK, hD, hI, hN, hR⟩ := C0
    have hq : dcB j pc (.invokevirtual ((ix : Int)).toNat, 3) = true ∧ lkB n9 (.methodLink (mY j).cls ((ix : Int)).toNat (mY j')) = true ∧ (parseMethodDescriptor (mY j').desc).map (fun d => d.parameters.length + 1) = some ((n : Int)).toNat ∧ rvB ci (mY j') = true := by
      have h9 := hn9
      simp only [okB, Bool.and_eq_true, decide_eq_true_eq] at h9
      exact ⟨h9.1.1.1, h9.1.1.2, h9.1.2, h9.2⟩
    obtain ⟨q1, q2, q3, q4⟩ := hq
    have q3 : (parseMethodDescriptor (mY j').desc).map (fun d => d.parameters.length + 1) = some n := q3
    have hrecv : ∃ cellB : Cell, H[ρ p0]? = some cellB ∧ cellB.vm.isStatics = false ∧ s.vm.findClass (mY j').cls = some cellB.cls := by
      cases ci with
      | ofNat k9 =>
        have hsh : shp p0 = (0, k9) := hrc
        have q4 : (cls[k9]?).map (fun q => q.1) = some (mY j').cls := of_decide_eq_true q4
        cases hc9 : cls[k9]? with
        | none => rw [hc9] at q4; cases q4
        | some C9 =>
          rw [hc9] at q4
          have q4 : C9.1 = (mY j').cls := Option.some.inj q4
          rw [← q4]
          exact va_recv hK hP hc9 (wl_get hsh (by decide))
      | negSucc k9 =>
        have hk : isK p0 := hrc
        have q4 : (mY j').cls = "IceManners$Kind" := of_decide_eq_true q4
        obtain ⟨i, hi, rfl⟩ := isK_off hk
        rw [q4]
        exact va_Orecv (hI.1.1 i hi).2.1 hS
    have hrun := va_runV (l := l) (e := e) (below := below) (meth := meth) (locs := locs) (cells := 0) (slots := 0) (mc := 0) (ms := 0) (R := rmd (d + 1)) (g := F0 m pc ls ((As.reverse ++ .ref p0 :: st).map (tv ρ))) (As := As.map (tv ρ)) (rest := st.map (tv ρ)) (b := ρ p0) (C := (mY j').cls) (index := ((ix : Int)).toNat) ⟨hx, hb, hml, hown, hts⟩ (sem_met H.size hj hct hM)
      (cwV As.length hts (Tg_GoodIn (fun w h9 => by
        unfold wsV at h9
        rcases List.mem_append.mp h9 with h9 | h9
        · simp only [List.mem_cons, List.not_mem_nil, or_false] at h9
          rcases h9 with rfl | rfl | rfl | rfl
          · exact lkB_in q2
          · exact hin
          · exact hse
          · exact hj.2.2.1
        · rcases List.mem_cons.mp h9 with rfl | h9
          · exact hj.2.1
          · exact h9)) rfl rfl rfl ⟨rfl, hj.2.2.2.2.1, hj.2.2.2.2.2, pd_len q3 hn⟩ ⟨by show d + 3 + 1 ≤ d + 1 + 3; omega, by have := hj.2.2.2.1; show 8 + (mL j' + 11) + 200 * (d + 3) ≤ 200 * (d + 1 + 3); omega⟩)
      ⟨Ps_blind, hrecv, fun U hU hW => Ps_pre (As := .ref p0 :: As) C1 hA hP hS U hU hW⟩ rfl (by simp) hl.1 (rv_map ρ As st p0) (by show 2 * 0 + _ ≤ 8; rw [ct_tv]; unfold ct; omega) (dcB_eq q1) ⟨Nat.zero_le _, Nat.zero_le _⟩
    exact go_on hD hA hS hl hrun (fun r M' hq9 => k r M' hq9 p e s m args below meth cd A C1 hr hlk hA)
  · intro d j Q Qc pc lv st M As j' n ix h1 hn hct hcat hM k p e s m args below meth cd A C0 hr hlk hA H locs ls hP hS hl
    obtain ⟨n9, hn9⟩ := hok j pc _ h1
    obtain ⟨hj, hst⟩ := hSt j pc _ _ _ h1
    have C1 := C0
    obtain ⟨hx, hb, hml, hown, hts, hK, hD, hI, hN, hR⟩ := C0
    have hq : dcB j pc (.invokestatic ((ix : Int)).toNat, 3) = true ∧ lkB n9 (.methodLink (mY j).cls ((ix : Int)).toNat (mY j')) = true ∧ (parseMethodDescriptor (mY j').desc).map (fun d => d.parameters.length) = some ((n : Int)).toNat := by
      have h9 := hn9
      simp only [okB, Bool.and_eq_true, decide_eq_true_eq] at h9
      exact ⟨h9.1.1, h9.1.2, h9.2⟩
    obtain ⟨q1, q2, q3⟩ := hq
    have q3 : (parseMethodDescriptor (mY j').desc).map (fun d => d.parameters.length) = some n := q3
    have hstk : (As.reverse ++ st).map (tv ρ) = (As.map (tv ρ)).reverse ++ st.map (tv ρ) := by rw [List.map_append, List.map_reverse]
    have hrun := va_runS (l := l) (e := e) (below := below) (meth := meth) (locs := locs) (cells := 0) (slots := 0) (mc := 0) (ms := 0) (R := rmd (d + 1)) (g := F0 m pc ls ((As.reverse ++ st).map (tv ρ))) (As := As.map (tv ρ)) (rest := st.map (tv ρ)) (index := ((ix : Int)).toNat) ⟨hx, hb, hml, hown, hts⟩ (sem_met H.size hj hct hM)
      (va_cwS n hts (Tg_GoodIn (fun w h9 => by
        unfold va_wsS at h9
        rcases List.mem_append.mp h9 with h9 | h9
        · simp only [List.mem_cons, List.not_mem_nil, or_false] at h9
          rcases h9 with rfl | rfl | rfl
          · exact lkB_in q2
          · exact hst
          · exact hj.2.2.1
        · rcases List.mem_cons.mp h9 with rfl | h9
          · exact hj.2.1
          · exact h9)) rfl rfl rfl ⟨hj.2.2.2.2.1, hj.2.2.2.2.2, q3⟩ ⟨by show d + 3 + 1 ≤ d + 1 + 3; omega, by have := hj.2.2.2.1; show 8 + (mL j' + 11) + 200 * (d + 3) ≤ 200 * (d + 1 + 3); omega⟩)
      ⟨Ps_blind, fun U hU hW => Ps_pre (As := As) C1 hA hP hS U hU hW⟩ rfl (by simp [hn]) hl.1 hstk (by show 2 * 0 + _ ≤ 8; rw [ct_tv]; unfold ct; omega) (dcB_eq q1) ⟨Nat.zero_le _, Nat.zero_le _⟩
    exact go_on hD hA hS hl hrun (fun r M' hq9 => k r M' hq9 p e s m args below meth cd A C1 hr hlk hA)
  · intro d j Q pc lv M v h1 q p e s m args below meth cd A C0 hr hlk hA H locs ls hP hS hl
    obtain ⟨n9, hn9⟩ := hok j pc _ h1
    simp only [okB, Bool.and_eq_true, decide_eq_true_eq] at hn9
    exact W.iret (v := v) C0.1 C0.2.1 (hr.trans hn9.2) (fun t ht hW => ⟨⟨some (.int v), M, rfl, q, by rw [ht]; exact hP⟩, hS.F ht⟩) hS.2.2 (dcB_eq hn9.1) hlk
  · intro d j Q pc lv M v h1 hv q p e s m args below meth cd A C0 hr hlk hA H locs ls hP hS hl
    obtain ⟨n9, hn9⟩ := hok j pc _ h1
    simp only [okB, Bool.and_eq_true, decide_eq_true_eq] at hn9
    exact W.zret (v := v) C0.1 C0.2.1 (hr.trans hn9.2) (by rcases hv with h | h <;> (rw [h]; rfl)) (fun t ht hW => ⟨⟨some (.int v), M, rfl, q, by rw [ht]; exact hP⟩, hS.F ht⟩) hS.2.2 (dcB_eq hn9.1) hlk
  · intro d j Q pc lv M v h1 q p e s m args below meth cd A C0 hr hlk hA H locs ls hP hS hl
    obtain ⟨n9, hn9⟩ := hok j pc _ h1
    simp only [okB, Bool.and_eq_true, decide_eq_true_eq] at hn9
    exact W.lret (v := v) C0.1 C0.2.1 (hr.trans hn9.2) (fun t ht hW => ⟨⟨some (.long v), M, rfl, q, by rw [ht]; exact hP⟩, hS.F ht⟩) hS.2.2 (dcB_eq hn9.1) hlk
  · intro d j Q pc lv M v h1 q p e s m args below meth cd A C0 hr hlk hA H locs ls hP hS hl
    obtain ⟨n9, hn9⟩ := hok j pc _ h1
    simp only [okB, Bool.and_eq_true, decide_eq_true_eq] at hn9
    exact W.aret (v := .ref (ρ v)) C0.1 C0.2.1 (hr.trans hn9.2) (Or.inl ⟨_, rfl⟩) (Or.inr ⟨_, rfl⟩) (fun t ht hW => ⟨⟨some (.ref v), M, rfl, q, by rw [ht]; exact hP⟩, hS.F ht⟩) hS.2.2 (dcB_eq hn9.1) hlk
  · intro d j Q pc lv M h1 q p e s m args below meth cd A C0 hr hlk hA H locs ls hP hS hl
    obtain ⟨n9, hn9⟩ := hok j pc _ h1
    simp only [okB, Bool.and_eq_true, decide_eq_true_eq] at hn9
    exact W.vret C0.1 C0.2.1 (hr.trans hn9.2) (fun t ht hW => ⟨⟨none, M, rfl, q, by rw [ht]; exact hP⟩, hS.F ht⟩) hS.2.2 (dcB_eq hn9.1) hlk
  · intro d j Q pc lv lv' st M hsub k p e s m args below meth cd A C0 hr hlk hA H locs ls hP hS hl
    refine k p e s m args below meth cd A C0 hr hlk hA H locs ls hP hS ⟨hl.1, hl.2.1, fun q hq => ?_⟩
    obtain ⟨z, hz, rfl⟩ := List.mem_map.mp hq
    exact hl.2.2 _ (List.mem_map.mpr ⟨z, hsub z hz, rfl⟩)
