/-! Rows of frames that are walked by hand, over the world of the small machine. -/
def getB (own : String) (ix n9 ci k : Nat) : Bool := match cls[ci]? with
  | some C => decide (k < C.2.2) && flB n9 own ix (C.2.1 k)
  | none => false
def calB (own : String) (ix n9 j n k9 : Nat) : Bool := decide (j < 245) && decide ((mix.getD j (0, 0, 0, 0, 0)).2.2.1 = 1) && lkB n9 (.methodLink own ix (mY j)) && decide ((parseMethodDescriptor (mY j).desc).map (fun d => d.parameters.length) = some n) && decide ((cls[k9]?).map (fun q => q.1) = some (mY j).cls)
section LGR
variable {own : String} {cc : ByteArray} {nL : Nat} {p : Program} {l : Launch} {e : Env} {R : Room} {s : State} {m : MethodId} {args : Array Value} {below : List Frame} {meth : Method} {c : Code} {D : va_G} {tA : Nat → ClassId} {ρ : Nat → Nat} {A : Nat → Prop} {H : Heap} {locs : List Loc} {cells slots : Nat} {Qf : State → Prop} {ls : Array Slot} {pc : Nat} {M : Mm} {st : List Value}
theorem lg_get {pl ix n9 ci k : Nat} {q : Nat × Nat} (C0 : Lw own cc nL p s m args c D tA ρ A) (hP : va_P D cls (wl ρ tA M) H) (hB : getB own ix n9 ci k = true) (hsh : shp pl = (0, ci)) (hq : (fkl ci)[k]? = some q) (hd : decode cc pc = .ok (.getfield ix, 3))
    (kk : W p l e R s m args below meth c H locs cells slots Qf (F0 m (pc + 3) ls (fval ρ M pl k q :: st))) : W p l e R s m args below meth c H locs cells slots Qf (F0 m pc ls (.ref (ρ pl) :: st)) := by
  obtain ⟨hx, hb, hml, hown, hts, hK, hD, hI, hN, hA⟩ := C0
  unfold getB at hB
  split at hB
  · rename_i C hC
    simp only [Bool.and_eq_true, decide_eq_true_eq] at hB
    obtain ⟨h1, h2⟩ := hB
    obtain ⟨C, T, N⟩ := C
    have hv9 : (fvs ρ M pl ci)[k]? = some (fval ρ M pl k q) := by rw [fvs_get, hq]; rfl
    unfold flB at h2
    simp only [Bool.or_eq_true, decide_eq_true_eq] at h2
    rcases h2 with h2 | h2
    · exact va_get hx hb hts (Wds_ok.1 ci _ hC) hown hK hP pl (wl_get hsh (by decide)) hC k h1 (hts _ (lkB_in h2)) (fun _ h9 => h9) hv9 hd kk
    · exact va_getN hx hb hts (Wds_ok.1 ci _ hC) hown hK hP pl (wl_get hsh (by decide)) hC k h1 (hN _ _ _ _ _ _ (List.mem_of_getElem? h2)) (fun _ h9 => h9) hv9 hd kk
  · cases hB
theorem lg_iald {pl n k : Nat} {i : Int32} (C0 : Lw own cc nL p s m args c D tA ρ A) (hP : va_P D cls (wl ρ tA M) H) (hsh : shp pl = (1, n)) (hi : i = nI k) (hk : k < n) (h31 : n < 2 ^ 31) (hd : decode cc pc = .ok (.iaload, 1))
    (kk : W p l e R s m args below meth c H locs cells slots Qf (F0 m (pc + 1) ls (.int (M.1 pl k) :: st))) : W p l e R s m args below meth c H locs cells slots Qf (F0 m pc ls (.int i :: .ref (ρ pl) :: st)) := by
  obtain ⟨hx, hb, hml, hown, hts, hK, hD, hI, hN, hA⟩ := C0
  subst hi
  refine va_iald hx hb hK hP pl 0 (wl_get hsh (by decide)) rfl (vp_in_nI hk h31) hd ?_
  rw [nI_clamp (by omega)]
  exact kk
theorem lg_lald {pl n k : Nat} {i : Int32} (C0 : Lw own cc nL p s m args c D tA ρ A) (hP : va_P D cls (wl ρ tA M) H) (hsh : shp pl = (4, n)) (hi : i = nI k) (hk : k < n) (h31 : n < 2 ^ 31) (hd : decode cc pc = .ok (.laload, 1))
    (kk : W p l e R s m args below meth c H locs cells slots Qf (F0 m (pc + 1) ls (.long (M.2.1 pl k) :: st))) : W p l e R s m args below meth c H locs cells slots Qf (F0 m pc ls (.int i :: .ref (ρ pl) :: st)) := by
  obtain ⟨hx, hb, hml, hown, hts, hK, hD, hI, hN, hA⟩ := C0
  subst hi
  refine va_lald hx hb hK hP pl 3 (wl_get hsh (by decide)) rfl (vp_in_nI hk h31) hd ?_
  rw [nI_clamp (by omega)]
  exact kk
/-- a call that changes nothing and answers v -/
theorem lg_call {d p0 ix n9 j n k9 : Nat} {As : List Value} {stk : List Value} {v : Value} (C0 : Lw own cc nL p s m args c D tA ρ A) (hB : calB own ix n9 j n k9 = true) (hsh : shp p0 = (0, k9)) (hn : As.length = n) (hct : ct (.ref p0 :: As) ≤ mL j) (hcat : (st.map (fun v => v.category)).sum ≤ 8) (hR : d + 4 ≤ R.frames ∧ 8 + (mL j + 11) + 200 * (d + 3) ≤ R.locals) (hcs : cells ≤ R.cells ∧ slots ≤ R.slots) (hdec : decode cc pc = .ok (.invokevirtual ix, 3)) (hstk : stk = (As.map (tv ρ)).reverse ++ .ref (ρ p0) :: st) (hl : ls.size = nL)
    (hP : va_P D cls (wl ρ tA M) H) (hS : va_S A s.heap H locs) (hM : Wn d j (fun r M' => r = some v ∧ M' = M) (0, lv_args 0 (.ref p0 :: As), [], M))
    (k : ∀ (H1 : Heap) (locs1 : List Loc), va_P D cls (wl ρ tA M) H1 → va_S A s.heap H1 locs1 → Kp ρ H H1 → W p l e R s m args below meth c H1 locs1 cells slots Qf (F0 m (pc + 3) ls (tv ρ v :: st))) : W p l e R s m args below meth c H locs cells slots Qf (F0 m pc ls stk) := by
  simp only [calB, Bool.and_eq_true, decide_eq_true_eq] at hB
  obtain ⟨⟨⟨⟨b1, b2⟩, b3⟩, b4⟩, b5⟩ := hB
  refine law_call j ix n9 k9 C0 b1 b2 b3 (As := As) (by rw [hn]; exact b4) b5 hsh hct hcat hR hcs hdec hstk hl hP hS hM (fun r M' H1 locs1 hq hP1 hS1 hk => ?_)
  obtain ⟨rfl, rfl⟩ := hq
  exact k H1 locs1 hP1 hS1 hk
set_option maxHeartbeats 4000000 in
/-- a static call that changes nothing and answers v -/
theorem lg_callS {d ix n9 j n : Nat} {As : List Value} {stk : List Value} {v : Value} (C0 : Lw own cc nL p s m args c D tA ρ A) (hB : (decide (j < 245) && decide (¬ (mix.getD j (0, 0, 0, 0, 0)).2.2.1 = 1) && lkB n9 (.methodLink own ix (mY j)) && decide ((parseMethodDescriptor (mY j).desc).map (fun d => d.parameters.length) = some n)) = true) (hn : As.length = n) (hct : ct As ≤ mL j) (hcat : (st.map (fun v => v.category)).sum ≤ 8) (hR : d + 4 ≤ R.frames ∧ 8 + (mL j + 11) + 200 * (d + 3) ≤ R.locals) (hcs : cells ≤ R.cells ∧ slots ≤ R.slots) (hdec : decode cc pc = .ok (.invokestatic ix, 3)) (hstk : stk = (As.map (tv ρ)).reverse ++ st) (hl : ls.size = nL)
    (hP : va_P D cls (wl ρ tA M) H) (hS : va_S A s.heap H locs) (hM : Wn d j (fun r M' => r = some v ∧ M' = M) (0, lv_args 0 As, [], M))
    (k : ∀ (H1 : Heap) (locs1 : List Loc), va_P D cls (wl ρ tA M) H1 → va_S A s.heap H1 locs1 → Kp ρ H H1 → W p l e R s m args below meth c H1 locs1 cells slots Qf (F0 m (pc + 3) ls (tv ρ v :: st))) : W p l e R s m args below meth c H locs cells slots Qf (F0 m pc ls stk) := by
  simp only [Bool.and_eq_true, decide_eq_true_eq] at hB
  obtain ⟨⟨⟨b1, b2⟩, b3⟩, b4⟩ := hB
  have C1 := C0
  obtain ⟨hx, hb, hml, hown, hts, hK, hD, hI, hN, hA⟩ := C0
  obtain ⟨hj9, -, hst9⟩ := mok_sp j b1
  have hst := hst9 b2
  have hrun := va_runS (l := l) (e := e) (below := below) (meth := meth) (locs := locs) (cells := cells) (slots := slots) (mc := 0) (ms := 0) (R := R) (g := F0 m pc ls stk) (As := As.map (tv ρ)) (rest := st) (index := ix) ⟨hx, hb, hml, hown, hts⟩ (Wn_met H.size b1 hct hM)
    (va_cwS n hts (Tg_GoodIn (fun w h9 => by
      unfold va_wsS at h9
      rcases List.mem_append.mp h9 with h9 | h9
      · simp only [List.mem_cons, List.not_mem_nil, or_false] at h9
        rcases h9 with rfl | rfl | rfl
        · exact lkB_in b3
        · exact hst
        · exact hj9.2.2.1
      · rcases List.mem_cons.mp h9 with rfl | h9
        · exact hj9.2.1
        · exact h9)) rfl rfl rfl ⟨hj9.2.2.2.2.1, hj9.2.2.2.2.2, b4⟩ ⟨hR.1, hR.2⟩)
    ⟨Ps_blind, fun U hU hW => C1.pre (As := As) hP hS U hU hW⟩ rfl (by simp [hn]) hl hstk (by show 2 * 0 + _ ≤ 8; omega) hdec ⟨hcs.1, hcs.2⟩
  have hA1 : ∀ q, va_A (wl ρ tA M) H.size q → A q := by
    intro q hq
    rcases hq with ⟨k9, e9, hq⟩ | hq
    · exact (hD M).2 k9 (q, e9) hq
    · exact hA q (Nat.le_trans hS.1 hq)
  intro T hT X
  obtain ⟨v9, st₀, t, T', L, h0, X', hL, e1, e2, ⟨⟨r, M', hv, hQ, hP'⟩, hz, hk⟩, step⟩ := hrun T hT X
  obtain ⟨rfl, rfl⟩ := hQ
  cases hv
  rw [h0] at hz hk
  have hS' : va_S A s.heap T'.heap (locs ++ L) := by
    refine ⟨Nat.le_trans hS.1 (by rw [e1]; exact hz), fun q h1 h2 => ?_, fun q hq => ?_⟩
    · rw [e1, hk q (Nat.lt_of_lt_of_le h1 hS.1) (fun z => h2 (hA1 q z))]
      exact hS.2.1 q h1 h2
    · rcases List.mem_append.mp hq with h | h
      · exact hS.2.2 q h
      · exact hA1 _ (hL q h)
  obtain ⟨t2, a1, b1⟩ := k T'.heap (locs ++ L) (by rw [e1]; exact hP') hS' (by rw [e1]; exact Kp.of hz hk) T' rfl X'
  exact ⟨t2, step t2 a1, b1⟩
end LGR
