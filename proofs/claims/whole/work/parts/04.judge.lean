/-- who answers a call: an object of the class, or a constant -/
def rcv (p : Nat) : Int → Prop
  | .ofNat n => shp p = (0, n)
  | _ => isK p
/-- what the judgement is closed under: a row, a call of an object's method, a static call, the returns -/
def Cl (g : Nat → Nat → Po → Cf → Prop) : Prop :=
  (∀ (d j : Nat) (Q : Po) (c : Cf) (r : Rw) (c' : Cf) (o : List Prop), fdr (mtab j) c.1 = some r → stp shp r c = some (c', o) → allP o → g d j Q c' → g d j Q c) ∧
  (∀ (d j : Nat) (Q Qc : Po) (pc : Nat) (lv : Lv) (st : List Value) (M : Mm) (p : Nat) (As : List Value) (j' n ix : Nat) (ci : Int), fdr (mtab j) pc = some (90, (n : Int), j', [(ix : Int), ci]) → As.length + 1 = n → rcv p ci → ct (.ref p :: As) ≤ mL j' → (st.map (fun v => v.category)).sum ≤ 8 →
    g d j' Qc (0, lv_args 0 (.ref p :: As), [], M) → (∀ (r : Option Value) (M' : Mm), Qc r M' → g (d + 1) j Q (pc + 3, lv, r.toList ++ st, M')) → g (d + 1) j Q (pc, lv, As.reverse ++ .ref p :: st, M)) ∧
  (∀ (d j : Nat) (Q Qc : Po) (pc : Nat) (lv : Lv) (st : List Value) (M : Mm) (As : List Value) (j' n ix : Nat), fdr (mtab j) pc = some (91, (n : Int), j', [(ix : Int)]) → As.length = n → ct As ≤ mL j' → (st.map (fun v => v.category)).sum ≤ 8 →
    g d j' Qc (0, lv_args 0 As, [], M) → (∀ (r : Option Value) (M' : Mm), Qc r M' → g (d + 1) j Q (pc + 3, lv, r.toList ++ st, M')) → g (d + 1) j Q (pc, lv, As.reverse ++ st, M)) ∧
  (∀ (d j : Nat) (Q : Po) (pc : Nat) (lv : Lv) (M : Mm) (v : Int32), fdr (mtab j) pc = some (92, 0, 0, []) → Q (some (.int v)) M → g d j Q (pc, lv, [.int v], M)) ∧
  (∀ (d j : Nat) (Q : Po) (pc : Nat) (lv : Lv) (M : Mm) (v : Int32), fdr (mtab j) pc = some (93, 0, 0, []) → is01 v → Q (some (.int v)) M → g d j Q (pc, lv, [.int v], M)) ∧
  (∀ (d j : Nat) (Q : Po) (pc : Nat) (lv : Lv) (M : Mm) (v : Int64), fdr (mtab j) pc = some (94, 0, 0, []) → Q (some (.long v)) M → g d j Q (pc, lv, [.long v], M)) ∧
  (∀ (d j : Nat) (Q : Po) (pc : Nat) (lv : Lv) (M : Mm) (v : Nat), fdr (mtab j) pc = some (95, 0, 0, []) → Q (some (.ref v)) M → g d j Q (pc, lv, [.ref v], M)) ∧
  (∀ (d j : Nat) (Q : Po) (pc : Nat) (lv : Lv) (M : Mm), fdr (mtab j) pc = some (96, 0, 0, []) → Q none M → g d j Q (pc, lv, [], M)) ∧
  (∀ (d j : Nat) (Q : Po) (pc : Nat) (lv lv' : Lv) (st : List Value) (M : Mm), (∀ q ∈ lv', q ∈ lv) → g d j Q (pc, lv', st, M) → g d j Q (pc, lv, st, M))
/-- from c method j, at most d calls deep, comes to its end, and Q holds of its answer and the memory -/
def Wn (d j : Nat) (Q : Po) (c : Cf) : Prop := ∀ g : Nat → Nat → Po → Cf → Prop, Cl g → g d j Q c
theorem Wn.run1 {d j : Nat} {Q : Po} {c c' : Cf} {r : Rw} {o : List Prop} (h1 : fdr (mtab j) c.1 = some r) (h2 : stp shp r c = some (c', o)) (ho : allP o) (k : Wn d j Q c') : Wn d j Q c := fun g hg => hg.1 d j Q c r c' o h1 h2 ho (k g hg)
theorem Wn.run {d j : Nat} {Q : Po} {tab : List (Nat × Rw)} (ht : mtab j = tab) : ∀ (n : Nat) {c c' : Cf} {o : List Prop}, stpn shp tab n c = some (c', o) → allP o → Wn d j Q c' → Wn d j Q c := by
  intro n
  induction n with
  | zero =>
    intro c c' o h ho k
    cases h
    exact k
  | succ n ih =>
    intro c c' o h ho k
    unfold stpn at h
    split at h
    · cases h
    · rename_i r hr
      split at h
      · cases h
      · rename_i c1 o1 h1
        split at h
        · cases h
        · rename_i c2 o2 h2
          cases h
          have hh := allP_app _ _ ho
          exact Wn.run1 (by rw [ht]; exact hr) h1 hh.1 (ih h2 hh.2 k)
theorem Wn.callV {d j : Nat} {Q : Po} (Qc : Po) {pc : Nat} {lv : Lv} {M : Mm} {p : Nat} (As st : List Value) {j' n ix : Nat} {ci : Int} {stk : List Value} (hs : stk = As.reverse ++ .ref p :: st) (h : fdr (mtab j) pc = some (90, (n : Int), j', [(ix : Int), ci])) (hn : As.length + 1 = n) (hp : rcv p ci) (hm : ct (.ref p :: As) ≤ mL j') (hc : (st.map (fun v => v.category)).sum ≤ 8)
    (hM : Wn d j' Qc (0, lv_args 0 (.ref p :: As), [], M)) (k : ∀ (r : Option Value) (M' : Mm), Qc r M' → Wn (d + 1) j Q (pc + 3, lv, r.toList ++ st, M')) : Wn (d + 1) j Q (pc, lv, stk, M) := by
  subst hs
  exact fun g hg => hg.2.1 d j Q Qc pc lv st M p As j' n ix ci h hn hp hm hc (hM g hg) (fun r M' hq => k r M' hq g hg)
theorem Wn.callS {d j : Nat} {Q : Po} (Qc : Po) {pc : Nat} {lv : Lv} {M : Mm} (As st : List Value) {j' n ix : Nat} {stk : List Value} (hs : stk = As.reverse ++ st) (h : fdr (mtab j) pc = some (91, (n : Int), j', [(ix : Int)])) (hn : As.length = n) (hm : ct As ≤ mL j') (hc : (st.map (fun v => v.category)).sum ≤ 8)
    (hM : Wn d j' Qc (0, lv_args 0 As, [], M)) (k : ∀ (r : Option Value) (M' : Mm), Qc r M' → Wn (d + 1) j Q (pc + 3, lv, r.toList ++ st, M')) : Wn (d + 1) j Q (pc, lv, stk, M) := by
  subst hs
  exact fun g hg => hg.2.2.1 d j Q Qc pc lv st M As j' n ix h hn hm hc (hM g hg) (fun r M' hq => k r M' hq g hg)
theorem Wn.iret {d j : Nat} {Q : Po} {pc : Nat} {lv : Lv} {M : Mm} {v : Int32} (h : fdr (mtab j) pc = some (92, 0, 0, [])) (q : Q (some (.int v)) M) : Wn d j Q (pc, lv, [.int v], M) := fun g hg => hg.2.2.2.1 d j Q pc lv M v h q
theorem Wn.zret {d j : Nat} {Q : Po} {pc : Nat} {lv : Lv} {M : Mm} {v : Int32} (h : fdr (mtab j) pc = some (93, 0, 0, [])) (hv : is01 v) (q : Q (some (.int v)) M) : Wn d j Q (pc, lv, [.int v], M) := fun g hg => hg.2.2.2.2.1 d j Q pc lv M v h hv q
theorem Wn.lret {d j : Nat} {Q : Po} {pc : Nat} {lv : Lv} {M : Mm} {v : Int64} (h : fdr (mtab j) pc = some (94, 0, 0, [])) (q : Q (some (.long v)) M) : Wn d j Q (pc, lv, [.long v], M) := fun g hg => hg.2.2.2.2.2.1 d j Q pc lv M v h q
theorem Wn.aret {d j : Nat} {Q : Po} {pc : Nat} {lv : Lv} {M : Mm} {v : Nat} (h : fdr (mtab j) pc = some (95, 0, 0, [])) (q : Q (some (.ref v)) M) : Wn d j Q (pc, lv, [.ref v], M) := fun g hg => hg.2.2.2.2.2.2.1 d j Q pc lv M v h q
theorem Wn.vret {d j : Nat} {Q : Po} {pc : Nat} {lv : Lv} {M : Mm} (h : fdr (mtab j) pc = some (96, 0, 0, [])) (q : Q none M) : Wn d j Q (pc, lv, [], M) := fun g hg => hg.2.2.2.2.2.2.2.1 d j Q pc lv M h q
theorem Wn.lvp {d j : Nat} {Q : Po} {pc : Nat} {lv lv' : Lv} {st : List Value} {M : Mm} (is : List Nat) (h : is.filterMap (fun i => lv[i]?) = lv') (k : Wn d j Q (pc, lv', st, M)) : Wn d j Q (pc, lv, st, M) := fun g hg => hg.2.2.2.2.2.2.2.2 d j Q pc lv lv' st M (fun q hq => by
  rw [← h] at hq
  obtain ⟨i, -, hi⟩ := List.mem_filterMap.mp hq
  exact List.mem_of_getElem? hi) (k g hg)
theorem Wn.br {d j : Nat} {Q : Po} {P : Prop} {iP : Decidable P} {a b : Nat} {lv : Lv} {st : List Value} {M : Mm} (ht : P → Wn d j Q (a, lv, st, M)) (hf : ¬ P → Wn d j Q (b, lv, st, M)) : Wn d j Q (if P then a else b, lv, st, M) := by
  by_cases h : P
  · rw [if_pos h]; exact ht h
  · rw [if_neg h]; exact hf h
/-- a contract: for all deeper calls too, and for every weaker end -/
theorem Wn.mono {d j : Nat} {Q Q' : Po} {c : Cf} (h : Wn d j Q c) (hq : ∀ r M, Q r M → Q' r M) : Wn d j Q' c := by
  intro g hg
  refine h (fun d j Q c => ∀ Q' : Po, (∀ r M, Q r M → Q' r M) → g d j Q' c) ⟨?_, ?_, ?_, ?_, ?_, ?_, ?_, ?_, ?_⟩ Q' hq
  · intro d j Q c r c' o h1 h2 ho k Q' hq
    exact hg.1 d j Q' c r c' o h1 h2 ho (k Q' hq)
  · intro d j Q Qc pc lv st M p As j' n ix ci h hn hp hm hc hM k Q' hq
    exact hg.2.1 d j Q' Qc pc lv st M p As j' n ix ci h hn hp hm hc (hM Qc (fun _ _ h => h)) (fun r M' h9 => k r M' h9 Q' hq)
  · intro d j Q Qc pc lv st M As j' n ix h hn hm hc hM k Q' hq
    exact hg.2.2.1 d j Q' Qc pc lv st M As j' n ix h hn hm hc (hM Qc (fun _ _ h => h)) (fun r M' h9 => k r M' h9 Q' hq)
  · exact fun d j Q pc lv M v h q Q' hq => hg.2.2.2.1 d j Q' pc lv M v h (hq _ _ q)
  · exact fun d j Q pc lv M v h hv q Q' hq => hg.2.2.2.2.1 d j Q' pc lv M v h hv (hq _ _ q)
  · exact fun d j Q pc lv M v h q Q' hq => hg.2.2.2.2.2.1 d j Q' pc lv M v h (hq _ _ q)
  · exact fun d j Q pc lv M v h q Q' hq => hg.2.2.2.2.2.2.1 d j Q' pc lv M v h (hq _ _ q)
  · exact fun d j Q pc lv M h q Q' hq => hg.2.2.2.2.2.2.2.1 d j Q' pc lv M h (hq _ _ q)
  · exact fun d j Q pc lv lv' st M h k Q' hq => hg.2.2.2.2.2.2.2.2 d j Q' pc lv lv' st M h (k Q' hq)
theorem Wn.up {d j : Nat} {Q : Po} {c : Cf} (k : Nat) (h : Wn d j Q c) : Wn (d + k) j Q c := by
  intro g hg
  refine h (fun d j Q c => g (d + k) j Q c) ⟨?_, ?_, ?_, ?_, ?_, ?_, ?_, ?_, ?_⟩
  · exact fun d j Q c r c' o h1 h2 ho k9 => hg.1 _ j Q c r c' o h1 h2 ho k9
  · intro d j Q Qc pc lv st M p As j' n ix ci h hn hp hm hc hM k9
    have e : d + 1 + k = d + k + 1 := by omega
    show g (d + 1 + k) j Q _
    rw [e]
    refine hg.2.1 (d + k) j Q Qc pc lv st M p As j' n ix ci h hn hp hm hc hM (fun r M' h9 => ?_)
    have := k9 r M' h9
    rw [← e]; exact this
  · intro d j Q Qc pc lv st M As j' n ix h hn hm hc hM k9
    have e : d + 1 + k = d + k + 1 := by omega
    show g (d + 1 + k) j Q _
    rw [e]
    refine hg.2.2.1 (d + k) j Q Qc pc lv st M As j' n ix h hn hm hc hM (fun r M' h9 => ?_)
    have := k9 r M' h9
    rw [← e]; exact this
  · exact fun d j Q pc lv M v h q => hg.2.2.2.1 _ j Q pc lv M v h q
  · exact fun d j Q pc lv M v h hv q => hg.2.2.2.2.1 _ j Q pc lv M v h hv q
  · exact fun d j Q pc lv M v h q => hg.2.2.2.2.2.1 _ j Q pc lv M v h q
  · exact fun d j Q pc lv M v h q => hg.2.2.2.2.2.2.1 _ j Q pc lv M v h q
  · exact fun d j Q pc lv M h q => hg.2.2.2.2.2.2.2.1 _ j Q pc lv M h q
  · exact fun d j Q pc lv lv' st M h k9 => hg.2.2.2.2.2.2.2.2 _ j Q pc lv lv' st M h k9
