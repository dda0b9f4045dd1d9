/-! Rows over the ground of a frame. -/
def kgB (own : String) (ix n9 ci k : Nat) : Bool := match clx[ci]? with
  | some C => decide (k < C.2.2) && flB n9 own ix (C.2.1 k)
  | none => false
def ksF (own : String) (ix n9 ci k : Nat) (fin : Bool) : Bool := match clx[ci]? with
  | some C => decide (k < C.2.2) && lkB n9 (.fieldLink own ix (C.2.1 k).1 (C.2.1 k).2.1 (C.2.1 k).2.2.1) && decide ((C.2.1 k).2.2.2 = fin) && (!fin || decide ((C.2.1 k).1 = own))
  | none => false
def aty (t : Nat) : ArrayType := match t with
  | 0 => .int | 1 => .byte | 2 => .boolean | _ => .long
theorem nI_not_neg {n : Nat} (h : n < 2 ^ 31) : ¬ nI n < 0 := fun h9 => by
  rw [Int32.lt_iff_toInt_lt, nI_toInt h, show (0 : Int32).toInt = 0 from rfl] at h9
  omega
section KFR
variable {κ : Nat → Nat} {own : String} {cc : ByteArray} {nL : Nat} {p : Program} {l : Launch} {e : Env} {R : Room} {s : State} {m : MethodId} {args : Array Value} {below : List Frame} {meth : Method} {c : Code} {D : va_G} {tA : Nat → ClassId} {A : Nat → Prop} {H : Heap} {locs : List Loc} {cells slots mc ms : Nat} {Qf : State → Prop} {ls : Array Slot} {pc : Nat} {st rest : List Value} {ws : va_W} {Q : Option Value → va_W → Prop}
theorem k_get {a ci k ix : Nat} {fs : List Value} {v : Value} (C0 : Kf κ own cc nL p s m args c D tA A) (hP : va_P D clx ws H) (q0 n9 : Nat) (he : ws[q0]? = some (a, .inr (ci, fs))) (hB : kgB own ix n9 ci k = true) (hv : fs[k]? = some v) (hd : decode cc pc = .ok (.getfield ix, 3))
    (kk : W p l e R s m args below meth c H locs cells slots Qf (F0 m (pc + 3) ls (v :: rest))) : W p l e R s m args below meth c H locs cells slots Qf (F0 m pc ls (.ref a :: rest)) := by
  obtain ⟨hx, hb, hml, hown, hts, hK, hA, hI⟩ := C0
  unfold kgB at hB
  split at hB
  · rename_i C hC
    simp only [Bool.and_eq_true, decide_eq_true_eq] at hB
    obtain ⟨h1, h2⟩ := hB
    obtain ⟨C, T, N⟩ := C
    unfold flB at h2
    simp only [Bool.or_eq_true, decide_eq_true_eq] at h2
    rcases h2 with h2 | h2
    · exact va_get hx hb hts (clx_ok ci _ hC).1 hown hK hP q0 he hC k h1 (hts _ (lkB_in h2)) (fun _ h9 => h9) hv hd kk
    · exact va_getN hx hb hts (clx_ok ci _ hC).1 hown hK hP q0 he hC k h1 ((hI.2.2.1 _ _ _ _ _ _ (List.mem_of_getElem? h2)).use rfl) (fun _ h9 => h9) hv hd kk
  · cases hB
theorem k_put {a ci k ix : Nat} {fs : List Value} {v : Value} (C0 : Kf κ own cc nL p s m args c D tA A) (hP : va_P D clx ws H) (hD : va_D A ws) (hS : va_S A s.heap H locs) (q0 n9 : Nat) (he : ws[q0]? = some (a, .inr (ci, fs))) (hB : ksF own ix n9 ci k false = true) (hn : narrow (tyx ci k) v = v) (hfit : fits (tyx ci k) v = true) (hl : k < fs.length) (hd : decode cc pc = .ok (.putfield ix, 3))
    (kk : ∀ (H1 : Heap) (locs1 : List Loc), va_P D clx (ws.set q0 (a, .inr (ci, fs.set k v))) H1 → va_D A (ws.set q0 (a, .inr (ci, fs.set k v))) → va_S A s.heap H1 locs1 → W p l e R s m args below meth c H1 locs1 cells slots Qf (F0 m (pc + 3) ls rest)) : W p l e R s m args below meth c H locs cells slots Qf (F0 m pc ls (v :: .ref a :: rest)) := by
  obtain ⟨hx, hb, hml, hown, hts, hK, hA, hI⟩ := C0
  unfold ksF at hB
  split at hB
  · rename_i C hC
    simp only [Bool.and_eq_true, decide_eq_true_eq] at hB
    obtain ⟨⟨⟨h1, h2⟩, h3⟩, -⟩ := hB
    obtain ⟨C, T, N⟩ := C
    obtain ⟨g1, g2, g3⟩ := clx_ok ci _ hC
    exact va_put hx hb hts g1 (tyx ci) g2 g3 hown hK hP hD hS q0 he hC k h1 (hts _ (lkB_in h2)) (fun _ h9 => h9) h3 (g2 k h1) hn hfit hl hd kk
  · cases hB
theorem k_putF {a ci k ix : Nat} {fs : List Value} {v : Value} (C0 : Kf κ own cc nL p s m args c D tA A) (hin : meth.name = "<init>") (hP : va_P D clx ws H) (hD : va_D A ws) (hS : va_S A s.heap H locs) (q0 n9 : Nat) (he : ws[q0]? = some (a, .inr (ci, fs))) (hB : ksF own ix n9 ci k true = true) (hn : narrow (tyx ci k) v = v) (hfit : fits (tyx ci k) v = true) (hl : k < fs.length) (hd : decode cc pc = .ok (.putfield ix, 3))
    (kk : ∀ (H1 : Heap) (locs1 : List Loc), va_P D clx (ws.set q0 (a, .inr (ci, fs.set k v))) H1 → va_D A (ws.set q0 (a, .inr (ci, fs.set k v))) → va_S A s.heap H1 locs1 → W p l e R s m args below meth c H1 locs1 cells slots Qf (F0 m (pc + 3) ls rest)) : W p l e R s m args below meth c H locs cells slots Qf (F0 m pc ls (v :: .ref a :: rest)) := by
  obtain ⟨hx, hb, hml, hown, hts, hK, hA, hI⟩ := C0
  unfold ksF at hB
  split at hB
  · rename_i C hC
    simp only [Bool.and_eq_true, decide_eq_true_eq, Bool.or_eq_true, Bool.not_eq_true', Bool.true_eq_false, false_or] at hB
    obtain ⟨⟨⟨h1, h2⟩, h3⟩, h4⟩ := hB
    obtain ⟨C, T, N⟩ := C
    obtain ⟨g1, g2, g3⟩ := clx_ok ci _ hC
    exact va_putF hx hb hts g1 (tyx ci) g2 g3 hown hK hP hD hS q0 he hC k h1 (hts _ (lkB_in h2)) (fun _ h9 => h9) h3 hin h4 (g2 k h1) hn hfit hl hd kk
  · cases hB
theorem k_new {ci ix n1 n2 n3 : Nat} {fs : List Value} {q : vw_C} (C0 : Kf κ own cc nL p s m args c D tA A) (hP : va_P D clx ws H) (hD : va_D A ws) (hS : va_S A s.heap H locs) (hc : clx[ci]? = some q) (hB : (lkB n1 (.classLink own ix q.1) && lkB n2 (.instantiable q.1 q.2.2) && lkB n3 (.initialized q.1)) = true) (hfs : ∀ j, j < q.2.2 → defaultValue (tyx ci j) = vp_V fs j) (hcs : cells + 1 ≤ R.cells ∧ slots + q.2.2 ≤ R.slots) (hd : decode cc pc = .ok (.new ix, 3))
    (kk : ∀ (a : Nat) (H1 : Heap), va_P D clx (ws ++ [(a, .inr (ci, fs))]) H1 → va_D A (ws ++ [(a, .inr (ci, fs))]) → va_S A s.heap H1 locs → W p l e R s m args below meth c H1 locs (cells + 1) (slots + q.2.2) Qf (F0 m (pc + 3) ls (.ref a :: rest))) : W p l e R s m args below meth c H locs cells slots Qf (F0 m pc ls rest) := by
  obtain ⟨hx, hb, hml, hown, hts, hK, hA, hI⟩ := C0
  simp only [Bool.and_eq_true] at hB
  obtain ⟨⟨h1, h2⟩, h3⟩ := hB
  obtain ⟨C, T, N⟩ := q
  obtain ⟨g1, g2, g3⟩ := clx_ok ci _ hc
  exact va_new hx hb hts g1 (tyx ci) g2 hown (hts _ (lkB_in h1)) (hts _ (lkB_in h2)) (hts _ (lkB_in h3)) hK hP hD hS hA hc hfs hcs.1 hcs.2 hd kk
theorem k_cA {t : Nat} {cA : ClassId} {ty : FieldType} (hK : va_K D clx (tysL tA) s) (ht : (tysL tA)[t]? = some (tA t, ty)) (hK2 : va_K D clx (tysL tA ++ [(cA, ty)]) s) : cA = tA t := by
  have h1 := (hK.2 t _ ht).2
  have h2 := (hK2.2 7 (cA, ty) rfl).2
  unfold va_RA at h1 h2
  cases ty with
  | object C =>
    obtain ⟨-, -, -, -, -, g1⟩ := h1
    obtain ⟨-, -, -, -, -, g2⟩ := h2
    exact Option.some.inj (g2.symm.trans g1)
  | _ => exact Option.some.inj (h2.symm.trans h1)
theorem k_newi {N' : Nat} {n : Int32} (C0 : Kf κ own cc nL p s m args c D tA A) (hP : va_P D clx ws H) (hD : va_D A ws) (hS : va_S A s.heap H locs) (hB : lkB 220 (.arrayClass .int) = true) (hn : n = nI N') (hN : N' ≤ 10000) (hcs : cells + 1 ≤ R.cells ∧ slots + N' ≤ R.slots) (hd : decode cc pc = .ok (.newarray .int, 2))
    (kk : ∀ (a : Nat) (H1 : Heap), va_P D clx (ws ++ [(a, .inl (tA 0, N', .inl (fun _ => 0)))]) H1 → va_D A (ws ++ [(a, .inl (tA 0, N', .inl (fun _ => 0)))]) → va_S A s.heap H1 locs → W p l e R s m args below meth c H1 locs (cells + 1) (slots + N') Qf (F0 m (pc + 2) ls (.ref a :: rest))) : W p l e R s m args below meth c H locs cells slots Qf (F0 m pc ls (.int n :: rest)) := by
  obtain ⟨hx, hb, hml, hown, hts, hK, hA, hI⟩ := C0
  subst hn
  refine va_newa (atype := .int) (N' := N') (ty := .int) hx hb (hts _ (lkB_in hB)) rfl hK hP hD hS hA (a0 := (N', .inl (fun _ => 0))) (fun cA => rfl) (nI_not_neg (by omega)) (nI_clamp (by omega)) (by show N' * 4 ≤ _; omega) hcs.1 hcs.2 hd (fun a cA H1 hK2 hP1 hD1 hS1 => ?_)
  have e9 := k_cA (t := 0) hK rfl hK2
  subst e9
  exact kk a H1 hP1 hD1 hS1
theorem k_newb {N' : Nat} {n : Int32} (C0 : Kf κ own cc nL p s m args c D tA A) (hP : va_P D clx ws H) (hD : va_D A ws) (hS : va_S A s.heap H locs) (hB : lkB 522 (.arrayClass .byte) = true) (hn : n = nI N') (hN : N' ≤ 10000) (hcs : cells + 1 ≤ R.cells ∧ slots + N' ≤ R.slots) (hd : decode cc pc = .ok (.newarray .byte, 2))
    (kk : ∀ (a : Nat) (H1 : Heap), va_P D clx (ws ++ [(a, .inl (tA 1, N', .inl (fun _ => 0)))]) H1 → va_D A (ws ++ [(a, .inl (tA 1, N', .inl (fun _ => 0)))]) → va_S A s.heap H1 locs → W p l e R s m args below meth c H1 locs (cells + 1) (slots + N') Qf (F0 m (pc + 2) ls (.ref a :: rest))) : W p l e R s m args below meth c H locs cells slots Qf (F0 m pc ls (.int n :: rest)) := by
  obtain ⟨hx, hb, hml, hown, hts, hK, hA, hI⟩ := C0
  subst hn
  refine va_newa (atype := .byte) (N' := N') (ty := .byte) hx hb (hts _ (lkB_in hB)) rfl hK hP hD hS hA (a0 := (N', .inl (fun _ => 0))) (fun cA => rfl) (nI_not_neg (by omega)) (nI_clamp (by omega)) (by show N' * 1 ≤ _; omega) hcs.1 hcs.2 hd (fun a cA H1 hK2 hP1 hD1 hS1 => ?_)
  have e9 := k_cA (t := 1) hK rfl hK2
  subst e9
  exact kk a H1 hP1 hD1 hS1
theorem k_newz {N' : Nat} {n : Int32} (C0 : Kf κ own cc nL p s m args c D tA A) (hP : va_P D clx ws H) (hD : va_D A ws) (hS : va_S A s.heap H locs) (hB : lkB 360 (.arrayClass .boolean) = true) (hn : n = nI N') (hN : N' ≤ 10000) (hcs : cells + 1 ≤ R.cells ∧ slots + N' ≤ R.slots) (hd : decode cc pc = .ok (.newarray .boolean, 2))
    (kk : ∀ (a : Nat) (H1 : Heap), va_P D clx (ws ++ [(a, .inl (tA 2, N', .inl (fun _ => 0)))]) H1 → va_D A (ws ++ [(a, .inl (tA 2, N', .inl (fun _ => 0)))]) → va_S A s.heap H1 locs → W p l e R s m args below meth c H1 locs (cells + 1) (slots + N') Qf (F0 m (pc + 2) ls (.ref a :: rest))) : W p l e R s m args below meth c H locs cells slots Qf (F0 m pc ls (.int n :: rest)) := by
  obtain ⟨hx, hb, hml, hown, hts, hK, hA, hI⟩ := C0
  subst hn
  refine va_newa (atype := .boolean) (N' := N') (ty := .boolean) hx hb (hts _ (lkB_in hB)) rfl hK hP hD hS hA (a0 := (N', .inl (fun _ => 0))) (fun cA => rfl) (nI_not_neg (by omega)) (nI_clamp (by omega)) (by show N' * 1 ≤ _; omega) hcs.1 hcs.2 hd (fun a cA H1 hK2 hP1 hD1 hS1 => ?_)
  have e9 := k_cA (t := 2) hK rfl hK2
  subst e9
  exact kk a H1 hP1 hD1 hS1
theorem k_newl {N' : Nat} {n : Int32} (C0 : Kf κ own cc nL p s m args c D tA A) (hP : va_P D clx ws H) (hD : va_D A ws) (hS : va_S A s.heap H locs) (hB : lkB 221 (.arrayClass .long) = true) (hn : n = nI N') (hN : N' ≤ 10000) (hcs : cells + 1 ≤ R.cells ∧ slots + N' ≤ R.slots) (hd : decode cc pc = .ok (.newarray .long, 2))
    (kk : ∀ (a : Nat) (H1 : Heap), va_P D clx (ws ++ [(a, .inl (tA 3, N', .inr (.inl (fun _ => 0))))]) H1 → va_D A (ws ++ [(a, .inl (tA 3, N', .inr (.inl (fun _ => 0))))]) → va_S A s.heap H1 locs → W p l e R s m args below meth c H1 locs (cells + 1) (slots + N') Qf (F0 m (pc + 2) ls (.ref a :: rest))) : W p l e R s m args below meth c H locs cells slots Qf (F0 m pc ls (.int n :: rest)) := by
  obtain ⟨hx, hb, hml, hown, hts, hK, hA, hI⟩ := C0
  subst hn
  refine va_newa (atype := .long) (N' := N') (ty := .long) hx hb (hts _ (lkB_in hB)) rfl hK hP hD hS hA (a0 := (N', .inr (.inl (fun _ => 0)))) (fun cA => rfl) (nI_not_neg (by omega)) (nI_clamp (by omega)) (by show N' * 8 ≤ _; omega) hcs.1 hcs.2 hd (fun a cA H1 hK2 hP1 hD1 hS1 => ?_)
  have e9 := k_cA (t := 3) hK rfl hK2
  subst e9
  exact kk a H1 hP1 hD1 hS1
theorem k_newq {C : String} {N' t n1 ix : Nat} {n : Int32} (C0 : Kf κ own cc nL p s m args c D tA A) (hP : va_P D clx ws H) (hD : va_D A ws) (hS : va_S A s.heap H locs) (hB : lkB n1 (.classLink own ix C) = true) (hov : va_AO C s) (ht : (tysL tA)[t]? = some (tA t, .object C)) (hn : n = nI N') (hN : N' ≤ 10000) (hcs : cells + 1 ≤ R.cells ∧ slots + N' ≤ R.slots) (hd : decode cc pc = .ok (.anewarray ix, 3))
    (kk : ∀ (a : Nat) (H1 : Heap), va_P D clx (ws ++ [(a, .inl (tA t, N', .inr (.inr (.inr (.inr (fun _ => none))))))]) H1 → va_D A (ws ++ [(a, .inl (tA t, N', .inr (.inr (.inr (.inr (fun _ => none))))))]) → va_S A s.heap H1 locs → W p l e R s m args below meth c H1 locs (cells + 1) (slots + N') Qf (F0 m (pc + 3) ls (.ref a :: rest))) : W p l e R s m args below meth c H locs cells slots Qf (F0 m pc ls (.int n :: rest)) := by
  obtain ⟨hx, hb, hml, hown, hts, hK, hA, hI⟩ := C0
  subst hn
  refine va_newq (C := C) (N' := N') hx hb hown (hts _ (lkB_in hB)) hov hK hP hD hS hA (nI_not_neg (by omega)) (nI_clamp (by omega)) (by omega) hcs.1 hcs.2 hd (fun a cA H1 hK2 hP1 hD1 hS1 => ?_)
  have e9 := k_cA (t := t) hK ht hK2
  subst e9
  exact kk a H1 hP1 hD1 hS1
/-- Object.<init> -/
theorem k_obj {ix n1 a : Nat} (C0 : Kf κ own cc nL p s m args c D tA A) (hB : lkB n1 (.methodLink own ix Lib.objectInit) = true) (hl : ls.size = nL) (hr : 1 ≤ R.frames ∧ (rest.map fun v => v.category).sum + 12 ≤ R.locals) (hd : decode cc pc = .ok (.invokespecial ix, 3))
    (kk : W p l e R s m args below meth c H locs cells slots Qf (F0 m (pc + 3) ls rest)) : W p l e R s m args below meth c H locs cells slots Qf (F0 m pc ls (.ref a :: rest)) := by
  obtain ⟨hx, hb, hml, hown, hts, hK, hA, hI⟩ := C0
  refine W.objInit hx hb hown (hts _ (lkB_in hB)) (hts _ (lkB_in (n := 141) (by decide +kernel))) (hts _ (lkB_in (n := 142) (by decide +kernel))) rfl (by rw [hml]; exact hl) rfl hd hr.1 (by show 2 * 0 + _ + 12 ≤ _; omega) ?_
  exact W.eq (g2 := F0 m (pc + 3) ls rest) rfl kk
theorem k_vret {d : Nat} (C0 : Kf κ own cc nL p s m args c D tA A) (hr : meth.sig.returnType = none) (hlocks : meth.locks = false) (hP : va_P D clx ws H) (hD : va_D A ws) (hS : va_S A s.heap H locs) (hq : Q none ws) (hc : cells ≤ mc ∧ slots ≤ ms) (hd : decode cc pc = .ok (.return_, 1)) : W p l e (rmc d mc ms) s m args below meth c H locs cells slots (Ke D Q A below args s mc ms) (F0 m pc ls []) :=
  W.widen hc.1 hc.2 (W.vret C0.1 C0.2.1 hr (fun t ht hW => ⟨⟨none, ws, rfl, hq, by rw [ht]; exact hP, hD⟩, hS.F ht⟩) hS.2.2 hd)
theorem k_iret {d : Nat} {v : Int32} (C0 : Kf κ own cc nL p s m args c D tA A) (hr : meth.sig.returnType = some .int) (hlocks : meth.locks = false) (hP : va_P D clx ws H) (hD : va_D A ws) (hS : va_S A s.heap H locs) (hq : Q (some (.int v)) ws) (hc : cells ≤ mc ∧ slots ≤ ms) (hd : decode cc pc = .ok (.ireturn, 1)) : W p l e (rmc d mc ms) s m args below meth c H locs cells slots (Ke D Q A below args s mc ms) (F0 m pc ls [.int v]) :=
  W.widen hc.1 hc.2 (W.iret C0.1 C0.2.1 hr (fun t ht hW => ⟨⟨some (.int v), ws, rfl, hq, by rw [ht]; exact hP, hD⟩, hS.F ht⟩) hS.2.2 hd)
theorem k_zret {d : Nat} {v : Int32} {ty : FieldType} (C0 : Kf κ own cc nL p s m args c D tA A) (hr : meth.sig.returnType = some ty) (hn : narrow ty (.int v) = .int v) (hlocks : meth.locks = false) (hP : va_P D clx ws H) (hD : va_D A ws) (hS : va_S A s.heap H locs) (hq : Q (some (.int v)) ws) (hc : cells ≤ mc ∧ slots ≤ ms) (hd : decode cc pc = .ok (.ireturn, 1)) : W p l e (rmc d mc ms) s m args below meth c H locs cells slots (Ke D Q A below args s mc ms) (F0 m pc ls [.int v]) :=
  W.widen hc.1 hc.2 (W.zret C0.1 C0.2.1 hr hn (fun t ht hW => ⟨⟨some (.int v), ws, rfl, hq, by rw [ht]; exact hP, hD⟩, hS.F ht⟩) hS.2.2 hd)
theorem k_aret {d a : Nat} {ty : FieldType} (C0 : Kf κ own cc nL p s m args c D tA A) (hr : meth.sig.returnType = some ty) (hty : (∃ n, ty = .object n) ∨ ∃ t, ty = .array t) (hlocks : meth.locks = false) (hP : va_P D clx ws H) (hD : va_D A ws) (hS : va_S A s.heap H locs) (hq : Q (some (.ref a)) ws) (hc : cells ≤ mc ∧ slots ≤ ms) (hd : decode cc pc = .ok (.areturn, 1)) : W p l e (rmc d mc ms) s m args below meth c H locs cells slots (Ke D Q A below args s mc ms) (F0 m pc ls [.ref a]) :=
  W.widen hc.1 hc.2 (W.aret C0.1 C0.2.1 hr hty (Or.inr ⟨a, rfl⟩) (fun t ht hW => ⟨⟨some (.ref a), ws, rfl, hq, by rw [ht]; exact hP, hD⟩, hS.F ht⟩) hS.2.2 hd)
end KFR
section KFK
variable {κ : Nat → Nat} {own : String} {cc : ByteArray} {nL : Nat} {p : Program} {l : Launch} {e : Env} {R : Room} {s : State} {m : MethodId} {args : Array Value} {below : List Frame} {meth : Method} {c : Code} {D : va_G} {tA : Nat → ClassId} {A : Nat → Prop} {H : Heap} {locs : List Loc} {cells slots mc ms : Nat} {Qf : State → Prop} {ls : Array Slot} {pc : Nat} {st rest : List Value} {ws : va_W} {Q : Option Value → va_W → Prop}
theorem isSt_0 : isSt 100000 := Or.inl ⟨Nat.le_of_ble_eq_true rfl, Nat.le_of_ble_eq_true rfl⟩
/-- getstatic Kind.END -/
theorem k_end {ix n1 : Nat} (C0 : Kf κ own cc nL p s m args c D tA A) (hS : va_S A s.heap H locs) (hB : lkB n1 (.fieldLink own ix "IceManners$Kind" "END" "LIceManners$Kind;") = true) (hd : decode cc pc = .ok (.getstatic ix, 3))
    (kk : W p l e R s m args below meth c H locs cells slots Qf (F0 m (pc + 3) ls (.ref (κ 100000) :: rest))) : W p l e R s m args below meth c H locs cells slots Qf (F0 m pc ls rest) := by
  obtain ⟨hx, hb, hml, hown, hts, hK, hA, hI⟩ := C0
  exact va_gets hx hb (hI.1.z isSt_0) hS hown (hts _ (lkB_in hB)) (fun _ h9 => h9) hd kk
/-- an enum's constant into a row -/
theorem k_aast {a n t0 : Nat} {f : Nat → Option Nat} {i : Int32} (C0 : Kf κ own cc nL p s m args c D tA A) (hP : va_P D clx ws H) (hD : va_D A ws) (hS : va_S A s.heap H locs) (q0 : Nat) (ha : ws[q0]? = some (a, .inl (tA 4, n, .inr (.inr (.inr (.inr f)))))) (hin : vp_in i n) (hd : decode cc pc = .ok (.aastore, 1))
    (kk : ∀ (H1 : Heap) (locs1 : List Loc), va_P D clx (ws.set q0 (a, .inl (tA 4, n, .inr (.inr (.inr (.inr (va_up f i.toNatClampNeg (some (κ 100000))))))))) H1 → va_D A (ws.set q0 (a, .inl (tA 4, n, .inr (.inr (.inr (.inr (va_up f i.toNatClampNeg (some (κ 100000))))))))) → va_S A s.heap H1 locs1 → W p l e R s m args below meth c H1 locs1 cells slots Qf (F0 m (pc + 1) ls rest)) : W p l e R s m args below meth c H locs cells slots Qf (F0 m pc ls (.ref (κ 100000) :: .int i :: .ref a :: rest)) := by
  obtain ⟨hx, hb, hml, hown, hts, hK, hA, hI⟩ := C0
  exact va_astqM hx hb hK hP hD hS q0 4 ha rfl (va_O_any (hI.1.1.1 0 (by decide)).2.1 hS) hin hd kk
/-- an object of the world into a row -/
theorem k_oast {a n t0 v ci : Nat} {vs : List Value} {f : Nat → Option Nat} {i : Int32} {r : vw_C} (C0 : Kf κ own cc nL p s m args c D tA A) (hP : va_P D clx ws H) (hD : va_D A ws) (hS : va_S A s.heap H locs) (q0 qk : Nat) (ha : ws[q0]? = some (a, .inl (tA t0, n, .inr (.inr (.inr (.inr f)))))) (ht : (tysL tA)[t0]? = some (tA t0, .object r.1)) (hv : ws[qk]? = some (v, .inr (ci, vs))) (hc : clx[ci]? = some r) (hin : vp_in i n) (hd : decode cc pc = .ok (.aastore, 1))
    (kk : ∀ (H1 : Heap) (locs1 : List Loc), va_P D clx (ws.set q0 (a, .inl (tA t0, n, .inr (.inr (.inr (.inr (va_up f i.toNatClampNeg (some v)))))))) H1 → va_D A (ws.set q0 (a, .inl (tA t0, n, .inr (.inr (.inr (.inr (va_up f i.toNatClampNeg (some v)))))))) → va_S A s.heap H1 locs1 → W p l e R s m args below meth c H1 locs1 cells slots Qf (F0 m (pc + 1) ls rest)) : W p l e R s m args below meth c H locs cells slots Qf (F0 m pc ls (.ref v :: .int i :: .ref a :: rest)) := by
  obtain ⟨hx, hb, hml, hown, hts, hK, hA, hI⟩ := C0
  exact va_astq hx hb hK hP hD hS q0 t0 qk ci ha ht hv hc hin hd kk
theorem k_iast {a n : Nat} {f : Nat → Int32} {i x : Int32} (C0 : Kf κ own cc nL p s m args c D tA A) (hP : va_P D clx ws H) (hD : va_D A ws) (hS : va_S A s.heap H locs) (q0 : Nat) (ha : ws[q0]? = some (a, .inl (tA 0, n, .inl f))) (hin : vp_in i n) (hd : decode cc pc = .ok (.iastore, 1))
    (kk : ∀ (H1 : Heap) (locs1 : List Loc), va_P D clx (ws.set q0 (a, .inl (tA 0, n, .inl (upd f i.toNatClampNeg x)))) H1 → va_D A (ws.set q0 (a, .inl (tA 0, n, .inl (upd f i.toNatClampNeg x)))) → va_S A s.heap H1 locs1 → W p l e R s m args below meth c H1 locs1 cells slots Qf (F0 m (pc + 1) ls rest)) : W p l e R s m args below meth c H locs cells slots Qf (F0 m pc ls (.int x :: .int i :: .ref a :: rest)) := by
  obtain ⟨hx, hb, hml, hown, hts, hK, hA, hI⟩ := C0
  exact va_iast hx hb hK hP hD hS q0 0 ha rfl hin hd kk
theorem k_alen {a n t0 : Nat} {x : (Nat → Int32) ⊕ (Nat → Int64) ⊕ (Nat → UInt32) ⊕ (Nat → UInt64) ⊕ (Nat → Option Nat)} {ty : FieldType} (C0 : Kf κ own cc nL p s m args c D tA A) (hP : va_P D clx ws H) (q0 : Nat) (ha : ws[q0]? = some (a, .inl (tA t0, n, x))) (ht : (tysL tA)[t0]? = some (tA t0, ty)) (hd : decode cc pc = .ok (.arraylength, 1))
    (kk : W p l e R s m args below meth c H locs cells slots Qf (F0 m (pc + 1) ls (.int (nI n) :: rest))) : W p l e R s m args below meth c H locs cells slots Qf (F0 m pc ls (.ref a :: rest)) := by
  obtain ⟨hx, hb, hml, hown, hts, hK, hA, hI⟩ := C0
  exact va_alen hx hb hK hP q0 t0 ha ht rfl hd kk
end KFK
