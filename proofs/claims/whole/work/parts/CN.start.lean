/-! The law from its entry. Printed by wip/whole/pFG.py. -/
theorem va_D.rot {A : Nat → Prop} {w1 w2 w3 : va_W} (h : va_D A ((w1 ++ w2) ++ w3)) : va_D A (w2 ++ (w1 ++ w3)) := by
  refine va_D.mm h.lft.rgt (va_D.mm h.lft.lft h.rgt (fun x hx y hy => h.apm x (List.mem_append.mpr (Or.inl hx)) y hy)) (fun x hx y hy => ?_)
  rcases List.mem_append.mp hy with hy | hy
  · exact fun e => h.lft.apm y hy x hx e.symm
  · exact h.apm x (List.mem_append.mpr (Or.inr hx)) y hy
section KIA
variable {κ : Nat → Nat} {own : String} {cc : ByteArray} {nL : Nat} {p : Program} {l : Launch} {e : Env} {R : Room} {s : State} {m : MethodId} {args : Array Value} {below : List Frame} {meth : Method} {c : Code} {D : va_G} {tA : Nat → ClassId} {A : Nat → Prop} {H : Heap} {locs : List Loc} {cells slots mc ms : Nat} {Qf : State → Prop} {ls : Array Slot} {pc : Nat} {st rest : List Value} {wc wr : va_W} {Q : Option Value → va_W → Prop}
theorem k_callIA {y : MethodName} {cc' : ByteArray} {nL' d n ix n1 n2 n4 n5 b : Nat} {As : List Value} (C0 : Kf κ own cc nL p s m args c D tA A) (hM : Ct l κ D tA y cc' nL' none d mc ms (.ref b :: As) wc Q) (hB : kiB own ix y cc' nL' n n1 n2 n4 n5 = true)
    (hP : va_P D clx (wr ++ wc) H) (hD : va_D A (wr ++ wc)) (hS : va_S A s.heap H locs)
    (hl : ls.size = nL) (hlen : As.length = n) (hcat : (rest.map (fun v => v.category)).sum ≤ 8) (hro : d + 1 ≤ R.frames ∧ 200 * (d + 1) ≤ R.locals) (hcs : cells + mc ≤ R.cells ∧ slots + ms ≤ R.slots) (hdec : decode cc pc = .ok (.invokespecial ix, 3)) (hstk : st = As.reverse ++ .ref b :: rest)
    (k : ∀ (r : Option Value) (w1 : va_W) (H1 : Heap) (locs1 : List Loc), Q r w1 → va_P D clx (wr ++ w1) H1 → va_D A (wr ++ w1) → va_S A s.heap H1 locs1 → W p l e R s m args below meth c H1 locs1 (cells + mc) (slots + ms) Qf (F0 m (pc + 3) ls (r.toList ++ rest))) :
    W p l e R s m args below meth c H locs cells slots Qf (F0 m pc ls st) :=
  k_callI C0 hM hB hP hD hS (List.range' wr.length wc.length) (List.range wr.length) (rng_mapB wr wc) (rng_mapA wr wc) (rng_ndB _ _) (rng_nd _) (fun i hi => by rw [List.mem_range] at hi; rw [List.mem_range'_1]; omega) hl hlen hcat hro hcs hdec hstk k
end KIA
set_option maxRecDepth 100000 in
theorem ld_start : (dcL 0 (.new 8, 3) && dcL 3 (.dup, 1) && dcL 4 (.invokespecial 19, 3) && dcL 7 (.astore_n 1, 1) && dcL 8 (.new 20, 3) && dcL 11 (.dup, 1) && dcL 12 (.invokespecial 22, 3) && dcL 15 (.astore_n 2, 1) && dcL 16 (.iconst 1, 1) && dcL 17 (.newarray .long, 2) && dcL 19 (.astore_n 3, 1) && dcL 20 (.iconst 0, 1) && dcL 21 (.istore 4, 2) && dcL 1271 (.iconst 1, 1) && dcL 1272 (.ireturn, 1)) = true := by decide +kernel
theorem fs_9 : ∀ j, j < 17 → defaultValue (tyx 9 j) = vp_V [.null, .int 0, .null, .null, .null, .null, .null, .null, .null, .null, .null, .null, .null, .null, .int 0, .int 0, .int 0] j := by decide +kernel
theorem fs_10 : ∀ j, j < 49 → defaultValue (tyx 10 j) = vp_V [.int 0, .null, .int 0, .int 0, .int 0, .int 0, .null, .null, .null, .null, .null, .int 0, .int 0, .int 0, .int 0, .int 0, .int 0, .long 0, .int 0, .int 0, .int 0, .long 0, .int 0, .null, .null, .int 0, .null, .null, .null, .null, .int 0, .int 0, .int 0, .null, .int 0, .int 0, .int 0, .null, .int 0, .null, .int 0, .int 0, .int 0, .int 0, .int 0, .null, .null, .null, .null] j := by decide +kernel
