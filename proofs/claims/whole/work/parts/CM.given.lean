/-! What is given at the start. Printed by wip/whole/pFG.py. -/
def gvL : List Cond := flatC (Jvm.Cond.and given_1 narrow_1)
def kEx : List Nat := [4, 8, 55, 52, 97, 339, 342, 345, 356, 336, 359, 362, 365, 368, 371, 374, 377, 380, 383, 386, 389, 330, 327, 333, 324, 351, 348, 392, 395, 398, 401, 404, 407, 410, 413, 416]
def kOr : List Nat := [5, 9, 56, 53, 98, 340, 343, 346, 357, 337, 360, 363, 366, 369, 372, 375, 378, 381, 384, 387, 390, 331, 328, 334, 325, 352, 349, 393, 396, 399, 402, 405, 408, 411, 414, 417]
def kCd : List Nat := [6, 10, 57, 54, 99, 341, 344, 347, 358, 338, 361, 364, 367, 370, 373, 376, 379, 382, 385, 388, 391, 332, 329, 335, 326, 353, 350, 394, 397, 400, 403, 406, 409, 412, 415, 418]
def kLs : List Nat := [304, 611, 620, 618, 719, 1377, 1379, 1381, 2167, 1370, 2168, 2169, 2170, 2171, 2172, 2173, 2174, 2175, 2176, 2177, 2178, 1293, 1290, 1295, 1282, 1386, 1384, 2179, 2180, 2181, 2182, 2183, 2184, 2185, 2186, 2187]
def kSt (i : Nat) : Term := .static "IceManners$Kind" (kNames.getD i "") "LIceManners$Kind;"
def rAl (n : Nat) (f : Nat → Bool) : Bool := (List.range n).all f
theorem rAl_h {n : Nat} {f : Nat → Bool} (h : rAl n f = true) (i : Nat) (hi : i < n) : f i = true := List.all_eq_true.mp h i (List.mem_range.mpr hi)
set_option maxRecDepth 100000 in
theorem gk_ex : rAl 36 (fun i => decide (gvL[kEx.getD i 0]? = some (.exactly (kSt i) "IceManners$Kind"))) = true := by decide +kernel
set_option maxRecDepth 100000 in
theorem gk_or : rAl 36 (fun i => decide (gvL[kOr.getD i 0]? = some (.eq (.field (kSt i) "java/lang/Enum" "ordinal" "I") (.int (kOrd.getD i 0))))) = true := by decide +kernel
set_option maxRecDepth 100000 in
theorem gk_cd : rAl 36 (fun i => decide (gvL[kCd.getD i 0]? = some (.eq (.field (kSt i) "IceManners$Kind" "code" "J") (.long (Int64.ofInt (kcodes.getD i 0)))))) = true := by decide +kernel
set_option maxRecDepth 100000 in
theorem gk_ls : rAl 36 (fun i => decide (lw_tbl[kLs.getD i 0]? = some (.laysStatic "IceManners$Kind" (kNames.getD i "") "LIceManners$Kind;"))) = true := by decide +kernel
set_option maxRecDepth 100000 in
theorem gk_on : rAl 36 (fun i => decide (kOrd.getD i 0 = nI i)) = true := by decide +kernel
set_option maxRecDepth 100000 in
theorem ga_SX : (decide (gvL[101]? = some (.arrayOf (.static "IceManners" "STEP_X" "[I") .int)) && decide (gvL[102]? = some (.eq (.length (.static "IceManners" "STEP_X" "[I")) (.int (Int32.ofNat 4)))) && rAl 4 (fun j => decide (gvL[103 + j]? = some (.eq (.elem (.static "IceManners" "STEP_X" "[I") (.int (Int32.ofNat j))) (.int (Int32.ofInt (([1, 0, -1, 0] : List Int).getD j 0)))))) && decide (lw_tbl[804]? = some (.laysStatic "IceManners" "STEP_X" "[I")) && decide (lw_tbl[105]? = some (.initialized "IceManners"))) = true := by decide +kernel
set_option maxRecDepth 100000 in
theorem ga_SY : (decide (gvL[108]? = some (.arrayOf (.static "IceManners" "STEP_Y" "[I") .int)) && decide (gvL[109]? = some (.eq (.length (.static "IceManners" "STEP_Y" "[I")) (.int (Int32.ofNat 4)))) && rAl 4 (fun j => decide (gvL[110 + j]? = some (.eq (.elem (.static "IceManners" "STEP_Y" "[I") (.int (Int32.ofNat j))) (.int (Int32.ofInt (([0, 1, 0, -1] : List Int).getD j 0)))))) && decide (lw_tbl[806]? = some (.laysStatic "IceManners" "STEP_Y" "[I")) && decide (lw_tbl[105]? = some (.initialized "IceManners"))) = true := by decide +kernel
set_option maxRecDepth 100000 in
theorem ga_AL : (decide (gvL[13]? = some (.arrayOf (.static "IceManners$Kind" "ALL" "[LIceManners$Kind;") (.object "IceManners$Kind"))) && decide (gvL[14]? = some (.eq (.length (.static "IceManners$Kind" "ALL" "[LIceManners$Kind;")) (.int (Int32.ofNat 36)))) && rAl 36 (fun j => decide (gvL[16 + j]? = some (.eq (.elem (.static "IceManners$Kind" "ALL" "[LIceManners$Kind;") (.int (Int32.ofNat j))) (kSt j)))) && decide (lw_tbl[616]? = some (.laysStatic "IceManners$Kind" "ALL" "[LIceManners$Kind;")) && decide (lw_tbl[112]? = some (.initialized "IceManners$Kind"))) = true := by decide +kernel
set_option maxRecDepth 100000 in
theorem ga_SW : (decide (gvL[59]? = some (.arrayOf (.static "IceManners$1" "$SwitchMap$IceManners$Kind" "[I") .int)) && decide (gvL[60]? = some (.eq (.length (.static "IceManners$1" "$SwitchMap$IceManners$Kind" "[I")) (.int (Int32.ofNat 36)))) && rAl 36 (fun j => decide (gvL[61 + j]? = some (.eq (.elem (.static "IceManners$1" "$SwitchMap$IceManners$Kind" "[I") (.int (Int32.ofNat j))) (.int (Int32.ofInt (kSw.getD j 0)))))) && decide (lw_tbl[651]? = some (.laysStatic "IceManners$1" "$SwitchMap$IceManners$Kind" "[I")) && decide (lw_tbl[124]? = some (.initialized "IceManners$1"))) = true := by decide +kernel
set_option maxRecDepth 100000 in
theorem ga_DO : (decide (gvL[119]? = some (.arrayOf (.static "java/lang/Integer" "DigitOnes" "[B") .byte)) && decide (gvL[120]? = some (.eq (.length (.static "java/lang/Integer" "DigitOnes" "[B")) (.int (Int32.ofNat 100)))) && rAl 100 (fun j => decide (gvL[121 + j]? = some (.eq (.elem (.static "java/lang/Integer" "DigitOnes" "[B") (.int (Int32.ofNat j))) (.int (nI (48 + j % 10)))))) && decide (lw_tbl[1231]? = some (.laysStatic "java/lang/Integer" "DigitOnes" "[B")) && decide (lw_tbl[134]? = some (.initialized "java/lang/Integer"))) = true := by decide +kernel
set_option maxRecDepth 100000 in
theorem gt_all : rAl 4 (fun i => match txL[i]?, ([(477, 478, 479, 480, 481, 1168), (486, 487, 488, 489, 490, 1216), (494, 495, 496, 497, 498, 1242), (502, 503, 504, 505, 506, 1243)] : List (Nat × Nat × Nat × Nat × Nat × Nat))[i]? with | some q, some z => decide (gvL[z.1]? = some (.exactly (.string "IceManners" q.1) "java/lang/String")) && decide (gvL[z.2.1]? = some (.eq (.field (.string "IceManners" q.1) "java/lang/String" "coder" "B") (.int 0))) && decide (gvL[z.2.2.1]? = some (.arrayOf (.field (.string "IceManners" q.1) "java/lang/String" "value" "[B") .byte)) && decide (gvL[z.2.2.2.1]? = some (.eq (.length (.field (.string "IceManners" q.1) "java/lang/String" "value" "[B")) (.int (Int32.ofNat q.2.2.length)))) && rAl q.2.2.length (fun j => decide (gvL[z.2.2.2.2.1 + j]? = some (.eq (.elem (.field (.string "IceManners" q.1) "java/lang/String" "value" "[B") (.int (Int32.ofNat j))) (.int (q.2.2.getD j 0))))) && decide (lw_tbl[z.2.2.2.2.2]? = some (.stringRef "IceManners" q.1 q.2.1)) && decide (q.2.2.length < 100) | _, _ => false) = true := by decide +kernel
set_option maxRecDepth 100000 in
theorem gm_0 : (decide (gvL[512]? = some (.exactly (.string "IceManners" 141) "java/lang/String")) && decide (lw_tbl[1469]? = some (.stringRef "IceManners" 141 "no such person"))) = true := by decide +kernel
set_option maxRecDepth 100000 in
theorem gm_1 : (decide (gvL[530]? = some (.exactly (.string "IceManners" 171) "java/lang/String")) && decide (lw_tbl[1500]? = some (.stringRef "IceManners" 171 "nothing such of a person"))) = true := by decide +kernel
set_option maxRecDepth 100000 in
theorem gm_2 : (decide (gvL[558]? = some (.exactly (.string "IceManners" 235) "java/lang/String")) && decide (lw_tbl[1508]? = some (.stringRef "IceManners" 235 "a fraction has two numbers"))) = true := by decide +kernel
set_option maxRecDepth 100000 in
theorem gw_cs1 : lw_tbl[501]? = some (.laysStatic "java/lang/String" "COMPACT_STRINGS" "Z") := by decide +kernel
set_option maxRecDepth 100000 in
theorem gw_cs2 : lw_tbl[120]? = some (.initialized "java/lang/String") := by decide +kernel
set_option maxRecDepth 100000 in
theorem gw_pf1 : lw_tbl[1143]? = some (.laysStatic "jdk/internal/util/Preconditions" "SIOOBE_FORMATTER" "Ljava/util/function/BiFunction;") := by decide +kernel
set_option maxRecDepth 100000 in
theorem gw_pf2 : lw_tbl[132]? = some (.initialized "jdk/internal/util/Preconditions") := by decide +kernel
set_option maxRecDepth 100000 in
theorem gw_th1 : lw_tbl[1457]? = some (.laysStatic Bundle.tN "UNASSIGNED_STACK" Bundle.steD) := by decide +kernel
set_option maxRecDepth 100000 in
theorem gw_th2 : lw_tbl[1459]? = some (.laysStatic Bundle.tN "SUPPRESSED_SENTINEL" Bundle.listD) := by decide +kernel
set_option maxRecDepth 100000 in
theorem gw_th3 : lw_tbl[126]? = some (.initialized Bundle.tN) := by decide +kernel
set_option maxRecDepth 100000 in
theorem gw_kin : lw_tbl[112]? = some (.initialized "IceManners$Kind") := by decide +kernel
set_option maxRecDepth 100000 in
theorem gw_d1 : lw_tbl[1434]? = some (.declares (Bundle.initS "java/lang/RuntimeException")) := by decide +kernel
set_option maxRecDepth 100000 in
theorem gw_d2 : lw_tbl[1436]? = some (.declares (Bundle.initS "java/lang/Exception")) := by decide +kernel
set_option maxRecDepth 100000 in
theorem gw_d3 : lw_tbl[1438]? = some (.declares (Bundle.initS "java/lang/Throwable")) := by decide +kernel
set_option maxRecDepth 100000 in
theorem gw_ca : lw_tbl[1432]? = some (.castable "java/util/NoSuchElementException" "java/util/NoSuchElementException") := by decide +kernel
set_option maxRecDepth 100000 in
theorem gw_ao1 : lw_tbl[302]? = some (.arrayOver (.object "IceManners$Kind")) := by decide +kernel
set_option maxRecDepth 100000 in
theorem gw_ao2 : lw_tbl[347]? = some (.arrayOver (.object cR5)) := by decide +kernel
set_option maxRecDepth 100000 in
theorem gw_ao3 : lw_tbl[337]? = some (.arrayOver (.object cR8)) := by decide +kernel
set_option maxRecDepth 100000 in
theorem gw_aci : lw_tbl[220]? = some (.arrayClass .int) := by decide +kernel
set_option maxRecDepth 100000 in
theorem gw_acb : lw_tbl[522]? = some (.arrayClass .byte) := by decide +kernel
set_option maxRecDepth 100000 in
theorem gw_acz : lw_tbl[360]? = some (.arrayClass .boolean) := by decide +kernel
set_option maxRecDepth 100000 in
theorem gw_acl : lw_tbl[221]? = some (.arrayClass .long) := by decide +kernel
set_option maxRecDepth 100000 in
theorem gw_ns : (lw_tbl[145]? = some (.methodLinkNest "IceManners" 15 ⟨"IceManners$Scene", "<init>", "()V"⟩ "IceManners")) ∧ (lw_tbl[474]? = some (.methodLinkNest "IceManners" 78 ⟨"IceManners$Ways", "<init>", "()V"⟩ "IceManners")) := by decide +kernel
def isLx : MethodName := ⟨"java/lang/AbstractStringBuilder", "isLatin1", "()Z"⟩
set_option maxRecDepth 100000 in
theorem gw_pr : (lw_tbl[1094]? = some (.selects sbR isLx isLx)) ∧ (lw_tbl[1092]? = some (.instanceMethod isLx)) ∧ rAl 4 (fun i => match prL[i]?, ([(1067, 1068), (1063, 1064), (1202, 1203), (1206, 1207)] : List (Nat × Nat))[i]? with | some y, some z => decide (lw_tbl[z.1]? = some (.privateMethod y)) && decide (lw_tbl[z.2]? = some (.instanceMethod y)) && decide (y.cls = isLx.cls) && notMH y | _, _ => false) = true := by decide +kernel
set_option maxRecDepth 100000 in
theorem gw_in : rAl 12 (fun i => match clx[i]? with | some q => decide (lw_tbl[([448, 341, 150, 362, 296, 223, 414, 473, 144, 136, 1523, 492] : List Nat).getD i 0]? = some (.instantiable q.1 q.2.2)) | none => false) = true := by decide +kernel
set_option maxRecDepth 100000 in
theorem gg_cs : gvL[7]? = some (.eq (.static "java/lang/String" "COMPACT_STRINGS" "Z") (.int 1)) := by decide +kernel
set_option maxRecDepth 100000 in
theorem gg_pf : gvL[114]? = some (.isRef (.static "jdk/internal/util/Preconditions" "SIOOBE_FORMATTER" "Ljava/util/function/BiFunction;")) := by decide +kernel
set_option maxRecDepth 100000 in
theorem gg_t1 : gvL[354]? = some (.isRef (.static Bundle.tN "UNASSIGNED_STACK" Bundle.steD)) := by decide +kernel
set_option maxRecDepth 100000 in
theorem gg_t2 : gvL[355]? = some (.isRef (.static Bundle.tN "SUPPRESSED_SENTINEL" Bundle.listD)) := by decide +kernel
theorem va_En_cg {E d : String} {nm : List String} {F : List (String × String × String × List Int32)} {ad ad2 : Nat → Nat} {A : Nat → Prop} {U : State} {H : Heap} (e : ∀ i, i < nm.length → ad2 i = ad i) (h : va_En E d nm F ad A U H) : va_En E d nm F ad2 A U H := ⟨fun i hi => by rw [e i hi]; exact h.1 i hi, fun i j hi hj hh => h.2 i j hi hj (by rw [← e i hi, ← e j hj]; exact hh)⟩
theorem va_Ef_cg {N : Nat} {o n d : String} {v : Nat → Value} {ad ad2 : Nat → Nat} {A : Nat → Prop} {U : State} {H : Heap} (e : ∀ i, i < N → ad2 i = ad i) (h : va_Ef N o n d v ad A U H) : va_Ef N o n d v ad2 A U H := fun i hi => by rw [e i hi]; exact h i hi
theorem va_T_cg {ty : FieldType} {t N : Nat} {f f2 : Nat → Value} {A : Nat → Prop} {U : State} {H : Heap} (e : ∀ j, j < N → f2 j = f j) (h : va_T ty t N f A U H) : va_T ty t N f2 A U H := by
  obtain ⟨cell, h1, h2, h3, h4, h5, h6, h7⟩ := h
  exact ⟨cell, h1, h2, h3, h4, h5, fun j hj => by rw [e j hj]; exact h6 j hj, h7⟩
theorem en_ne {args : Array Value} {s : State} {t u : Term} {a b : Nat} (ht : t.eval args s none [] s = some (.ref a)) (hu : u.eval args s none [] s = some (.ref b)) (hne : a ≠ b) : (Cond.not (.eq t u)).before args s = true := by
  simp [Cond.before, Cond.holds, Cond.value, ht, hu, hne]
section GIV
variable {s : State} {b : Nat}
theorem gv_at (hgv : (Jvm.Cond.and given_1 narrow_1).before #[Value.ref b] s = true) {n : Nat} {w : Cond} (h : gvL[n]? = some w) : w.before #[Value.ref b] s = true := flat_of_before _ hgv _ (List.mem_of_getElem? h)
theorem tb_at (hts : ∀ w ∈ lw_tbl, w.before #[Value.ref b] s = true) {n : Nat} {w : Cond} (h : lw_tbl[n]? = some w) : w.before #[Value.ref b] s = true := hts w (List.mem_of_getElem? h)
theorem nofl (a : Nat) (h : a < s.heap.size) : ¬ (fun q : Nat => s.heap.size ≤ q) a := Nat.not_le.mpr h
theorem gv_en (hts : ∀ w ∈ lw_tbl, w.before #[Value.ref b] s = true) (hgv : (Jvm.Cond.and given_1 narrow_1).before #[Value.ref b] s = true) : ∃ ad : Nat → Nat, va_En "IceManners$Kind" "LIceManners$Kind;" kNames [("java/lang/Enum", "ordinal", "I", kOrd)] ad (fun q => s.heap.size ≤ q) s s.heap ∧ va_Ef 36 "IceManners$Kind" "code" "J" (fun i => .long (Int64.ofInt (kcodes.getD i 0))) ad (fun q => s.heap.size ≤ q) s s.heap ∧ ∀ i, i < 36 → (kSt i).eval #[Value.ref b] s none [] s = some (.ref (ad i)) := by
  have e36 : kNames.length = 36 := rfl
  have hex : ∀ i, i < 36 → (Cond.exactly (kSt i) "IceManners$Kind").before #[Value.ref b] s = true := fun i hi => gv_at hgv (of_decide_eq_true (rAl_h gk_ex i hi))
  have hor : ∀ i, i < 36 → (Cond.eq (.field (kSt i) "java/lang/Enum" "ordinal" "I") (.int (kOrd.getD i 0))).before #[Value.ref b] s = true := fun i hi => gv_at hgv (of_decide_eq_true (rAl_h gk_or i hi))
  have hcd : ∀ i, i < 36 → (Cond.eq (.field (kSt i) "IceManners$Kind" "code" "J") (.long (Int64.ofInt (kcodes.getD i 0)))).before #[Value.ref b] s = true := fun i hi => gv_at hgv (of_decide_eq_true (rAl_h gk_cd i hi))
  have hdis : ∀ i j, i < 36 → j < 36 → i ≠ j → (Cond.not (.eq (kSt i) (kSt j))).before #[Value.ref b] s = true := by
    intro i j hi hj hij
    obtain ⟨a, c, cell, k, q1, -⟩ := Cond.exactly_spec (hex i hi)
    obtain ⟨a2, c2, cell2, k2, r1, -⟩ := Cond.exactly_spec (hex j hj)
    refine en_ne q1 r1 (fun e => hij ?_)
    have h1 := va_eqv (hor i hi) (v := .int (kOrd.getD i 0)) rfl
    have h2 := va_eqv (hor j hj) (v := .int (kOrd.getD j 0)) rfl
    rw [va_fe q1] at h1
    rw [va_fe r1, ← e, h1] at h2
    have h3 : kOrd.getD i 0 = kOrd.getD j 0 := Value.int.inj (Option.some.inj h2)
    rw [of_decide_eq_true (rAl_h gk_on i hi), of_decide_eq_true (rAl_h gk_on j hj)] at h3
    have h4 := congrArg Int32.toInt h3
    rw [nI_toInt (by omega), nI_toInt (by omega)] at h4
    omega
  obtain ⟨ad, h1, h2⟩ := va_Enof2 (args := #[Value.ref b]) (s := s) (E := "IceManners$Kind") (d := "LIceManners$Kind;") (nm := kNames) (F := [("java/lang/Enum", "ordinal", "I", kOrd)]) (A := fun q => s.heap.size ≤ q) (fun i hi => tb_at hts (of_decide_eq_true (rAl_h gk_ls i hi))) (tb_at hts gw_kin) (fun i hi => hex i hi) (fun q hq i hi => by rw [List.mem_singleton.mp hq]; exact hor i hi) (fun i j hi hj hij => Or.inl (hdis i j hi hj hij)) (fun a h => nofl a h)
  exact ⟨ad, h1, va_Efof (E := "IceManners$Kind") (d0 := "LIceManners$Kind;") (nm := kNames) (tm := fun i => .long (Int64.ofInt (kcodes.getD i 0))) h2 hcd (fun i hi => rfl) (fun a h => nofl a h), h2⟩
theorem gv_sx (hts : ∀ w ∈ lw_tbl, w.before #[Value.ref b] s = true) (hgv : (Jvm.Cond.and given_1 narrow_1).before #[Value.ref b] s = true) : ∃ t : Nat, va_Z "IceManners" "STEP_X" "[I" (.ref t) (fun q => s.heap.size ≤ q) s s.heap ∧ va_T .int t 4 (fun j => .int (Int32.ofInt (([1, 0, -1, 0] : List Int).getD j 0))) (fun q => s.heap.size ≤ q) s s.heap := by
  have h := ga_SX
  simp only [Bool.and_eq_true, decide_eq_true_eq] at h
  obtain ⟨⟨⟨⟨h1, h2⟩, h3⟩, h4⟩, h5⟩ := h
  obtain ⟨t, q1, q2⟩ := va_Tof (args := #[Value.ref b]) (s := s) (N := 4) (f := fun j => .int (Int32.ofInt (([1, 0, -1, 0] : List Int).getD j 0))) (A := fun q => s.heap.size ≤ q) (by decide) (gv_at hgv h1) (va_eqv (gv_at hgv h2) rfl) (fun j hj => va_eqv (gv_at hgv (of_decide_eq_true (rAl_h h3 j hj))) rfl) (fun a h => nofl a h)
  exact ⟨t, va_Zref (tb_at hts h4) (tb_at hts h5) q1 (fun a h => nofl a h), q2⟩
theorem gv_sy (hts : ∀ w ∈ lw_tbl, w.before #[Value.ref b] s = true) (hgv : (Jvm.Cond.and given_1 narrow_1).before #[Value.ref b] s = true) : ∃ t : Nat, va_Z "IceManners" "STEP_Y" "[I" (.ref t) (fun q => s.heap.size ≤ q) s s.heap ∧ va_T .int t 4 (fun j => .int (Int32.ofInt (([0, 1, 0, -1] : List Int).getD j 0))) (fun q => s.heap.size ≤ q) s s.heap := by
  have h := ga_SY
  simp only [Bool.and_eq_true, decide_eq_true_eq] at h
  obtain ⟨⟨⟨⟨h1, h2⟩, h3⟩, h4⟩, h5⟩ := h
  obtain ⟨t, q1, q2⟩ := va_Tof (args := #[Value.ref b]) (s := s) (N := 4) (f := fun j => .int (Int32.ofInt (([0, 1, 0, -1] : List Int).getD j 0))) (A := fun q => s.heap.size ≤ q) (by decide) (gv_at hgv h1) (va_eqv (gv_at hgv h2) rfl) (fun j hj => va_eqv (gv_at hgv (of_decide_eq_true (rAl_h h3 j hj))) rfl) (fun a h => nofl a h)
  exact ⟨t, va_Zref (tb_at hts h4) (tb_at hts h5) q1 (fun a h => nofl a h), q2⟩
theorem gv_sw (hts : ∀ w ∈ lw_tbl, w.before #[Value.ref b] s = true) (hgv : (Jvm.Cond.and given_1 narrow_1).before #[Value.ref b] s = true) : ∃ t : Nat, va_Z "IceManners$1" "$SwitchMap$IceManners$Kind" "[I" (.ref t) (fun q => s.heap.size ≤ q) s s.heap ∧ va_T .int t 36 (fun j => .int (Int32.ofInt (kSw.getD j 0))) (fun q => s.heap.size ≤ q) s s.heap := by
  have h := ga_SW
  simp only [Bool.and_eq_true, decide_eq_true_eq] at h
  obtain ⟨⟨⟨⟨h1, h2⟩, h3⟩, h4⟩, h5⟩ := h
  obtain ⟨t, q1, q2⟩ := va_Tof (args := #[Value.ref b]) (s := s) (N := 36) (f := fun j => .int (Int32.ofInt (kSw.getD j 0))) (A := fun q => s.heap.size ≤ q) (by decide) (gv_at hgv h1) (va_eqv (gv_at hgv h2) rfl) (fun j hj => va_eqv (gv_at hgv (of_decide_eq_true (rAl_h h3 j hj))) rfl) (fun a h => nofl a h)
  exact ⟨t, va_Zref (tb_at hts h4) (tb_at hts h5) q1 (fun a h => nofl a h), q2⟩
theorem gv_do (hts : ∀ w ∈ lw_tbl, w.before #[Value.ref b] s = true) (hgv : (Jvm.Cond.and given_1 narrow_1).before #[Value.ref b] s = true) : ∃ t : Nat, va_Z "java/lang/Integer" "DigitOnes" "[B" (.ref t) (fun q => s.heap.size ≤ q) s s.heap ∧ va_T .byte t 100 (fun j => .int (nI (48 + j % 10))) (fun q => s.heap.size ≤ q) s s.heap := by
  have h := ga_DO
  simp only [Bool.and_eq_true, decide_eq_true_eq] at h
  obtain ⟨⟨⟨⟨h1, h2⟩, h3⟩, h4⟩, h5⟩ := h
  obtain ⟨t, q1, q2⟩ := va_Tof (args := #[Value.ref b]) (s := s) (N := 100) (f := fun j => .int (nI (48 + j % 10))) (A := fun q => s.heap.size ≤ q) (by decide) (gv_at hgv h1) (va_eqv (gv_at hgv h2) rfl) (fun j hj => va_eqv (gv_at hgv (of_decide_eq_true (rAl_h h3 j hj))) rfl) (fun a h => nofl a h)
  exact ⟨t, va_Zref (tb_at hts h4) (tb_at hts h5) q1 (fun a h => nofl a h), q2⟩
theorem gv_al (hts : ∀ w ∈ lw_tbl, w.before #[Value.ref b] s = true) (hgv : (Jvm.Cond.and given_1 narrow_1).before #[Value.ref b] s = true) {ad : Nat → Nat} (he : ∀ i, i < 36 → (kSt i).eval #[Value.ref b] s none [] s = some (.ref (ad i))) : ∃ t : Nat, va_Z "IceManners$Kind" "ALL" "[LIceManners$Kind;" (.ref t) (fun q => s.heap.size ≤ q) s s.heap ∧ va_T (.object "IceManners$Kind") t 36 (fun j => .ref (ad j)) (fun q => s.heap.size ≤ q) s s.heap := by
  have h := ga_AL
  simp only [Bool.and_eq_true, decide_eq_true_eq] at h
  obtain ⟨⟨⟨⟨h1, h2⟩, h3⟩, h4⟩, h5⟩ := h
  obtain ⟨t, q1, q2⟩ := va_Tof (args := #[Value.ref b]) (s := s) (N := 36) (f := fun j => .ref (ad j)) (A := fun q => s.heap.size ≤ q) (by decide) (gv_at hgv h1) (va_eqv (gv_at hgv h2) rfl) (fun j hj => va_eqv (gv_at hgv (of_decide_eq_true (rAl_h h3 j hj))) (he j hj)) (fun a h => nofl a h)
  exact ⟨t, va_Zref (tb_at hts h4) (tb_at hts h5) q1 (fun a h => nofl a h), q2⟩
theorem gv_tx (hts : ∀ w ∈ lw_tbl, w.before #[Value.ref b] s = true) (hgv : (Jvm.Cond.and given_1 narrow_1).before #[Value.ref b] s = true) : ∃ kk vv : Nat → Nat, ∀ (i : Nat) (q : Nat × String × List Int32), txL[i]? = some q → vk_S 1 [q.2.2.length] [q.2.2] (fun _ => kk i) (fun _ => vv i) (fun q => s.heap.size ≤ q) s s.heap ∧ vk_R "IceManners" q.1 q.2.1 (kk i) s := by
  have h0 : ∀ i : Nat, ∃ z : Nat × Nat, ∀ q : Nat × String × List Int32, txL[i]? = some q → vk_S 1 [q.2.2.length] [q.2.2] (fun _ => z.1) (fun _ => z.2) (fun q => s.heap.size ≤ q) s s.heap ∧ vk_R "IceManners" q.1 q.2.1 z.1 s := by
    intro i
    by_cases hi : i < 4
    · have h := rAl_h gt_all i hi
      cases hq : txL[i]? with
      | none => exact ⟨(0, 0), fun q h => by cases h⟩
      | some q =>
        rw [hq] at h
        split at h
        · rename_i q2 z e1 e2
          cases e1
          simp only [Bool.and_eq_true, decide_eq_true_eq] at h
          obtain ⟨⟨⟨⟨⟨⟨h1, h2⟩, h3⟩, h4⟩, h5⟩, h6⟩, h7⟩ := h
          obtain ⟨adK, adV, g1, g2⟩ := vk_Sof (args := #[Value.ref b]) (s := s) (N := 1) (tm := fun _ => .string "IceManners" q.1) (len := [q.2.2.length]) (byt := [q.2.2]) (A := fun q => s.heap.size ≤ q)
            (fun i hi => by rw [show i = 0 by omega]; show q.2.2.length < 2 ^ 31; omega) (fun i hi => gv_at hgv h1) (fun i hi => gv_at hgv h2) (fun i hi => gv_at hgv h3) (fun i hi => by rw [show i = 0 by omega]; exact gv_at hgv h4)
            (fun i hi j hj => by rw [show i = 0 by omega] at hj ⊢; exact gv_at hgv (of_decide_eq_true (rAl_h h5 j hj))) (fun i j hi hj hij => absurd (show i = j by omega) hij) (fun a h => nofl a h)
          refine ⟨(adK 0, adV 0), fun q2 hq2 => ?_⟩
          cases hq2
          exact ⟨⟨fun i hi => by rw [show i = 0 by omega]; exact g1.1 0 (by decide), fun i j hi hj _ => by omega⟩, vk_R.of (tb_at hts h6) (g2 0 (by decide))⟩
        · cases h
    · refine ⟨(0, 0), fun q hq => ?_⟩
      have := (List.getElem?_eq_some_iff.mp hq).1
      exact absurd this hi
  obtain ⟨z, hz⟩ := Classical.axiomOfChoice h0
  exact ⟨fun i => (z i).1, fun i => (z i).2, fun i q hq => hz i q hq⟩
theorem gv_msg (hts : ∀ w ∈ lw_tbl, w.before #[Value.ref b] s = true) (hgv : (Jvm.Cond.and given_1 narrow_1).before #[Value.ref b] s = true) {n m k : Nat} {t : String} (h : (decide (gvL[n]? = some (.exactly (.string "IceManners" k) "java/lang/String")) && decide (lw_tbl[m]? = some (.stringRef "IceManners" k t))) = true) : ∃ a, vk_R "IceManners" k t a s := by
  simp only [Bool.and_eq_true, decide_eq_true_eq] at h
  obtain ⟨a, c, cell, k, q1, -⟩ := Cond.exactly_spec (gv_at hgv h.1)
  exact ⟨a, vk_R.of (tb_at hts h.2) q1⟩
/-- the constants' addresses -/
def kap (ad : Nat → Nat) (t0 t1 t2 t3 td : Nat) (kk vv : Nat → Nat) : Nat → Nat := fun i =>
  if i < 200000 then ad (i - 100000) else if i = 200000 then t0 else if i = 200001 then t1 else if i = 200002 then t2 else if i = 200003 then t3 else if i = 400020 then td else if i < 400010 then kk (i - 400000) else vv (i - 400010)
theorem kap_a (ad : Nat → Nat) (t0 t1 t2 t3 td : Nat) (kk vv : Nat → Nat) (i : Nat) (hi : i < 36) : kap ad t0 t1 t2 t3 td kk vv (100000 + i) = ad i := by
  unfold kap
  rw [if_pos (by omega), Nat.add_sub_cancel_left]
theorem kap_k (ad : Nat → Nat) (t0 t1 t2 t3 td : Nat) (kk vv : Nat → Nat) (i : Nat) (hi : i < 4) : kap ad t0 t1 t2 t3 td kk vv (400000 + i) = kk i := by
  unfold kap
  rw [if_neg (by omega), if_neg (by omega), if_neg (by omega), if_neg (by omega), if_neg (by omega), if_neg (by omega), if_pos (by omega), Nat.add_sub_cancel_left]
theorem kap_v (ad : Nat → Nat) (t0 t1 t2 t3 td : Nat) (kk vv : Nat → Nat) (i : Nat) (hi : i < 4) : kap ad t0 t1 t2 t3 td kk vv (400010 + i) = vv i := by
  unfold kap
  rw [if_neg (by omega), if_neg (by omega), if_neg (by omega), if_neg (by omega), if_neg (by omega), if_neg (by omega), if_neg (by omega), Nat.add_sub_cancel_left]
theorem gv_ix (hts : ∀ w ∈ lw_tbl, w.before #[Value.ref b] s = true) (hgv : (Jvm.Cond.and given_1 narrow_1).before #[Value.ref b] s = true) : ∃ κ : Nat → Nat, Ix κ (fun q => s.heap.size ≤ q) s s.heap := by
  obtain ⟨ad, en1, en2, en3⟩ := gv_en hts hgv
  obtain ⟨t0, z0, r0⟩ := gv_sx hts hgv
  obtain ⟨t1, z1, r1⟩ := gv_sy hts hgv
  obtain ⟨t2, z2, r2⟩ := gv_al hts hgv en3
  obtain ⟨t3, z3, r3⟩ := gv_sw hts hgv
  obtain ⟨td, zd, rd⟩ := gv_do hts hgv
  obtain ⟨kk, vv, hkv⟩ := gv_tx hts hgv
  have ka := kap_a ad t0 t1 t2 t3 td kk vv
  have kK := kap_k ad t0 t1 t2 t3 td kk vv
  have kV := kap_v ad t0 t1 t2 t3 td kk vv
  have k0 : kap ad t0 t1 t2 t3 td kk vv 200000 = t0 := rfl
  have k1 : kap ad t0 t1 t2 t3 td kk vv 200001 = t1 := rfl
  have k2 : kap ad t0 t1 t2 t3 td kk vv 200002 = t2 := rfl
  have k3 : kap ad t0 t1 t2 t3 td kk vv 200003 = t3 := rfl
  have kd : kap ad t0 t1 t2 t3 td kk vv 400020 = td := rfl
  generalize kap ad t0 t1 t2 t3 td kk vv = κ at ka kK kV k0 k1 k2 k3 kd
  refine ⟨κ, ⟨va_En_cg (fun i hi => ka i hi) en1, va_Ef_cg (fun i hi => ka i hi) en2, by rw [k0]; exact ⟨z0, r0⟩, by rw [k1]; exact ⟨z1, r1⟩, by rw [k2]; exact ⟨z2, va_T_cg (fun j hj => by rw [ka j hj]) r2⟩, by rw [k3]; exact ⟨z3, r3⟩⟩,
    ⟨va_Zof (tb_at hts gw_cs1) (tb_at hts gw_cs2) (va_eqv (gv_at hgv gg_cs) rfl) (fun a h => nofl a h), ⟨by rw [kd]; exact zd, by rw [kd]; exact rd, va_Zqof (tb_at hts gw_pf1) (tb_at hts gw_pf2) (gv_at hgv gg_pf) (fun a h => nofl a h)⟩, fun i q hq => ?_⟩,
    fun a i b n d h hm => va_Nw.of rfl (hts _ hm),
    ⟨⟨va_Nw.of rfl (tb_at hts gw_d1), va_Nw.of rfl (tb_at hts gw_d2), va_Nw.of rfl (tb_at hts gw_d3), va_Nw.of rfl (tb_at hts gw_ca)⟩, vx_Zqof (tb_at hts gw_th1) (tb_at hts gw_th3) (gv_at hgv gg_t1) (fun a h => nofl a h), vx_Zqof (tb_at hts gw_th2) (tb_at hts gw_th3) (gv_at hgv gg_t2) (fun a h => nofl a h), gv_msg hts hgv gm_0, gv_msg hts hgv gm_1, gv_msg hts hgv gm_2⟩,
    ⟨va_AO.of (tb_at hts gw_ao1), va_AO.of (tb_at hts gw_ao2), va_AO.of (tb_at hts gw_ao3), fun q hq => ?_, fun y hy => ?_⟩⟩
  · have hi : i < 4 := (List.getElem?_eq_some_iff.mp hq).1
    rw [kK i hi, kV i hi]
    exact hkv i q hq
  · rcases List.mem_cons.mp hq with rfl | hq
    · exact va_Nw.of rfl (tb_at hts gw_ns.1)
    · rw [List.mem_singleton.mp hq]
      exact va_Nw.of rfl (tb_at hts gw_ns.2)
  · obtain ⟨i, hi⟩ := List.getElem?_of_mem hy
    have h4 : i < 4 := (List.getElem?_eq_some_iff.mp hi).1
    have h := rAl_h gw_pr.2.2 i h4
    rw [hi] at h
    split at h
    · rename_i y2 z e1 e2
      cases e1
      simp only [Bool.and_eq_true, decide_eq_true_eq, notMH] at h
      obtain ⟨⟨⟨h1, h2⟩, h3⟩, h5⟩ := h
      exact va_Nw.of rfl (sel_priv ⟨h5.1, h5.2⟩ h3.symm (tb_at hts gw_pr.1) (tb_at hts gw_pr.2.1) (tb_at hts h1) (tb_at hts h2))
    · cases h
theorem ga_prim {ty : FieldType} (h : (Cond.arrayClass ty).before #[Value.ref b] s = true) : ∃ c : ClassId, ArrOfT s c ty ∧ s.vm.findClass ("[" ++ ty.toString) = some c := by
  obtain ⟨c, k, comp, h1, h2, h3⟩ := Cond.arrayClass_spec h
  exact ⟨c, fun n z => ⟨(fun k h => by cases h), k, h2, comp, h3⟩, h1⟩
theorem ga_obj {C : String} (h : (Cond.arrayOver (.object C)).before #[Value.ref b] s = true) : ∃ c : ClassId, ArrOfT s c (.object C) ∧ va_RA s c (.object C) := by
  obtain ⟨comp, c, k, h1, -, h3, h4, h5⟩ := Cond.arrayOver_spec h
  exact ⟨c, fun n z => ⟨(fun k h => by cases h), k, h3, comp, h4⟩, k, comp, h3, h4, h1, h5⟩
theorem gv_K (hts : ∀ w ∈ lw_tbl, w.before #[Value.ref b] s = true) : ∃ (D : va_G) (tA : Nat → ClassId), va_K D clx (tysL tA) s := by
  have h0 : ∀ ci : Nat, ∃ z : ClassId × (Nat → Nat), ∀ q : vw_C, clx[ci]? = some q → u_Kn s q.1 q.2.1 q.2.2 z.1 z.2 := by
    intro ci
    cases hq : clx[ci]? with
    | none => exact ⟨(0, fun _ => 0), fun q h => by cases h⟩
    | some q =>
      have h12 : ci < 12 := (List.getElem?_eq_some_iff.mp hq).1
      have h := rAl_h gw_in ci h12
      rw [hq] at h
      have h := of_decide_eq_true h
      obtain ⟨cC, iS, hk⟩ := u_known (ws := Tg) (s := s) (args := #[Value.ref b]) (C := q.1) (T := q.2.1) (N := q.2.2) (n := q.2.2) (fun w hw => hts w (List.mem_filter.mp hw).1) (clx_ok ci q hq).1 (tb_at hts h)
      exact ⟨(cC, iS), fun q2 h2 => by cases h2; exact hk⟩
  obtain ⟨z, hz⟩ := Classical.axiomOfChoice h0
  obtain ⟨c0, a0, b0⟩ := ga_prim (tb_at hts gw_aci)
  obtain ⟨c1, a1, b1⟩ := ga_prim (tb_at hts gw_acb)
  obtain ⟨c2, a2, b2⟩ := ga_prim (tb_at hts gw_acz)
  obtain ⟨c3, a3, b3⟩ := ga_prim (tb_at hts gw_acl)
  obtain ⟨c4, a4, b4⟩ := ga_obj (tb_at hts gw_ao1)
  obtain ⟨c5, a5, b5⟩ := ga_obj (tb_at hts gw_ao2)
  obtain ⟨c6, a6, b6⟩ := ga_obj (tb_at hts gw_ao3)
  refine ⟨(fun ci => (z ci).1, fun ci => (z ci).2), fun t => match t with | 0 => c0 | 1 => c1 | 2 => c2 | 3 => c3 | 4 => c4 | 5 => c5 | _ => c6, fun ci q hq => hz ci q hq, fun k q hq => ?_⟩
  match k, hq with
  | 0, hq => cases hq; exact ⟨a0, b0⟩
  | 1, hq => cases hq; exact ⟨a1, b1⟩
  | 2, hq => cases hq; exact ⟨a2, b2⟩
  | 3, hq => cases hq; exact ⟨a3, b3⟩
  | 4, hq => cases hq; exact ⟨a4, b4⟩
  | 5, hq => cases hq; exact ⟨a5, b5⟩
  | 6, hq => cases hq; exact ⟨a6, b6⟩
  | k + 7, hq => simp [tysL] at hq
end GIV
