/-! The law's cases: two calls with the same numbers, and the answers compared. Printed by wip/whole/pE1.py. -/
def dcL (pc : Nat) (q : Instr × Nat) : Bool := decide (decode code pc = .ok q)
theorem dcL_eq {pc : Nat} {q : Instr × Nat} (h : dcL pc q = true) : decode code pc = .ok q := of_decide_eq_true h
/-- code that lays n numbers of the script, from the k-th of the call -/
def argB : Nat → Nat → Nat → Bool
  | _, _, 0 => true
  | pc, k, n + 1 => dcL pc (.aload_n 0, 1) && dcL (pc + 1) (.iload 4, 2) && dcL (pc + 3) (.iconst (k : Int), 1) && dcL (pc + 4) (.iadd, 1) && dcL (pc + 5) (.iaload, 1) && argB (pc + 6) (k + 1) n
def argV (xs : Nat → Int32) (i : Nat) : Nat → Nat → List Value
  | _, 0 => []
  | k, n + 1 => .int (xs (i + k)) :: argV xs i (k + 1) n
theorem argV_len (xs : Nat → Int32) (i : Nat) : ∀ (n k : Nat), (argV xs i k n).length = n
  | 0, _ => rfl
  | n + 1, k => by show (argV xs i (k + 1) n).length + 1 = n + 1; rw [argV_len xs i n]
theorem argV_tv (ρ : Nat → Nat) (xs : Nat → Int32) (i : Nat) : ∀ (n k : Nat), (argV xs i k n).map (tv ρ) = argV xs i k n
  | 0, _ => rfl
  | n + 1, k => by show Value.int _ :: (argV xs i (k + 1) n).map (tv ρ) = _; rw [argV_tv ρ xs i n]; rfl
theorem argV_ct (xs : Nat → Int32) (i : Nat) : ∀ (n k : Nat), ct (argV xs i k n) = n
  | 0, _ => rfl
  | n + 1, k => by
    have h := argV_ct xs i n (k + 1)
    unfold ct at h ⊢
    show 1 + ((argV xs i (k + 1) n).map (fun v => v.category)).sum = n + 1
    rw [h]; omega
theorem ic_k : ∀ k : Nat, k < 6 → Int32.ofInt (k : Int) = nI k := by decide
section LAW
variable {p : Program} {l : Launch} {e : Env} {s : State} {m : MethodId} {args : Array Value} {below : List Frame} {meth : Method} {c : Code} {D : va_G} {tA : Nat → ClassId} {ρ : Nat → Nat} {A : Nat → Prop} {Qf : State → Prop} {b L : Nat} {xs : Nat → Int32}
set_option maxRecDepth 100000 in
theorem lw_args {R : Room} {H : Heap} {locs : List Loc} {cells slots : Nat} {ls : Array Slot} {i : Nat} (hx : p.tables.exec = Jvm.exec) (hb : c.code = code) (hX : va_X b L xs s s.heap) (hbl : b < s.heap.size) (hbA : ¬ A b) (hS : va_S A s.heap H locs) (h0 : ls[0]? = some (.val (.ref b))) (h4 : ls[4]? = some (.val (.int (nI i)))) (hi : i + 6 ≤ L) (hL : L ≤ 3072) :
    ∀ (n pc k : Nat) (st : List Value), argB pc k n = true → k + n ≤ 6 → W p l e R s m args below meth c H locs cells slots Qf (F0 m (pc + 6 * n) ls ((argV xs i k n).reverse ++ st)) → W p l e R s m args below meth c H locs cells slots Qf (F0 m pc ls st) := by
  intro n
  induction n with
  | zero => intro pc k st _ _ w; exact w
  | succ n ih =>
    intro pc k st h hk w
    unfold argB at h
    simp only [Bool.and_eq_true] at h
    obtain ⟨⟨⟨⟨⟨d1, d2⟩, d3⟩, d4⟩, d5⟩, d6⟩ := h
    refine lv_aload_n hx hb (dcL_eq d1) rfl h0 ?_
    refine lv_iload hx hb (dcL_eq d2) h4 ?_
    refine lv_iconst (v := nI k) hx hb (dcL_eq d3) (ic_k k (by omega)) ?_
    refine lv_iadd hx hb (dcL_eq d4) ?_
    rw [nI_add]
    refine va_sld hx hb hX hbl hbA hS (vp_in_nI (by omega) (by omega)) (dcL_eq d5) ?_
    rw [nI_clamp (by omega)]
    refine ih (pc + 6) (k + 1) _ d6 (by omega) ?_
    have e1 : pc + 6 + 6 * n = pc + 6 * (n + 1) := by omega
    have e2 : (argV xs i (k + 1) n).reverse ++ Value.int (xs (i + k)) :: st = (argV xs i k (n + 1)).reverse ++ st := by
      show _ = (Value.int (xs (i + k)) :: argV xs i (k + 1) n).reverse ++ st
      rw [List.reverse_cons, List.append_assoc]; rfl
    rw [e1, e2]
    exact w
def callB (ix n9 j n k9 : Nat) : Bool := decide (j < 245) && decide ((mix.getD j (0, 0, 0, 0, 0)).2.2.1 = 1) && lkB n9 (.methodLink "IceMannersLaw" ix (mY j)) && decide ((parseMethodDescriptor (mY j).desc).map (fun d => d.parameters.length) = some n) && decide ((cls[k9]?).map (fun q => q.1) = some (mY j).cls) && decide (n + 1 ≤ mL j)
def caseB (pc n ix1 ix2 n1 n2 ji jm : Nat) : Bool := decide (n ≤ 5) && dcL pc (.aload_n 1, 1) && argB (pc + 1) 1 n && dcL (pc + 1 + 6 * n) (.invokevirtual ix1, 3) && dcL (pc + 4 + 6 * n) (.aload_n 2, 1) && argB (pc + 5 + 6 * n) 1 n && dcL (pc + 5 + 12 * n) (.invokevirtual ix2, 3) && dcL (pc + 8 + 12 * n) (.if_icmp .eq ((1265 : Int) - ((pc + 8 + 12 * n : Nat) : Int)), 3) && callB ix1 n1 ji n 9 && callB ix2 n2 jm n 10
/-- a call out of the law with numbers of its script -/
theorem lw_callB {H : Heap} {locs : List Loc} {cells slots : Nat} {ls : Array Slot} {i pc n p0 ix n9 j k9 : Nat} {M : Mm} {Qc : Po} {st : List Value} (C0 : Lw "IceMannersLaw" code 7 p s m args c D tA ρ A) (hB : callB ix n9 j n k9 = true) (hdec : decode code pc = .ok (.invokevirtual ix, 3)) (hsh : shp p0 = (0, k9)) (hl : ls.size = 7) (hcs : cells ≤ room_1.cells ∧ slots ≤ room_1.slots) (hcat : (st.map (fun v => v.category)).sum ≤ 8)
    (hP : va_P D cls (wl ρ tA M) H) (hS : va_S A s.heap H locs) (hM : Wn 40 j Qc (0, lv_args 0 (.ref p0 :: argV xs i 1 n), [], M))
    (k : ∀ (r : Option Value) (M' : Mm) (H1 : Heap) (locs1 : List Loc), Qc r M' → va_P D cls (wl ρ tA M') H1 → va_S A s.heap H1 locs1 → Kp ρ H H1 → W p l e room_1 s m args below meth c H1 locs1 cells slots Qf (F0 m (pc + 3) ls ((r.map (tv ρ)).toList ++ st))) :
    W p l e room_1 s m args below meth c H locs cells slots Qf (F0 m pc ls ((argV xs i 1 n).reverse ++ .ref (ρ p0) :: st)) := by
  simp only [callB, Bool.and_eq_true, decide_eq_true_eq] at hB
  obtain ⟨⟨⟨⟨⟨b1, b2⟩, b3⟩, b4⟩, b5⟩, b6⟩ := hB
  refine law_call j ix n9 k9 C0 b1 b2 b3 (As := argV xs i 1 n) (by rw [argV_len]; exact b4) b5 hsh ?_ hcat ⟨?_, ?_⟩ hcs hdec (by rw [argV_tv]) hl hP hS hM k
  · show (Value.ref p0).category + ct (argV xs i 1 n) ≤ mL j
    rw [argV_ct]
    show 1 + n ≤ mL j
    omega
  · exact Nat.le_of_ble_eq_true rfl
  · have h9 := (mok_sp j b1).1.2.2.2.1
    show 8 + (mL j + 11) + 200 * 43 ≤ 84000
    omega
/-- a case of the law -/
theorem lw_case {H : Heap} {locs : List Loc} {cells slots : Nat} {ls : Array Slot} {i pc n ix1 ix2 n1 n2 ji jm : Nat} {M : Mm} {bb ln : Nat} {tx : Nat → Nat} (C0 : Lw "IceMannersLaw" code 7 p s m args c D tA ρ A) (hB : caseB pc n ix1 ix2 n1 n2 ji jm = true) (hX : va_X b L xs s s.heap) (hbl : b < s.heap.size) (hbA : ¬ A b) (hi : i + 6 ≤ L) (hL : L ≤ 3072) (hcs : cells ≤ room_1.cells ∧ slots ≤ room_1.slots)
    (h0 : ls[0]? = some (.val (.ref b))) (h1 : ls[1]? = some (.val (.ref (ρ 0)))) (h2 : ls[2]? = some (.val (.ref (ρ 114)))) (h4 : ls[4]? = some (.val (.int (nI i)))) (hl : ls.size = 7)
    (hP : va_P D cls (wl ρ tA M) H) (hS : va_S A s.heap H locs) (hM : PR bb ln tx ji jm (argV xs i 1 n) M)
    (k : ∀ (M' : Mm) (H1 : Heap) (locs1 : List Loc), JV (bb + 64) ln tx M' → va_P D cls (wl ρ tA M') H1 → va_S A s.heap H1 locs1 → Kp ρ H H1 → W p l e room_1 s m args below meth c H1 locs1 cells slots Qf (F0 m 1265 ls [])) :
    W p l e room_1 s m args below meth c H locs cells slots Qf (F0 m pc ls []) := by
  simp only [caseB, Bool.and_eq_true, decide_eq_true_eq] at hB
  obtain ⟨⟨⟨⟨⟨⟨⟨⟨⟨b0, b1⟩, b2⟩, b3⟩, b4⟩, b5⟩, b6⟩, b7⟩, b8⟩, b9⟩ := hB
  have hx := C0.1
  have hb := C0.2.1
  refine lv_aload_n hx hb (dcL_eq b1) rfl h1 ?_
  refine lw_args hx hb hX hbl hbA hS h0 h4 hi hL n (pc + 1) 1 _ b2 (by omega) ?_
  refine lw_callB C0 b8 (dcL_eq b3) rfl hl hcs (Nat.zero_le _) hP hS hM (fun r M1 H1 locs1 hq hP1 hS1 hk1 => ?_)
  obtain ⟨v, rfl, hM1⟩ := hq
  rw [show pc + 1 + 6 * n + 3 = pc + 4 + 6 * n from by omega]
  refine lv_aload_n hx hb (dcL_eq b4) rfl h2 ?_
  rw [show pc + 4 + 6 * n + 1 = pc + 5 + 6 * n from by omega]
  refine lw_args hx hb hX hbl hbA hS1 h0 h4 hi hL n (pc + 5 + 6 * n) 1 _ b5 (by omega) ?_
  rw [show pc + 5 + 6 * n + 6 * n = pc + 5 + 12 * n from by omega]
  refine lw_callB C0 b9 (dcL_eq b6) rfl hl hcs (by show 1 + 0 ≤ 8; decide) hP1 hS1 hM1 (fun r M2 H2 locs2 hq hP2 hS2 hk2 => ?_)
  obtain ⟨rfl, hJ⟩ := hq
  rw [show pc + 5 + 12 * n + 3 = pc + 8 + 12 * n from by omega]
  exact lv_icmp_eq (x := v) (y := v) (tgt := 1265) hx hb (dcL_eq b7) (by omega) (fun _ => k M2 H2 locs2 hJ hP2 hS2 (hk1.tr hk2)) (fun h => absurd rfl h)
end LAW
set_option maxRecDepth 100000 in
theorem lc_feed : caseB 196 5 23 27 575 1516 0 42 = true := by decide +kernel
set_option maxRecDepth 100000 in
theorem lc_end : caseB 269 1 28 32 583 1525 2 44 = true := by decide +kernel
set_option maxRecDepth 100000 in
theorem lc_lake : caseB 294 0 33 37 587 1716 3 72 = true := by decide +kernel
set_option maxRecDepth 100000 in
theorem lc_fault : caseB 307 0 38 41 749 1796 5 73 = true := by decide +kernel
set_option maxRecDepth 100000 in
theorem lc_cell : caseB 388 3 51 55 753 1861 6 88 = true := by decide +kernel
set_option maxRecDepth 100000 in
theorem lc_now : caseB 437 1 56 59 766 1865 7 89 = true := by decide +kernel
set_option maxRecDepth 100000 in
theorem lc_go : caseB 462 2 60 63 787 1873 10 98 = true := by decide +kernel
set_option maxRecDepth 100000 in
theorem lc_bow : caseB 499 1 64 67 819 1881 11 99 = true := by decide +kernel
set_option maxRecDepth 100000 in
theorem lc_praise : caseB 524 2 68 71 836 1896 12 100 = true := by decide +kernel
set_option maxRecDepth 100000 in
theorem lc_swear : caseB 561 1 72 75 857 1912 13 101 = true := by decide +kernel
set_option maxRecDepth 100000 in
theorem lc_hours : caseB 586 1 76 79 882 1920 14 102 = true := by decide +kernel
set_option maxRecDepth 100000 in
theorem lc_undo : caseB 611 0 80 83 925 1932 16 104 = true := by decide +kernel
set_option maxRecDepth 100000 in
theorem lc_way : caseB 624 3 84 87 933 1936 17 109 = true := by decide +kernel
set_option maxRecDepth 100000 in
theorem lc_wayAt : caseB 673 1 88 91 961 1949 19 110 = true := by decide +kernel
set_option maxRecDepth 100000 in
theorem lc_bows : caseB 698 3 92 95 969 1953 20 111 = true := by decide +kernel
set_option maxRecDepth 100000 in
theorem lc_firm : caseB 747 3 96 99 982 1957 21 112 = true := by decide +kernel
set_option maxRecDepth 100000 in
theorem lc_swears : caseB 796 1 100 103 995 1961 22 114 = true := by decide +kernel
set_option maxRecDepth 100000 in
theorem lc_falls : caseB 821 1 104 107 1000 1977 23 115 = true := by decide +kernel
set_option maxRecDepth 100000 in
theorem lc_fair : caseB 846 0 108 111 1013 1981 26 116 = true := by decide +kernel
set_option maxRecDepth 100000 in
theorem lc_swore : caseB 859 0 112 115 1026 1985 27 119 = true := by decide +kernel
set_option maxRecDepth 100000 in
theorem lc_ask : caseB 872 0 116 119 1047 2001 32 120 = true := by decide +kernel
set_option maxRecDepth 100000 in
theorem lc_stands : caseB 885 1 120 123 1008 2005 25 121 = true := by decide +kernel
set_option maxRecDepth 100000 in
theorem lc_drawn : caseB 1016 2 136 139 903 2041 15 132 = true := by decide +kernel
set_option maxRecDepth 100000 in
theorem lc_odds : caseB 1053 3 140 143 1004 2058 24 133 = true := by decide +kernel
set_option maxRecDepth 100000 in
theorem lc_book : caseB 1102 1 144 147 1267 2062 33 136 = true := by decide +kernel
set_option maxRecDepth 100000 in
theorem lc_told : caseB 1127 1 148 151 1332 2078 35 137 = true := by decide +kernel
set_option maxRecDepth 100000 in
theorem lc_sentence : caseB 1152 0 152 155 1336 2082 36 144 = true := by decide +kernel
set_option maxRecDepth 100000 in
theorem lc_said : caseB 1165 1 156 159 1389 2110 37 147 = true := by decide +kernel
set_option maxRecDepth 100000 in
theorem lc_image : caseB 1190 1 160 163 1414 2122 38 148 = true := by decide +kernel
set_option maxRecDepth 100000 in
theorem lc_restore : caseB 1215 1 164 167 1418 2126 39 149 = true := by decide +kernel
set_option maxRecDepth 100000 in
theorem lc_count : caseB 1240 1 168 171 783 2130 8 150 = true := by decide +kernel
set_option maxRecDepth 100000 in
theorem lc_40 : decode code 40 = .ok (.tableswitch 1225 0 34 #[156, 229, 254, 267, 280, 348, 397, 422, 459, 484, 521, 546, 571, 584, 633, 658, 707, 756, 781, 806, 819, 832, 845, 870, 926, 951, 976, 1013, 1062, 1087, 1112, 1125, 1150, 1175, 1200], 156) := by decide +kernel
