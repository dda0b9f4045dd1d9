/-! line and byteAt of the class. Printed by wip/whole/pF8.py. -/
theorem ly_fold : ∀ (N : List Nat) (t : Txt), (N.foldl lyC t).1 = t.1 + N.length ∧ ∀ j, j < t.1 + N.length → (N.foldl lyC t).2 j = if j < t.1 then t.2 j else N.getD (j - t.1) 0
  | [], t => ⟨rfl, fun j hj => (if_pos hj).symm⟩
  | c :: N, t => by
    obtain ⟨h1, h2⟩ := ly_fold N (lyC t c)
    have e1 : (lyC t c).1 = t.1 + 1 := rfl
    refine ⟨by show (N.foldl lyC (lyC t c)).1 = _; rw [h1, e1, List.length_cons]; omega, fun j hj => ?_⟩
    rw [List.length_cons] at hj
    show (N.foldl lyC (lyC t c)).2 j = _
    rw [h2 j (by rw [e1]; omega), e1]
    by_cases h : j < t.1
    · rw [if_pos (by omega), if_pos h]
      show su t.2 t.1 c j = _
      unfold su
      rw [if_neg (by omega)]
    · rw [if_neg h]
      by_cases h3 : j = t.1
      · subst h3
        rw [if_pos (by omega), Nat.sub_self]
        show su t.2 t.1 c t.1 = c
        unfold su
        rw [if_pos rfl]
      · rw [if_neg (by omega), show j - t.1 = (j - (t.1 + 1)) + 1 from by omega, List.getD_cons_succ]
theorem getD_map0 : ∀ (N : List Nat) (j : Nat), (N.map nI).getD j 0 = nI (N.getD j 0)
  | [], _ => rfl
  | _ :: _, 0 => rfl
  | _ :: N, j + 1 => by rw [List.map_cons, List.getD_cons_succ, List.getD_cons_succ, getD_map0 N j]
theorem Txw_fold {tA : Nat → ClassId} {qt : Nat} {t : Txt} {N : List Nat} {w : va_W} (h : TWp tA qt (t.1 + (N.map nI).length) (fun j => if j < t.1 then nI (t.2 j) else (N.map nI).getD (j - t.1) 0) w) : Txw tA qt (N.foldl lyC t) w := by
  obtain ⟨h1, h2⟩ := ly_fold N t
  rw [List.length_map, ← h1] at h
  refine TWp_cg h (fun j hj => ?_)
  rw [h1] at hj
  rw [h2 j hj]
  by_cases h3 : j < t.1
  · rw [if_pos h3, if_pos h3]
  · rw [if_neg h3, if_neg h3, getD_map0]
section APP
variable {κ : Nat → Nat} {cc : ByteArray} {nL : Nat} {p : Program} {l : Launch} {e : Env} {R : Room} {s : State} {m : MethodId} {args : Array Value} {below : List Frame} {meth : Method} {c : Code} {D : va_G} {tA : Nat → ClassId} {A : Nat → Prop} {H : Heap} {locs : List Loc} {cells slots : Nat} {Qf : State → Prop} {ls : Array Slot} {pc : Nat} {rest : List Value} {w : va_W} {ρ : Nat → Nat} {M : Mm} {t : Txt}
theorem va_ldcwS {own tx : String} {index q : Nat} (hexec : p.tables.exec = Jvm.exec) (hb : c.code = cc) (hown : s.vm.findClass own = some m.cls) (hZ : vk_R own index tx q s) (hdg : decode cc pc = .ok (.ldc_w index, 3))
    (k : W p l e R s m args below meth c H locs cells slots Qf (F0 m (pc + 3) ls (.ref q :: rest))) : W p l e R s m args below meth c H locs cells slots Qf (F0 m pc ls rest) := by
  intro T hT X
  obtain ⟨t, a1, b1⟩ := k T hT X
  exact ⟨t, Jvm.Stand.ldcStringW X hexec hown (text := tx) (a := q) hZ.1 hZ.2 (g := F0 m pc ls rest) rfl (by rw [hb]; exact hdg) t a1, b1⟩
theorem ap_S {i : Nat} {q : Nat × String × List Int32} (hq : txL[i]? = some q) (N : List Nat) (hN : q.2.2 = N.map nI) (C0 : Kf κ "IceManners" cc nL p s m args c D tA A) (hw : Txw tA (ρ 300000) t w) (hP : va_P D clx (wl ρ tA M ++ w) H) (hD : va_D A (wl ρ tA M ++ w)) (hS : va_S A s.heap H locs) (hl : ls.size = nL) (hro : 8 ≤ R.frames ∧ 1600 ≤ R.locals) (hcs : cells + 1 ≤ R.cells ∧ slots + 34 ≤ R.slots) (hm : t.1 + N.length ≤ 34) (hcat : (rest.map (fun v => v.category)).sum ≤ 8) (hdec : decode cc pc = .ok (.invokevirtual 352, 3))
    (k : ∀ (w1 : va_W) (H1 : Heap) (locs1 : List Loc), Txw tA (ρ 300000) (N.foldl lyC t) w1 → va_P D clx (wl ρ tA M ++ w1) H1 → va_D A (wl ρ tA M ++ w1) → va_S A s.heap H1 locs1 → W p l e R s m args below meth c H1 locs1 (cells + 1) (slots + 34) Qf (F0 m (pc + 3) ls (.ref (ρ 300000) :: rest))) : W p l e R s m args below meth c H locs cells slots Qf (F0 m pc ls (.ref (κ (400000 + i)) :: .ref (ρ 300000) :: rest)) := by
  obtain ⟨qb, n, f, ml, g1, g2, g3, g4, rfl⟩ := hw
  refine k_callVA (n := 1) (n1 := 1169) (n2 := 1170) (n3 := 1171) (n4 := 119) (n5 := 1172) (As := [.ref (κ (400000 + i))]) (rest := rest) C0 (s_saps (ρ 300000) qb n t.1 f (fun j => nI (t.2 j)) ml g1 g2 g3 g4 i q hq (by rw [hN, List.length_map]; exact hm)) (by decide +kernel) (va_recv C0.2.2.2.2.2.1 hP.rgt (ci := 11) (q0 := 0) rfl rfl) hP hD hS hl rfl hcat hro hcs hdec rfl (fun r w1 H locs hQ hP hD hS => ?_)
  obtain ⟨rfl, hw1⟩ := hQ
  rw [hN] at hw1
  exact k w1 H locs (Txw_fold hw1) hP hD hS
theorem ap_I {d : Nat} (hd : d < 10) (C0 : Kf κ "IceManners" cc nL p s m args c D tA A) (hw : Txw tA (ρ 300000) t w) (hP : va_P D clx (wl ρ tA M ++ w) H) (hD : va_D A (wl ρ tA M ++ w)) (hS : va_S A s.heap H locs) (hl : ls.size = nL) (hro : 8 ≤ R.frames ∧ 1600 ≤ R.locals) (hcs : cells + 1 ≤ R.cells ∧ slots + 34 ≤ R.slots) (hm : t.1 + 1 ≤ 34) (hcat : (rest.map (fun v => v.category)).sum ≤ 8) (hdec : decode cc pc = .ok (.invokevirtual 358, 3))
    (k : ∀ (w1 : va_W) (H1 : Heap) (locs1 : List Loc), Txw tA (ρ 300000) (lyC t (48 + d)) w1 → va_P D clx (wl ρ tA M ++ w1) H1 → va_D A (wl ρ tA M ++ w1) → va_S A s.heap H1 locs1 → W p l e R s m args below meth c H1 locs1 (cells + 1) (slots + 34) Qf (F0 m (pc + 3) ls (.ref (ρ 300000) :: rest))) : W p l e R s m args below meth c H locs cells slots Qf (F0 m pc ls (.int (nI d) :: .ref (ρ 300000) :: rest)) := by
  obtain ⟨qb, n, f, ml, g1, g2, g3, g4, rfl⟩ := hw
  refine k_callVA (n := 1) (n1 := 1217) (n2 := 1218) (n3 := 1219) (n4 := 119) (n5 := 1220) (As := [.int (nI d)]) (rest := rest) C0 (s_sapi (ρ 300000) qb n t.1 f (fun j => nI (t.2 j)) ml g1 g2 g3 g4 d hd hm) (by decide +kernel) (va_recv C0.2.2.2.2.2.1 hP.rgt (ci := 11) (q0 := 0) rfl rfl) hP hD hS hl rfl hcat hro hcs hdec rfl (fun r w1 H locs hQ hP hD hS => ?_)
  obtain ⟨rfl, hw1⟩ := hQ
  exact k w1 H locs (Txw_ly hw1) hP hD hS
theorem ap_C {v : Nat} (hv : v < 128) (C0 : Kf κ "IceManners" cc nL p s m args c D tA A) (hw : Txw tA (ρ 300000) t w) (hP : va_P D clx (wl ρ tA M ++ w) H) (hD : va_D A (wl ρ tA M ++ w)) (hS : va_S A s.heap H locs) (hl : ls.size = nL) (hro : 8 ≤ R.frames ∧ 1600 ≤ R.locals) (hcs : cells + 1 ≤ R.cells ∧ slots + 34 ≤ R.slots) (hm : t.1 + 1 ≤ 34) (hcat : (rest.map (fun v => v.category)).sum ≤ 8) (hdec : decode cc pc = .ok (.invokevirtual 361, 3))
    (k : ∀ (w1 : va_W) (H1 : Heap) (locs1 : List Loc), Txw tA (ρ 300000) (lyC t v) w1 → va_P D clx (wl ρ tA M ++ w1) H1 → va_D A (wl ρ tA M ++ w1) → va_S A s.heap H1 locs1 → W p l e R s m args below meth c H1 locs1 (cells + 1) (slots + 34) Qf (F0 m (pc + 3) ls (.ref (ρ 300000) :: rest))) : W p l e R s m args below meth c H locs cells slots Qf (F0 m pc ls (.int (nI v) :: .ref (ρ 300000) :: rest)) := by
  obtain ⟨qb, n, f, ml, g1, g2, g3, g4, rfl⟩ := hw
  refine k_callVA (n := 1) (n1 := 1113) (n2 := 1114) (n3 := 1115) (n4 := 119) (n5 := 1116) (As := [.int (nI v)]) (rest := rest) C0 (s_sapc (ρ 300000) qb n t.1 f (fun j => nI (t.2 j)) ml g1 g2 g3 g4 v hv hm) (by decide +kernel) (va_recv C0.2.2.2.2.2.1 hP.rgt (ci := 11) (q0 := 0) rfl rfl) hP hD hS hl rfl hcat hro hcs hdec rfl (fun r w1 H locs hQ hP hD hS => ?_)
  obtain ⟨rfl, hw1⟩ := hQ
  exact k w1 H locs (Txw_ly hw1) hP hD hS
end APP
abbrev kc_lin : ByteArray := prog_1_method_37_code
def ky_lin : MethodName := ⟨"IceManners", "line", "(I)I"⟩
set_option maxRecDepth 100000 in
theorem kd_lin_0 : decode kc_lin 0 = .ok (.aload_n 0, 1) := by decide +kernel
set_option maxRecDepth 100000 in
theorem kd_lin_1 : decode kc_lin 1 = .ok (.getfield 16, 3) := by decide +kernel
set_option maxRecDepth 100000 in
theorem kd_lin_4 : decode kc_lin 4 = .ok (.getfield 33, 3) := by decide +kernel
set_option maxRecDepth 100000 in
theorem kd_lin_7 : decode kc_lin 7 = .ok (.iload_n 1, 1) := by decide +kernel
set_option maxRecDepth 100000 in
theorem kd_lin_8 : decode kc_lin 8 = .ok (.invokevirtual 133, 3) := by decide +kernel
set_option maxRecDepth 100000 in
theorem kd_lin_11 : decode kc_lin 11 = .ok (.ifCond .ne 5, 3) := by decide +kernel
set_option maxRecDepth 100000 in
theorem kd_lin_14 : decode kc_lin 14 = .ok (.iconst (-1), 1) := by decide +kernel
set_option maxRecDepth 100000 in
theorem kd_lin_15 : decode kc_lin 15 = .ok (.ireturn, 1) := by decide +kernel
set_option maxRecDepth 100000 in
theorem kd_lin_16 : decode kc_lin 16 = .ok (.aload_n 0, 1) := by decide +kernel
set_option maxRecDepth 100000 in
theorem kd_lin_17 : decode kc_lin 17 = .ok (.getfield 16, 3) := by decide +kernel
set_option maxRecDepth 100000 in
theorem kd_lin_20 : decode kc_lin 20 = .ok (.getfield 146, 3) := by decide +kernel
set_option maxRecDepth 100000 in
theorem kd_lin_23 : decode kc_lin 23 = .ok (.astore_n 2, 1) := by decide +kernel
set_option maxRecDepth 100000 in
theorem kd_lin_24 : decode kc_lin 24 = .ok (.aload_n 0, 1) := by decide +kernel
set_option maxRecDepth 100000 in
theorem kd_lin_25 : decode kc_lin 25 = .ok (.getfield 86, 3) := by decide +kernel
set_option maxRecDepth 100000 in
theorem kd_lin_28 : decode kc_lin 28 = .ok (.iconst 0, 1) := by decide +kernel
set_option maxRecDepth 100000 in
theorem kd_lin_29 : decode kc_lin 29 = .ok (.invokevirtual 339, 3) := by decide +kernel
set_option maxRecDepth 100000 in
theorem kd_lin_32 : decode kc_lin 32 = .ok (.aload_n 0, 1) := by decide +kernel
set_option maxRecDepth 100000 in
theorem kd_lin_33 : decode kc_lin 33 = .ok (.aload_n 0, 1) := by decide +kernel
set_option maxRecDepth 100000 in
theorem kd_lin_34 : decode kc_lin 34 = .ok (.getfield 16, 3) := by decide +kernel
set_option maxRecDepth 100000 in
theorem kd_lin_37 : decode kc_lin 37 = .ok (.getfield 33, 3) := by decide +kernel
set_option maxRecDepth 100000 in
theorem kd_lin_40 : decode kc_lin 40 = .ok (.getfield 342, 3) := by decide +kernel
set_option maxRecDepth 100000 in
theorem kd_lin_43 : decode kc_lin 43 = .ok (.iload_n 1, 1) := by decide +kernel
set_option maxRecDepth 100000 in
theorem kd_lin_44 : decode kc_lin 44 = .ok (.laload, 1) := by decide +kernel
set_option maxRecDepth 100000 in
theorem kd_lin_45 : decode kc_lin 45 = .ok (.invokevirtual 346, 3) := by decide +kernel
set_option maxRecDepth 100000 in
theorem kd_lin_48 : decode kc_lin 48 = .ok (.aload_n 2, 1) := by decide +kernel
set_option maxRecDepth 100000 in
theorem kd_lin_49 : decode kc_lin 49 = .ok (.iload_n 1, 1) := by decide +kernel
set_option maxRecDepth 100000 in
theorem kd_lin_50 : decode kc_lin 50 = .ok (.invokevirtual 158, 3) := by decide +kernel
set_option maxRecDepth 100000 in
theorem kd_lin_53 : decode kc_lin 53 = .ok (.ifCond .eq 17, 3) := by decide +kernel
set_option maxRecDepth 100000 in
theorem kd_lin_56 : decode kc_lin 56 = .ok (.aload_n 0, 1) := by decide +kernel
set_option maxRecDepth 100000 in
theorem kd_lin_57 : decode kc_lin 57 = .ok (.getfield 86, 3) := by decide +kernel
set_option maxRecDepth 100000 in
theorem kd_lin_60 : decode kc_lin 60 = .ok (.ldc_w 350, 3) := by decide +kernel
set_option maxRecDepth 100000 in
theorem kd_lin_63 : decode kc_lin 63 = .ok (.invokevirtual 352, 3) := by decide +kernel
set_option maxRecDepth 100000 in
theorem kd_lin_66 : decode kc_lin 66 = .ok (.pop, 1) := by decide +kernel
set_option maxRecDepth 100000 in
theorem kd_lin_67 : decode kc_lin 67 = .ok (.goto 73, 3) := by decide +kernel
set_option maxRecDepth 100000 in
theorem kd_lin_70 : decode kc_lin 70 = .ok (.aload_n 0, 1) := by decide +kernel
set_option maxRecDepth 100000 in
theorem kd_lin_71 : decode kc_lin 71 = .ok (.getfield 86, 3) := by decide +kernel
set_option maxRecDepth 100000 in
theorem kd_lin_74 : decode kc_lin 74 = .ok (.ldc_w 356, 3) := by decide +kernel
set_option maxRecDepth 100000 in
theorem kd_lin_77 : decode kc_lin 77 = .ok (.invokevirtual 352, 3) := by decide +kernel
set_option maxRecDepth 100000 in
theorem kd_lin_80 : decode kc_lin 80 = .ok (.aload_n 2, 1) := by decide +kernel
set_option maxRecDepth 100000 in
theorem kd_lin_81 : decode kc_lin 81 = .ok (.getfield 149, 3) := by decide +kernel
set_option maxRecDepth 100000 in
theorem kd_lin_84 : decode kc_lin 84 = .ok (.iload_n 1, 1) := by decide +kernel
set_option maxRecDepth 100000 in
theorem kd_lin_85 : decode kc_lin 85 = .ok (.iaload, 1) := by decide +kernel
set_option maxRecDepth 100000 in
theorem kd_lin_86 : decode kc_lin 86 = .ok (.bipush 8, 2) := by decide +kernel
set_option maxRecDepth 100000 in
theorem kd_lin_88 : decode kc_lin 88 = .ok (.irem, 1) := by decide +kernel
set_option maxRecDepth 100000 in
theorem kd_lin_89 : decode kc_lin 89 = .ok (.invokevirtual 358, 3) := by decide +kernel
set_option maxRecDepth 100000 in
theorem kd_lin_92 : decode kc_lin 92 = .ok (.pop, 1) := by decide +kernel
set_option maxRecDepth 100000 in
theorem kd_lin_93 : decode kc_lin 93 = .ok (.aload_n 0, 1) := by decide +kernel
set_option maxRecDepth 100000 in
theorem kd_lin_94 : decode kc_lin 94 = .ok (.getfield 86, 3) := by decide +kernel
set_option maxRecDepth 100000 in
theorem kd_lin_97 : decode kc_lin 97 = .ok (.bipush 32, 2) := by decide +kernel
set_option maxRecDepth 100000 in
theorem kd_lin_99 : decode kc_lin 99 = .ok (.invokevirtual 361, 3) := by decide +kernel
set_option maxRecDepth 100000 in
theorem kd_lin_102 : decode kc_lin 102 = .ok (.aload_n 2, 1) := by decide +kernel
set_option maxRecDepth 100000 in
theorem kd_lin_103 : decode kc_lin 103 = .ok (.getfield 149, 3) := by decide +kernel
set_option maxRecDepth 100000 in
theorem kd_lin_106 : decode kc_lin 106 = .ok (.iload_n 1, 1) := by decide +kernel
set_option maxRecDepth 100000 in
theorem kd_lin_107 : decode kc_lin 107 = .ok (.iaload, 1) := by decide +kernel
set_option maxRecDepth 100000 in
theorem kd_lin_108 : decode kc_lin 108 = .ok (.bipush 8, 2) := by decide +kernel
set_option maxRecDepth 100000 in
theorem kd_lin_110 : decode kc_lin 110 = .ok (.idiv, 1) := by decide +kernel
set_option maxRecDepth 100000 in
theorem kd_lin_111 : decode kc_lin 111 = .ok (.invokevirtual 358, 3) := by decide +kernel
set_option maxRecDepth 100000 in
theorem kd_lin_114 : decode kc_lin 114 = .ok (.pop, 1) := by decide +kernel
set_option maxRecDepth 100000 in
theorem kd_lin_115 : decode kc_lin 115 = .ok (.aload_n 0, 1) := by decide +kernel
set_option maxRecDepth 100000 in
theorem kd_lin_116 : decode kc_lin 116 = .ok (.getfield 86, 3) := by decide +kernel
set_option maxRecDepth 100000 in
theorem kd_lin_119 : decode kc_lin 119 = .ok (.ldc_w 364, 3) := by decide +kernel
set_option maxRecDepth 100000 in
theorem kd_lin_122 : decode kc_lin 122 = .ok (.invokevirtual 352, 3) := by decide +kernel
set_option maxRecDepth 100000 in
theorem kd_lin_125 : decode kc_lin 125 = .ok (.aload_n 2, 1) := by decide +kernel
set_option maxRecDepth 100000 in
theorem kd_lin_126 : decode kc_lin 126 = .ok (.getfield 177, 3) := by decide +kernel
set_option maxRecDepth 100000 in
theorem kd_lin_129 : decode kc_lin 129 = .ok (.aload_n 2, 1) := by decide +kernel
set_option maxRecDepth 100000 in
theorem kd_lin_130 : decode kc_lin 130 = .ok (.getfield 149, 3) := by decide +kernel
set_option maxRecDepth 100000 in
theorem kd_lin_133 : decode kc_lin 133 = .ok (.iload_n 1, 1) := by decide +kernel
set_option maxRecDepth 100000 in
theorem kd_lin_134 : decode kc_lin 134 = .ok (.iaload, 1) := by decide +kernel
set_option maxRecDepth 100000 in
theorem kd_lin_135 : decode kc_lin 135 = .ok (.iaload, 1) := by decide +kernel
set_option maxRecDepth 100000 in
theorem kd_lin_136 : decode kc_lin 136 = .ok (.invokevirtual 358, 3) := by decide +kernel
set_option maxRecDepth 100000 in
theorem kd_lin_139 : decode kc_lin 139 = .ok (.pop, 1) := by decide +kernel
set_option maxRecDepth 100000 in
theorem kd_lin_140 : decode kc_lin 140 = .ok (.aload_n 2, 1) := by decide +kernel
set_option maxRecDepth 100000 in
theorem kd_lin_141 : decode kc_lin 141 = .ok (.getfield 193, 3) := by decide +kernel
set_option maxRecDepth 100000 in
theorem kd_lin_144 : decode kc_lin 144 = .ok (.iload_n 1, 1) := by decide +kernel
set_option maxRecDepth 100000 in
theorem kd_lin_145 : decode kc_lin 145 = .ok (.ishr, 1) := by decide +kernel
set_option maxRecDepth 100000 in
theorem kd_lin_146 : decode kc_lin 146 = .ok (.iconst 1, 1) := by decide +kernel
set_option maxRecDepth 100000 in
theorem kd_lin_147 : decode kc_lin 147 = .ok (.iand, 1) := by decide +kernel
set_option maxRecDepth 100000 in
theorem kd_lin_148 : decode kc_lin 148 = .ok (.ifCond .eq 14, 3) := by decide +kernel
set_option maxRecDepth 100000 in
theorem kd_lin_151 : decode kc_lin 151 = .ok (.aload_n 0, 1) := by decide +kernel
set_option maxRecDepth 100000 in
theorem kd_lin_152 : decode kc_lin 152 = .ok (.getfield 86, 3) := by decide +kernel
set_option maxRecDepth 100000 in
theorem kd_lin_155 : decode kc_lin 155 = .ok (.ldc_w 366, 3) := by decide +kernel
set_option maxRecDepth 100000 in
theorem kd_lin_158 : decode kc_lin 158 = .ok (.invokevirtual 352, 3) := by decide +kernel
set_option maxRecDepth 100000 in
theorem kd_lin_161 : decode kc_lin 161 = .ok (.pop, 1) := by decide +kernel
set_option maxRecDepth 100000 in
theorem kd_lin_162 : decode kc_lin 162 = .ok (.aload_n 0, 1) := by decide +kernel
set_option maxRecDepth 100000 in
theorem kd_lin_163 : decode kc_lin 163 = .ok (.getfield 86, 3) := by decide +kernel
set_option maxRecDepth 100000 in
theorem kd_lin_166 : decode kc_lin 166 = .ok (.invokevirtual 368, 3) := by decide +kernel
set_option maxRecDepth 100000 in
theorem kd_lin_169 : decode kc_lin 169 = .ok (.ireturn, 1) := by decide +kernel
abbrev kc_byt : ByteArray := prog_1_method_39_code
def ky_byt : MethodName := ⟨"IceManners", "byteAt", "(I)I"⟩
set_option maxRecDepth 100000 in
theorem kd_byt_0 : decode kc_byt 0 = .ok (.iload_n 1, 1) := by decide +kernel
set_option maxRecDepth 100000 in
theorem kd_byt_1 : decode kc_byt 1 = .ok (.ifCond .lt 25, 3) := by decide +kernel
set_option maxRecDepth 100000 in
theorem kd_byt_4 : decode kc_byt 4 = .ok (.iload_n 1, 1) := by decide +kernel
set_option maxRecDepth 100000 in
theorem kd_byt_5 : decode kc_byt 5 = .ok (.aload_n 0, 1) := by decide +kernel
set_option maxRecDepth 100000 in
theorem kd_byt_6 : decode kc_byt 6 = .ok (.getfield 86, 3) := by decide +kernel
set_option maxRecDepth 100000 in
theorem kd_byt_9 : decode kc_byt 9 = .ok (.invokevirtual 368, 3) := by decide +kernel
set_option maxRecDepth 100000 in
theorem kd_byt_12 : decode kc_byt 12 = .ok (.if_icmp .ge 14, 3) := by decide +kernel
set_option maxRecDepth 100000 in
theorem kd_byt_15 : decode kc_byt 15 = .ok (.aload_n 0, 1) := by decide +kernel
set_option maxRecDepth 100000 in
theorem kd_byt_16 : decode kc_byt 16 = .ok (.getfield 86, 3) := by decide +kernel
set_option maxRecDepth 100000 in
theorem kd_byt_19 : decode kc_byt 19 = .ok (.iload_n 1, 1) := by decide +kernel
set_option maxRecDepth 100000 in
theorem kd_byt_20 : decode kc_byt 20 = .ok (.invokevirtual 371, 3) := by decide +kernel
set_option maxRecDepth 100000 in
theorem kd_byt_23 : decode kc_byt 23 = .ok (.goto 4, 3) := by decide +kernel
set_option maxRecDepth 100000 in
theorem kd_byt_26 : decode kc_byt 26 = .ok (.iconst (-1), 1) := by decide +kernel
set_option maxRecDepth 100000 in
theorem kd_byt_27 : decode kc_byt 27 = .ok (.ireturn, 1) := by decide +kernel
theorem spl_at (u : Txt) : spl 24948 8 u = lyC (lyC u 97) 116 := rfl
theorem spl_on (u : Txt) : spl 28526 8 u = lyC (lyC u 111) 110 := rfl
theorem spl_fell (u : Txt) : spl 1717922924 8 u = lyC (lyC (lyC (lyC u 102) 101) 108) 108 := rfl
theorem spl_bowed (u : Txt) : spl 422776890724 8 u = lyC (lyC (lyC (lyC (lyC u 98) 111) 119) 101) 100 := rfl
def QLn (ρ : Nat → Nat) (tA : Nat → ClassId) (M : Mm) (T : Txt) : Option Value → va_W → Prop := fun r w2 => r = some (.int (nI T.1)) ∧ ∃ w', w2 = wl ρ tA M ++ w' ∧ Txw tA (ρ 300000) T w'
section LIN
variable {l : Launch} {κ : Nat → Nat} {D : va_G} {tA : Nat → ClassId} {p : Program} {e : Env} {s : State} {m : MethodId} {args : Array Value} {below : List Frame} {meth : Method} {c : Code} {A : Nat → Prop} {ρ : Nat → Nat} {M : Mm} {σ : Nat → Nat} {q nm9 : Nat} {T t : Txt} {w : va_W} {H : Heap} {locs : List Loc} {ls : Array Slot} {cells slots : Nat}
set_option maxHeartbeats 4000000 in
set_option maxRecDepth 100000 in
theorem lin_3 (C0 : Kf κ "IceManners" kc_lin 3 p s m args c D tA A) (hr : meth.sig.returnType = some .int) (hlocks : meth.locks = false) (hk : ∀ i, 100000 ≤ i → i < 300000 → ρ i = κ i) (hcs : cells ≤ 15 ∧ slots ≤ 510) (hw : Txw tA (ρ 300000) T w) (hP : va_P D clx (wl ρ tA M ++ w) H) (hD : va_D A (wl ρ tA M ++ w)) (hS : va_S A s.heap H locs) (hl : lv_has ls 3 [(2, .ref (ρ 6)), (0, .ref (ρ 0)), (1, .int (nI q))]) : W p l e (rmc 10 15 510) s m args below meth c H locs cells slots (Ke D (QLn ρ tA M T) A below args s 15 510) (F0 m 162 ls []) := by
  have hx := C0.1
  have hb := C0.2.1
  refine lv_aload_n hx hb kd_lin_162 rfl (lv_at hl 1 rfl) ?_
  refine lg_get (pl := 0) (ci := 9) (k := 12) (q := (5, 300000)) (n9 := 535) (C0.lw hk hD.lft) hP.lft.down (by decide +kernel) rfl rfl kd_lin_163 ?_
  obtain ⟨qb, n, f, ml, g1, g2, g3, g4, rfl⟩ := hw
  refine k_callVA (n := 0) (n1 := 1244) (n2 := 1245) (n3 := 1246) (n4 := 119) (n5 := 1247) (As := []) (rest := []) C0 (s_slenb (ρ 300000) qb n T.1 f ml) (by decide +kernel) (va_recv C0.2.2.2.2.2.1 hP.rgt (ci := 11) (q0 := 0) rfl rfl) hP hD hS hl.1 rfl (Nat.zero_le _) ⟨Nat.le_of_ble_eq_true rfl, Nat.le_of_ble_eq_true rfl⟩ hcs kd_lin_166 rfl (fun r w1 H locs hQ hP hD hS => ?_)
  obtain ⟨rfl, rfl⟩ := hQ
  exact k_iret C0 hr hlocks hP hD hS ⟨rfl, _, rfl, qb, n, f, ml, g1, g2, g3, g4, rfl⟩ hcs kd_lin_169
set_option maxHeartbeats 4000000 in
set_option maxRecDepth 100000 in
theorem lin_2 (C0 : Kf κ "IceManners" kc_lin 3 p s m args c D tA A) (hr : meth.sig.returnType = some .int) (hlocks : meth.locks = false) (hk : ∀ i, 100000 ≤ i → i < 300000 → ρ i = κ i) (hSt : StC M 6 σ) (hB : Bd σ) (hq : q < σ 2) (ht : t.1 ≤ 20) (hT : (if (σ 92).testBit q = true then spl 422776890724 8 (lyC t 32) else t) = T) (hcs : cells ≤ 14 ∧ slots ≤ 476) (hw : Txw tA (ρ 300000) t w) (hP : va_P D clx (wl ρ tA M ++ w) H) (hD : va_D A (wl ρ tA M ++ w)) (hS : va_S A s.heap H locs) (hl : lv_has ls 3 [(2, .ref (ρ 6)), (0, .ref (ρ 0)), (1, .int (nI q))]) : W p l e (rmc 10 15 510) s m args below meth c H locs cells slots (Ke D (QLn ρ tA M T) A below args s 15 510) (F0 m 140 ls []) := by
  have hx := C0.1
  have hb := C0.2.1
  have b6 := Bd_2 hB
  have b92 : σ 92 < 64 := hB.2.2.2.2.2.2.2.2.2.2.2.2.2.2.2.2.1
  refine lv_aload_n hx hb kd_lin_140 rfl (lv_at hl 0 rfl) ?_
  refine lg_get (pl := 6) (ci := 5) (k := 6) (q := (0, 0)) (n9 := 254) (C0.lw hk hD.lft) hP.lft.down (by decide +kernel) rfl rfl kd_lin_141 ?_
  refine lv_iload_n hx hb kd_lin_144 rfl (lv_at hl 2 rfl) ?_
  refine lv_ishr hx hb kd_lin_145 ?_
  refine lv_iconst (v := nI 1) hx hb kd_lin_146 (by decide) ?_
  refine lv_iand hx hb kd_lin_147 ?_
  rw [hSt.2.2.1.2.1]
  refine lv_if_eq (tgt := 162) hx hb kd_lin_148 (by decide) (fun h9 => ?_) (fun h9 => ?_)
  · have h8 := (bit_okc (σ 92) b92 q (by omega)).mp h9
    rw [if_neg h8] at hT
    subst hT
    exact lin_3 C0 hr hlocks hk ⟨by omega, by omega⟩ hw hP hD hS hl
  · have h8 : (σ 92).testBit q = true := Classical.not_not.mp (mt (bit_okc (σ 92) b92 q (by omega)).mpr h9)
    rw [if_pos h8, spl_bowed] at hT
    refine lv_aload_n hx hb kd_lin_151 rfl (lv_at hl 1 rfl) ?_
    refine lg_get (pl := 0) (ci := 9) (k := 12) (q := (5, 300000)) (n9 := 535) (C0.lw hk hD.lft) hP.lft.down (by decide +kernel) rfl rfl kd_lin_152 ?_
    refine va_ldcwS hx hb C0.2.2.2.1 (C0.2.2.2.2.2.2.2.2.1.2.2 3 _ rfl).2 kd_lin_155 ?_
    refine ap_S (i := 3) (q := (366, " bowed", [32, 98, 111, 119, 101, 100])) rfl [32, 98, 111, 119, 101, 100] rfl C0 hw hP hD hS hl.1 ⟨Nat.le_of_ble_eq_true rfl, Nat.le_of_ble_eq_true rfl⟩ ⟨by show cells + 1 ≤ 15; omega, by show slots + 34 ≤ 510; omega⟩ (by show t.1 + 6 ≤ 34; omega) (Nat.zero_le _) kd_lin_158 (fun w H locs hw hP hD hS => ?_)
    refine lv_pop hx hb kd_lin_161 rfl ?_
    exact lin_3 C0 hr hlocks hk ⟨by omega, by omega⟩ (by rw [← hT]; exact hw) hP hD hS hl
end LIN
