/-! The small machine's judgement holds of the machine. -/
def yO : MethodName := ⟨"java/lang/Enum", "ordinal", "()I"⟩
abbrev cO : ByteArray := prog_21_method_2_code
theorem dO0 : decode cO 0 = .ok (.aload_n 0, 1) := by decide +kernel
theorem dO1 : decode cO 1 = .ok (.getfield 7, 3) := by decide +kernel
theorem dO4 : decode cO 4 = .ok (.ireturn, 1) := by decide +kernel
/-- the words of Enum.ordinal, and of every method -/
def WdO : Prop := Cond.code yO cO 1 (some .int) ∈ Tg ∧ Cond.fieldLink "java/lang/Enum" 7 "java/lang/Enum" "ordinal" "I" ∈ Tg ∧ Cond.sameMethod "IceManners$Kind" "java/lang/Enum" "ordinal" "()I" ∈ Tg ∧ Cond.selects "IceManners$Kind" ⟨"IceManners$Kind", "ordinal", "()I"⟩ yO ∈ Tg ∧ Cond.instanceMethod yO ∈ Tg ∧ Cond.initialized "java/lang/Enum" ∈ Tg
set_option maxHeartbeats 4000000 in
theorem met_ord (l : Launch) (a : Nat) (n : Int32) (hw : WdO) : Met l yO (.code yO cO 1 (some .int) :: Tg) { frames := 0, cells := 0, slots := 0, locals := 0 } (va_Pc [.ref a] (fun U => va_OF "java/lang/Enum" "ordinal" "I" (.int n) a (fun _ => False) U U.heap)) (va_Qi (fun (r : Int32) (_ : Unit) => r = n) (fun _ _ => True) (fun _ => False)) 0 0 (fun _ => False) := by
  refine Met.ofW (cc := cO) (maxL := 1) (ret := some .int) (by decide) rfl ?_
  intro p e s m args below meth c s₁ B hml hv
  obtain ⟨rfl, hF⟩ := hv
  have hx := B.exec
  have hb := B.bytes
  have hr := B.returns
  have hts := atoms_spec (ws := .code yO cO 1 (some .int) :: Tg) B.pre
  have hown : s.vm.findClass "java/lang/Enum" = some m.cls := findClass_of_methodNamed B.named
  have hlocks := B.notSynchronized
  have hl := lv_entry ([.ref a]) (n := 1) (Nat.le_of_ble_eq_true rfl)
  rw [lg_entry_eq]
  generalize (lg_sl ([.ref a]) ++ List.replicate (1 - (lg_sl ([.ref a])).length) Slot.unset).toArray = ls at hl ⊢
  have hl : lv_has ls 1 [(0, .ref a)] := hl
  refine lv_aload_n hx hb dO0 rfl (lv_at hl 0 rfl) ?_
  refine vk_getf hx hb hF va_S.rf hown (hts _ (List.mem_cons_of_mem _ hw.2.1)) (fun _ h9 => h9) dO1 ?_
  exact W.iret (v := n) hx hb hr (fun t ht hW => ⟨⟨n, (), rfl, rfl, trivial⟩, (va_S.rf (A := fun _ => False)).F ht⟩) (fun _ h9 => by cases h9) dO4
theorem Tg_GoodIn {ws : List Cond} (h : ∀ w ∈ ws, w ∈ Tg) : GoodIn Tg ws := Tg_good ws h Tg (fun _ h9 => h9)
section SOU
variable {p : Program} {l : Launch} {e : Env} {R : Room} {s : State} {m : MethodId} {args : Array Value} {below : List Frame} {meth : Method} {cd : Code} {Qf : State → Prop} {D : va_G} {tA : Nat → ClassId} {ρ : Nat → Nat} {A : Nat → Prop} {c c' : Cf} {o : List Prop}
theorem ct_tv (ρ : Nat → Nat) (st : List Value) : ((st.map (tv ρ)).map (fun v => v.category)).sum = ct st := by
  unfold ct
  rw [List.map_map]
  congr 1
  exact List.map_congr_left (fun v _ => tv_cat ρ v)
set_option maxHeartbeats 4000000 in
theorem sg_ord {j x : Nat} (hw : WdO) (C0 : Cx j p R s m args cd D tA ρ A) (hA : ∀ q, s.heap.size ≤ q → A q) (hd : decode (mC j) c.1 = .ok (.invokevirtual x, 3)) (hlk : Cond.methodLink (mY j).cls x ⟨"IceManners$Kind", "ordinal", "()I"⟩ ∈ Tg) (ho : allP o)
    (h : o_ord c = some (c', o)) (k : Gg p l e R s m args below meth cd Qf D tA ρ A (mL j) c') : Gg p l e R s m args below meth cd Qf D tA ρ A (mL j) c := by
  obtain ⟨hx, hb, hml, hown, hts, hK, hD, hI, hN, hR⟩ := C0
  unfold o_ord at h
  split at h
  · rename_i pc lv q st M
    cases h
    obtain ⟨hq, hct⟩ := ho
    have hct : ct st ≤ 8 := hct
    obtain ⟨i, hi, rfl⟩ := isK_off hq
    rw [Nat.add_sub_cancel_left] at k
    intro H locs ls hP hS hl
    have hF : va_OF "java/lang/Enum" "ordinal" "I" (.int (nI i)) (ρ (100000 + i)) A s s.heap := by
      have h9 := (hI.1.1 i hi).2.2 _ (List.mem_singleton.mpr rfl)
      have e9 : kOrd.getD i 0 = nI i := by
        unfold kOrd
        rw [List.getD_eq_getElem?_getD, List.getElem?_map, List.getElem?_range (by omega)]
        rfl
      rw [e9] at h9
      exact h9
    have hFH := hF.kept hS.2.1
    refine va_calli (va_runU (As := []) (rest := st.map (tv ρ)) (x := ⟨"IceManners$Kind", "ordinal", "()I"⟩) (C := "IceManners$Kind") (owner := "java/lang/Enum") ⟨hx, hb, hml, hown, hts⟩ (met_ord l (ρ (100000 + i)) (nI i) hw)
      (va_cwU 0 hts (Tg_GoodIn (fun w h9 => ?_)) rfl rfl rfl rfl ⟨by decide, by decide, by decide +kernel⟩ ⟨by show 0 + 1 ≤ R.frames; omega, by show 8 + (1 + 11) + 0 ≤ R.locals; omega⟩)
      ⟨fun a U g mk q9 => ⟨q9.1, q9.2.moved (u := U) (U := U.calling g mk a) (Vm.Alike.refl U.vm)⟩, ?_, fun U hU hW => ⟨rfl, by show va_OF _ _ _ _ _ _ U U.heap; rw [hU]; exact (hFH.moved hW.alike).narrow (fun _ h9 => h9.elim)⟩⟩ rfl rfl hl.1 rfl ?_ hd ⟨Nat.zero_le _, Nat.zero_le _⟩) hS (fun q _ h9 => h9.elim) (fun q h9 => h9.elim) (fun r u t H1 locs1 ht hvm hw9 hB hz hk hS1 => ?_)
    · unfold va_wsU at h9
      rcases List.mem_append.mp h9 with h9 | h9
      · simp only [List.mem_cons, List.not_mem_nil, or_false] at h9
        rcases h9 with rfl | rfl | rfl | rfl | rfl
        · exact hlk
        · exact hw.2.2.1
        · exact hw.2.2.2.1
        · exact hw.2.2.2.2.1
        · exact hw.2.2.2.2.2
      · rcases List.mem_cons.mp h9 with rfl | h9
        · exact hw.1
        · exact h9
    · exact va_Orecv (hI.1.1 i hi).2.1 hS
    · show 2 * 0 + ((st.map (tv ρ)).map (fun v => v.category)).sum ≤ 8
      rw [ct_tv]
      omega
    · rw [hw9]
      exact k H1 locs1 ls (hP.kept (fun k9 q9 hq9 => hk q9.1 (hP k9 q9 hq9).lt (fun h9 => h9))) hS1 hl
  · cases h
end SOU
