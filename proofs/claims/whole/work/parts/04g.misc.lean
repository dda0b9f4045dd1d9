theorem isK_off {q : Nat} (h : isK q) : ∃ i, i < 36 ∧ q = 100000 + i := ⟨q - 100000, Nat.sub_lt_left_of_lt_add h.1 h.2, (Nat.add_sub_of_le h.1).symm⟩
def kNames : List String := ["END", "BAD", "DIGITS", "NAME", "SEMICOLON", "LESS", "EQUAL", "MORE", "OPEN", "CLOSE", "LAKE", "ICE", "PERSON", "RUDE", "CROSS", "HOLLOW", "FROST", "EAST", "SOUTH", "WEST", "NORTH", "BOWS", "PRAISES", "SWEARS", "HOUR", "OR", "AND", "NOT", "FALLEN", "BOWED", "BY", "OVER", "TEMPER", "LOAD", "PRAISED", "NUMBER"]
def kSw : List Int := [0, 0, 0, 0, 0, 0, 0, 0, 17, 0, 5, 6, 7, 8, 9, 10, 11, 1, 2, 3, 4, 13, 14, 15, 12, 27, 26, 16, 18, 19, 20, 21, 22, 23, 24, 25]
def kOrd : List Int32 := (List.range 36).map nI
/-- what never changes: the enum's constants and their fields, the static rows -/
def Stt (ρ : Nat → Nat) (A : Nat → Prop) (U : State) (H : Heap) : Prop :=
  va_En "IceManners$Kind" "LIceManners$Kind;" kNames [("java/lang/Enum", "ordinal", "I", kOrd)] (fun i => ρ (100000 + i)) A U H ∧
  va_Ef 36 "IceManners$Kind" "code" "J" (fun i => .long (Int64.ofInt (kcodes.getD i 0))) (fun i => ρ (100000 + i)) A U H ∧
  (va_Z "IceManners" "STEP_X" "[I" (.ref (ρ 200000)) A U H ∧ va_T .int (ρ 200000) 4 (fun k => .int (Int32.ofInt (([1, 0, -1, 0] : List Int).getD k 0))) A U H) ∧
  (va_Z "IceManners" "STEP_Y" "[I" (.ref (ρ 200001)) A U H ∧ va_T .int (ρ 200001) 4 (fun k => .int (Int32.ofInt (([0, 1, 0, -1] : List Int).getD k 0))) A U H) ∧
  (va_Z "IceManners$Kind" "ALL" "[LIceManners$Kind;" (.ref (ρ 200002)) A U H ∧ va_T (.object "IceManners$Kind") (ρ 200002) 36 (fun k => .ref (ρ (100000 + k))) A U H) ∧
  (va_Z "IceManners$1" "$SwitchMap$IceManners$Kind" "[I" (.ref (ρ 200003)) A U H ∧ va_T .int (ρ 200003) 36 (fun k => .int (Int32.ofInt (kSw.getD k 0))) A U H)
theorem Stt.moved {ρ : Nat → Nat} {A : Nat → Prop} {u U : State} {H : Heap} (hvm : u.vm.Alike U.vm) (h : Stt ρ A u H) : Stt ρ A U H :=
  ⟨va_En.moved hvm h.1, va_Ef.moved hvm h.2.1, ⟨va_Z.moved hvm h.2.2.1.1, va_T.moved hvm h.2.2.1.2⟩, ⟨va_Z.moved hvm h.2.2.2.1.1, va_T.moved hvm h.2.2.2.1.2⟩, ⟨va_Z.moved hvm h.2.2.2.2.1.1, va_T.moved hvm h.2.2.2.2.1.2⟩, ⟨va_Z.moved hvm h.2.2.2.2.2.1, va_T.moved hvm h.2.2.2.2.2.2⟩⟩
theorem Stt.kept {ρ : Nat → Nat} {A : Nat → Prop} {U : State} {H H1 : Heap} (h : Stt ρ A U H) (hq : ∀ a : Nat, a < H.size → ¬ A a → H1[a]? = H[a]?) : Stt ρ A U H1 :=
  ⟨va_En.kept h.1 hq, va_Ef.kept h.2.1 hq, ⟨h.2.2.1.1.kept hq, h.2.2.1.2.kept hq⟩, ⟨h.2.2.2.1.1.kept hq, h.2.2.2.1.2.kept hq⟩, ⟨h.2.2.2.2.1.1.kept hq, h.2.2.2.2.1.2.kept hq⟩, ⟨h.2.2.2.2.2.1.kept hq, h.2.2.2.2.2.2.kept hq⟩⟩
theorem Stt.narrow {ρ : Nat → Nat} {A B : Nat → Prop} {U : State} {H : Heap} (h : Stt ρ A U H) (hAB : ∀ q, B q → A q) : Stt ρ B U H :=
  ⟨va_En.narrow h.1 hAB, va_Ef.narrow h.2.1 hAB, ⟨h.2.2.1.1.narrow hAB, h.2.2.1.2.narrow hAB⟩, ⟨h.2.2.2.1.1.narrow hAB, h.2.2.2.1.2.narrow hAB⟩, ⟨h.2.2.2.2.1.1.narrow hAB, h.2.2.2.2.1.2.narrow hAB⟩, ⟨h.2.2.2.2.2.1.narrow hAB, h.2.2.2.2.2.2.narrow hAB⟩⟩
/-- a static field's class, name and descriptor, by the place of what it holds -/
def stN (q : Nat) : String × String × String := if q = 200000 then ("IceManners", "STEP_X", "[I") else if q = 200001 then ("IceManners", "STEP_Y", "[I") else if q = 200002 then ("IceManners$Kind", "ALL", "[LIceManners$Kind;") else if q = 200003 then ("IceManners$1", "$SwitchMap$IceManners$Kind", "[I") else ("IceManners$Kind", kNames.getD (q - 100000) "", "LIceManners$Kind;")
def isSt (q : Nat) : Prop := isK q ∨ q = 200000 ∨ q = 200001 ∨ q = 200002 ∨ q = 200003
theorem Stt.z {ρ : Nat → Nat} {A : Nat → Prop} {U : State} {H : Heap} (h : Stt ρ A U H) {q : Nat} (hq : isSt q) : va_Z (stN q).1 (stN q).2.1 (stN q).2.2 (.ref (ρ q)) A U H := by
  rcases hq with hq | rfl | rfl | rfl | rfl
  · obtain ⟨i, hi, rfl⟩ := isK_off hq
    have e : stN (100000 + i) = ("IceManners$Kind", kNames.getD i "", "LIceManners$Kind;") := by
      have ne : ∀ n, 100036 ≤ n → ¬ (100000 + i = n) := fun n hn h9 => Nat.not_le.mpr (Nat.add_lt_add_left hi 100000) (h9 ▸ hn)
      unfold stN
      rw [if_neg (ne _ (Nat.le_of_ble_eq_true rfl)), if_neg (ne _ (Nat.le_of_ble_eq_true rfl)), if_neg (ne _ (Nat.le_of_ble_eq_true rfl)), if_neg (ne _ (Nat.le_of_ble_eq_true rfl)), Nat.add_sub_cancel_left]
    rw [e]
    exact (h.1.1 i hi).1
  · exact h.2.2.1.1
  · exact h.2.2.2.1.1
  · exact h.2.2.2.2.1.1
  · exact h.2.2.2.2.2.1
section SNX
variable {p : Program} {l : Launch} {e : Env} {R : Room} {s : State} {m : MethodId} {args : Array Value} {below : List Frame} {meth : Method} {cd : Code} {Qf : State → Prop} {D : va_G} {tA : Nat → ClassId} {ρ : Nat → Nat} {A : Nat → Prop} {nL : Nat} {c c' : Cf} {o : List Prop}
variable {cc : ByteArray} {own : String} {Ts : List Cond}
theorem sg_lcmp (hx : p.tables.exec = Jvm.exec) (hb : cd.code = cc) (hd : decode cc c.1 = .ok (.lcmp, 1)) (h : o_lcmp c = some (c', o)) (k : Gg p l e R s m args below meth cd Qf D tA ρ A nL c') : Gg p l e R s m args below meth cd Qf D tA ρ A nL c := by
  unfold o_lcmp at h
  split at h
  · cases h
    exact fun H locs ls hP hS hl => W.lcmp hx hb hd (k H locs ls hP hS hl)
  · cases h
theorem sg_i2l (hx : p.tables.exec = Jvm.exec) (hb : cd.code = cc) (hd : decode cc c.1 = .ok (.i2l, 1)) (h : o_i2l c = some (c', o)) (k : Gg p l e R s m args below meth cd Qf D tA ρ A nL c') : Gg p l e R s m args below meth cd Qf D tA ρ A nL c := by
  unfold o_i2l at h
  split at h
  · cases h
    exact fun H locs ls hP hS hl => lv_i2l hx hb hd rfl (k H locs ls hP hS hl)
  · cases h
theorem sg_l2i (hx : p.tables.exec = Jvm.exec) (hb : cd.code = cc) (hd : decode cc c.1 = .ok (.l2i, 1)) (h : o_l2i c = some (c', o)) (k : Gg p l e R s m args below meth cd Qf D tA ρ A nL c') : Gg p l e R s m args below meth cd Qf D tA ρ A nL c := by
  unfold o_l2i at h
  split at h
  · cases h
    exact fun H locs ls hP hS hl => lv_l2i hx hb hd rfl (k H locs ls hP hS hl)
  · cases h
theorem sg_dup (hx : p.tables.exec = Jvm.exec) (hb : cd.code = cc) (hd : decode cc c.1 = .ok (.dup, 1)) (h : o_dup c = some (c', o)) (k : Gg p l e R s m args below meth cd Qf D tA ρ A nL c') : Gg p l e R s m args below meth cd Qf D tA ρ A nL c := by
  unfold o_dup at h
  split at h
  · cases h
    exact fun H locs ls hP hS hl => lv_dup hx hb hd rfl (k H locs ls hP hS hl)
  · cases h
    exact fun H locs ls hP hS hl => lv_dup hx hb hd rfl (k H locs ls hP hS hl)
  · cases h
theorem sg_pop (hx : p.tables.exec = Jvm.exec) (hb : cd.code = cc) (hd : decode cc c.1 = .ok (.pop, 1)) (h : o_pop c = some (c', o)) (k : Gg p l e R s m args below meth cd Qf D tA ρ A nL c') : Gg p l e R s m args below meth cd Qf D tA ρ A nL c := by
  unfold o_pop at h
  split at h
  · cases h
    exact fun H locs ls hP hS hl => lv_pop hx hb hd rfl (k H locs ls hP hS hl)
  · cases h
    exact fun H locs ls hP hS hl => lv_pop hx hb hd rfl (k H locs ls hP hS hl)
  · cases h
theorem sg_dup2 (hx : p.tables.exec = Jvm.exec) (hb : cd.code = cc) (hd : decode cc c.1 = .ok (.dup2, 1)) (h : o_dup2 c = some (c', o)) (k : Gg p l e R s m args below meth cd Qf D tA ρ A nL c') : Gg p l e R s m args below meth cd Qf D tA ρ A nL c := by
  unfold o_dup2 at h
  split at h
  · cases h
    exact fun H locs ls hP hS hl => lv_dup2_11 hx hb hd rfl rfl (k H locs ls hP hS hl)
  · cases h
theorem sg_goto {off : Int} {t : Nat} (hx : p.tables.exec = Jvm.exec) (hb : cd.code = cc) (hd : decode cc c.1 = .ok (.goto off, 3)) (ht : (c.1 : Int) + off = (t : Int)) (h : o_goto t c = some (c', o)) (k : Gg p l e R s m args below meth cd Qf D tA ρ A nL c') : Gg p l e R s m args below meth cd Qf D tA ρ A nL c := by
  cases h
  exact fun H locs ls hP hS hl => lv_goto hx hb hd ht (k H locs ls hP hS hl)
theorem sg_ac {b : Bool} {off : Int} {t : Nat} (hx : p.tables.exec = Jvm.exec) (hb : cd.code = cc) (hd : (b = true ∧ decode cc c.1 = .ok (.if_acmp .eq off, 3)) ∨ (b = false ∧ decode cc c.1 = .ok (.if_acmp .ne off, 3))) (ht : (c.1 : Int) + off = (t : Int)) (hI : Stt ρ A s s.heap) (ho : allP o) (h : o_ac b t c = some (c', o)) (k : Gg p l e R s m args below meth cd Qf D tA ρ A nL c') : Gg p l e R s m args below meth cd Qf D tA ρ A nL c := by
  unfold o_ac at h
  split at h
  · rename_i pc lv y x st M
    cases h
    obtain ⟨kx, ky⟩ := ho
    have ky : isK y := ky
    have inj : some (ρ x) = some (ρ y) ↔ x = y := by
      constructor
      · intro e9
        have e9 : ρ x = ρ y := Option.some.inj e9
        obtain ⟨i, hi, rfl⟩ := isK_off kx
        obtain ⟨j, hj, rfl⟩ := isK_off ky
        rw [hI.1.2 i j hi hj e9]
      · intro e9; rw [e9]
    intro H locs ls hP hS hl
    have k9 := k H locs ls hP hS hl
    dsimp only at k9
    rcases hd with ⟨rfl, hd⟩ | ⟨rfl, hd⟩
    · refine lv_acmp_eq (rx := some (ρ x)) (ry := some (ρ y)) hx hb hd ht (fun h9 => ?_) (fun h9 => ?_)
      · rw [if_pos (by rw [inj.mp h9]; simp)] at k9; exact k9
      · rw [if_neg (by intro h8; exact h9 (inj.mpr (by simpa using h8)))] at k9; exact k9
    · refine lv_acmp_ne (rx := some (ρ x)) (ry := some (ρ y)) hx hb hd ht (fun h9 => ?_) (fun h9 => ?_)
      · rw [if_pos (by have : ¬ x = y := fun h8 => h9 (inj.mpr h8); simp [this])] at k9; exact k9
      · rw [if_neg (by have : x = y := inj.mp h9; simp [this])] at k9; exact k9
  · cases h
theorem sg_gets {q ix : Nat} (hx : p.tables.exec = Jvm.exec) (hb : cd.code = cc) (hown : s.vm.findClass own = some m.cls) (hd : decode cc c.1 = .ok (.getstatic ix, 3)) (hI : Stt ρ A s s.heap) (hq : isSt q)
    (hlk : (Cond.fieldLink own ix (stN q).1 (stN q).2.1 (stN q).2.2).before args s = true ∨ ∃ host, (Cond.fieldLinkNest own ix (stN q).1 (stN q).2.1 (stN q).2.2 host).before args s = true)
    (h : o_push 3 (.ref q) c = some (c', o)) (k : Gg p l e R s m args below meth cd Qf D tA ρ A nL c') : Gg p l e R s m args below meth cd Qf D tA ρ A nL c := by
  cases h
  intro H locs ls hP hS hl
  rcases hlk with hlk | ⟨host, hlk⟩
  · exact va_gets hx hb (hI.z hq) hS hown hlk (fun _ h9 => h9) hd (k H locs ls hP hS hl)
  · exact va_getsN hx hb (hI.z hq) hS hown hlk (fun _ h9 => h9) hd (k H locs ls hP hS hl)
theorem sg_kcode {ix : Nat} (hx : p.tables.exec = Jvm.exec) (hb : cd.code = cc) (hown : s.vm.findClass own = some m.cls) (hd : decode cc c.1 = .ok (.getfield ix, 3)) (hI : Stt ρ A s s.heap) (ho : allP o)
    (hlk : (Cond.fieldLink own ix "IceManners$Kind" "code" "J").before args s = true)
    (h : o_kcode c = some (c', o)) (k : Gg p l e R s m args below meth cd Qf D tA ρ A nL c') : Gg p l e R s m args below meth cd Qf D tA ρ A nL c := by
  unfold o_kcode at h
  split at h
  · rename_i pc lv q st M
    cases h
    obtain ⟨i, hi, rfl⟩ := isK_off (show isK q from ho)
    intro H locs ls hP hS hl
    rw [Nat.add_sub_cancel_left] at k
    exact vk_getf hx hb (hI.2.1 i hi) hS hown hlk (fun _ h9 => h9) hd (k H locs ls hP hS hl)
  · cases h
theorem sg_kall (hx : p.tables.exec = Jvm.exec) (hb : cd.code = cc) (hd : decode cc c.1 = .ok (.aaload, 1)) (hI : Stt ρ A s s.heap) (ho : allP o)
    (h : o_kall c = some (c', o)) (k : Gg p l e R s m args below meth cd Qf D tA ρ A nL c') : Gg p l e R s m args below meth cd Qf D tA ρ A nL c := by
  unfold o_kall at h
  split at h
  · cases h
    obtain ⟨rfl, hin⟩ := ho
    exact fun H locs ls hP hS hl => vb_tq hx hb hI.2.2.2.2.1.2 hS hin rfl hd (k H locs ls hP hS hl)
  · cases h
theorem sg_klen (hx : p.tables.exec = Jvm.exec) (hb : cd.code = cc) (hd : decode cc c.1 = .ok (.arraylength, 1)) (hI : Stt ρ A s s.heap) (ho : allP o)
    (h : o_klen c = some (c', o)) (k : Gg p l e R s m args below meth cd Qf D tA ρ A nL c') : Gg p l e R s m args below meth cd Qf D tA ρ A nL c := by
  unfold o_klen at h
  split at h
  · cases h
    have ho : _ = 200002 := ho
    subst ho
    exact fun H locs ls hP hS hl => va_tlen hx hb hI.2.2.2.2.1.2 hS rfl hd (k H locs ls hP hS hl)
  · cases h
theorem sg_step {q : Nat} {ex : List Int} (hx : p.tables.exec = Jvm.exec) (hb : cd.code = cc) (hd : decode cc c.1 = .ok (.iaload, 1)) (hI : Stt ρ A s s.heap) (ho : allP o) (hq : (q = 200000 ∧ ex = [1, 0, -1, 0]) ∨ (q = 200001 ∧ ex = [0, 1, 0, -1]) ∨ (q = 200003 ∧ ex = kSw))
    (h : o_step q ex c = some (c', o)) (k : Gg p l e R s m args below meth cd Qf D tA ρ A nL c') : Gg p l e R s m args below meth cd Qf D tA ρ A nL c := by
  unfold o_step at h
  split at h
  · cases h
    obtain ⟨rfl, hin⟩ := ho
    intro H locs ls hP hS hl
    rcases hq with ⟨rfl, rfl⟩ | ⟨rfl, rfl⟩ | ⟨rfl, rfl⟩
    · exact va_ti hx hb hI.2.2.1.2 hS hin rfl hd (k H locs ls hP hS hl)
    · exact va_ti hx hb hI.2.2.2.1.2 hS hin rfl hd (k H locs ls hP hS hl)
    · exact va_ti hx hb hI.2.2.2.2.2.2 hS hin rfl hd (k H locs ls hP hS hl)
  · cases h
end SNX
