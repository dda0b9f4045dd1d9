/-- the machine goes on from c: any heap that holds c's memory -/
def Gg (p : Program) (l : Launch) (e : Env) (R : Room) (s : State) (m : MethodId) (args : Array Value) (below : List Frame) (meth : Method) (cd : Code) (Qf : State → Prop) (D : va_G) (tA : Nat → ClassId) (ρ : Nat → Nat) (A : Nat → Prop) (nL : Nat) (c : Cf) : Prop :=
  ∀ (H : Heap) (locs : List Loc) (ls : Array Slot), va_P D cls (wl ρ tA c.2.2.2) H → va_S A s.heap H locs → lv_has ls nL (tvl ρ c.2.1) → W p l e R s m args below meth cd H locs 0 0 Qf (F0 m c.1 ls (c.2.2.1.map (tv ρ)))
section SND
variable {p : Program} {l : Launch} {e : Env} {R : Room} {s : State} {m : MethodId} {args : Array Value} {below : List Frame} {meth : Method} {cd : Code} {Qf : State → Prop} {D : va_G} {tA : Nat → ClassId} {ρ : Nat → Nat} {A : Nat → Prop} {nL : Nat} {c c' : Cf} {o : List Prop}
theorem sg_push {n : Nat} {v : Value} (hr : ∀ (H : Heap) (locs : List Loc) (ls : Array Slot) (rest : List Value), W p l e R s m args below meth cd H locs 0 0 Qf (F0 m (c.1 + n) ls (tv ρ v :: rest)) → W p l e R s m args below meth cd H locs 0 0 Qf (F0 m c.1 ls rest))
    (h : o_push n v c = some (c', o)) (k : Gg p l e R s m args below meth cd Qf D tA ρ A nL c') : Gg p l e R s m args below meth cd Qf D tA ρ A nL c := by
  cases h
  exact fun H locs ls hP hS hl => hr H locs ls _ (k H locs ls hP hS hl)
theorem sg_iload {n x : Nat} (hr : ∀ (H : Heap) (locs : List Loc) (ls : Array Slot) (rest : List Value) (v : Int32), ls[x]? = some (.val (.int v)) → W p l e R s m args below meth cd H locs 0 0 Qf (F0 m (c.1 + n) ls (.int v :: rest)) → W p l e R s m args below meth cd H locs 0 0 Qf (F0 m c.1 ls rest))
    (h : o_iload n x c = some (c', o)) (k : Gg p l e R s m args below meth cd Qf D tA ρ A nL c') : Gg p l e R s m args below meth cd Qf D tA ρ A nL c := by
  unfold o_iload at h
  split at h
  · rename_i v hv
    cases h
    exact fun H locs ls hP hS hl => hr H locs ls _ _ (tvl_lvg hv hl) (k H locs ls hP hS hl)
  · cases h
theorem sg_lload {n x : Nat} (hr : ∀ (H : Heap) (locs : List Loc) (ls : Array Slot) (rest : List Value) (v : Int64), ls[x]? = some (.val (.long v)) → W p l e R s m args below meth cd H locs 0 0 Qf (F0 m (c.1 + n) ls (.long v :: rest)) → W p l e R s m args below meth cd H locs 0 0 Qf (F0 m c.1 ls rest))
    (h : o_lload n x c = some (c', o)) (k : Gg p l e R s m args below meth cd Qf D tA ρ A nL c') : Gg p l e R s m args below meth cd Qf D tA ρ A nL c := by
  unfold o_lload at h
  split at h
  · rename_i v hv
    cases h
    exact fun H locs ls hP hS hl => hr H locs ls _ _ (tvl_lvg hv hl) (k H locs ls hP hS hl)
  · cases h
theorem sg_aload {n x : Nat} (hr : ∀ (H : Heap) (locs : List Loc) (ls : Array Slot) (rest : List Value) (v : Nat), ls[x]? = some (.val (.ref v)) → W p l e R s m args below meth cd H locs 0 0 Qf (F0 m (c.1 + n) ls (.ref v :: rest)) → W p l e R s m args below meth cd H locs 0 0 Qf (F0 m c.1 ls rest))
    (h : o_aload n x c = some (c', o)) (k : Gg p l e R s m args below meth cd Qf D tA ρ A nL c') : Gg p l e R s m args below meth cd Qf D tA ρ A nL c := by
  unfold o_aload at h
  split at h
  · rename_i v hv
    cases h
    exact fun H locs ls hP hS hl => hr H locs ls _ _ (tvl_lvg hv hl) (k H locs ls hP hS hl)
  · cases h
theorem sg_istore {n x : Nat} (hn : x < nL) (hr : ∀ (H : Heap) (locs : List Loc) (ls : Array Slot) (rest : List Value) (v : Int32) (lv lv' : List (Nat × Value)), lv_has ls nL lv → x < nL → (x, Value.int v) :: lv.filter (fun q => !(q.1 == x) && !(q.1 + 1 == x && q.2.category == 2)) = lv' → (∀ ls' : Array Slot, lv_has ls' nL lv' → W p l e R s m args below meth cd H locs 0 0 Qf (F0 m (c.1 + n) ls' rest)) → W p l e R s m args below meth cd H locs 0 0 Qf (F0 m c.1 ls (.int v :: rest)))
    (h : o_istore n x c = some (c', o)) (k : Gg p l e R s m args below meth cd Qf D tA ρ A nL c') : Gg p l e R s m args below meth cd Qf D tA ρ A nL c := by
  unfold o_istore at h
  split at h
  · cases h
    exact fun H locs ls hP hS hl => hr H locs ls _ _ _ _ hl hn (tvl_lvs ρ _ x (.int _)) (fun ls' hl' => k H locs ls' hP hS hl')
  · cases h
theorem sg_astore {n x : Nat} (hn : x < nL) (hr : ∀ (H : Heap) (locs : List Loc) (ls : Array Slot) (rest : List Value) (v : Nat) (lv lv' : List (Nat × Value)), lv_has ls nL lv → x < nL → (x, Value.ref v) :: lv.filter (fun q => !(q.1 == x) && !(q.1 + 1 == x && q.2.category == 2)) = lv' → (∀ ls' : Array Slot, lv_has ls' nL lv' → W p l e R s m args below meth cd H locs 0 0 Qf (F0 m (c.1 + n) ls' rest)) → W p l e R s m args below meth cd H locs 0 0 Qf (F0 m c.1 ls (.ref v :: rest)))
    (h : o_astore n x c = some (c', o)) (k : Gg p l e R s m args below meth cd Qf D tA ρ A nL c') : Gg p l e R s m args below meth cd Qf D tA ρ A nL c := by
  unfold o_astore at h
  split at h
  · cases h
    exact fun H locs ls hP hS hl => hr H locs ls _ _ _ _ hl hn (tvl_lvs ρ _ x (.ref _)) (fun ls' hl' => k H locs ls' hP hS hl')
  · cases h
theorem sg_lstore {n x : Nat} (hn : x + 1 < nL) (hr : ∀ (H : Heap) (locs : List Loc) (ls : Array Slot) (rest : List Value) (v : Int64) (lv lv' : List (Nat × Value)), lv_has ls nL lv → x + 1 < nL → (x, Value.long v) :: lv.filter (fun q => !(q.1 == x) && (!(q.1 == x + 1) && !(q.1 + 1 == x && q.2.category == 2))) = lv' → (∀ ls' : Array Slot, lv_has ls' nL lv' → W p l e R s m args below meth cd H locs 0 0 Qf (F0 m (c.1 + n) ls' rest)) → W p l e R s m args below meth cd H locs 0 0 Qf (F0 m c.1 ls (.long v :: rest)))
    (h : o_lstore n x c = some (c', o)) (k : Gg p l e R s m args below meth cd Qf D tA ρ A nL c') : Gg p l e R s m args below meth cd Qf D tA ρ A nL c := by
  unfold o_lstore at h
  split at h
  · cases h
    exact fun H locs ls hP hS hl => hr H locs ls _ _ _ _ hl hn (tvl_lvs2 ρ _ x (.long _)) (fun ls' hl' => k H locs ls' hP hS hl')
  · cases h
theorem lvg_at {ρ : Nat → Nat} : ∀ {lv : Lv} {x : Nat} {v : Value}, lvg lv x = some v → ∃ k : Nat, (tvl ρ lv)[k]? = some (x, tv ρ v)
  | [], _, _, h => by cases h
  | (j, w) :: t, x, v, h => by
    unfold lvg at h
    by_cases e : j = x
    · subst e
      simp at h
      subst h
      exact ⟨0, rfl⟩
    · have e2 : (j == x) = false := by simp [e]
      rw [e2] at h
      obtain ⟨k, hk⟩ := lvg_at (ρ := ρ) (lv := t) h
      exact ⟨k + 1, hk⟩
theorem sg_iinc {cc : ByteArray} {x : Nat} {i : Int} (hx : p.tables.exec = Jvm.exec) (hb : cd.code = cc) (hn : x < nL) (hd : decode cc c.1 = .ok (.iinc x i, 3))
    (h : o_iinc x i c = some (c', o)) (k : Gg p l e R s m args below meth cd Qf D tA ρ A nL c') : Gg p l e R s m args below meth cd Qf D tA ρ A nL c := by
  unfold o_iinc at h
  split at h
  · rename_i v hv
    cases h
    intro H locs ls hP hS hl
    obtain ⟨k9, hk9⟩ := lvg_at (ρ := ρ) hv
    exact lv_iinc hx hb hd hl hk9 rfl hn (tvl_lvs ρ _ x (.int _)) (fun ls' hl' => k H locs ls' hP hS hl')
  · cases h
theorem sg_bin {f : Int32 → Int32 → Int32} (hr : ∀ (H : Heap) (locs : List Loc) (ls : Array Slot) (rest : List Value) (x y : Int32), W p l e R s m args below meth cd H locs 0 0 Qf (F0 m (c.1 + 1) ls (.int (f x y) :: rest)) → W p l e R s m args below meth cd H locs 0 0 Qf (F0 m c.1 ls (.int y :: .int x :: rest)))
    (h : o_bin f c = some (c', o)) (k : Gg p l e R s m args below meth cd Qf D tA ρ A nL c') : Gg p l e R s m args below meth cd Qf D tA ρ A nL c := by
  unfold o_bin at h
  split at h
  · cases h
    exact fun H locs ls hP hS hl => hr H locs ls _ _ _ (k H locs ls hP hS hl)
  · cases h
theorem sg_div {f : Int32 → Int32 → Int32} (ho : allP o) (hr : ∀ (H : Heap) (locs : List Loc) (ls : Array Slot) (rest : List Value) (x y : Int32), ¬ y = 0 → W p l e R s m args below meth cd H locs 0 0 Qf (F0 m (c.1 + 1) ls (.int (f x y) :: rest)) → W p l e R s m args below meth cd H locs 0 0 Qf (F0 m c.1 ls (.int y :: .int x :: rest)))
    (h : o_div f c = some (c', o)) (k : Gg p l e R s m args below meth cd Qf D tA ρ A nL c') : Gg p l e R s m args below meth cd Qf D tA ρ A nL c := by
  unfold o_div at h
  split at h
  · cases h
    exact fun H locs ls hP hS hl => hr H locs ls _ _ _ ho (k H locs ls hP hS hl)
  · cases h
theorem sg_un {f : Int32 → Int32} (hr : ∀ (H : Heap) (locs : List Loc) (ls : Array Slot) (rest : List Value) (x : Int32), W p l e R s m args below meth cd H locs 0 0 Qf (F0 m (c.1 + 1) ls (.int (f x) :: rest)) → W p l e R s m args below meth cd H locs 0 0 Qf (F0 m c.1 ls (.int x :: rest)))
    (h : o_un f c = some (c', o)) (k : Gg p l e R s m args below meth cd Qf D tA ρ A nL c') : Gg p l e R s m args below meth cd Qf D tA ρ A nL c := by
  unfold o_un at h
  split at h
  · cases h
    exact fun H locs ls hP hS hl => hr H locs ls _ _ (k H locs ls hP hS hl)
  · cases h
theorem sg_lbin {f : Int64 → Int64 → Int64} (hr : ∀ (H : Heap) (locs : List Loc) (ls : Array Slot) (rest : List Value) (x y : Int64), W p l e R s m args below meth cd H locs 0 0 Qf (F0 m (c.1 + 1) ls (.long (f x y) :: rest)) → W p l e R s m args below meth cd H locs 0 0 Qf (F0 m c.1 ls (.long y :: .long x :: rest)))
    (h : o_lbin f c = some (c', o)) (k : Gg p l e R s m args below meth cd Qf D tA ρ A nL c') : Gg p l e R s m args below meth cd Qf D tA ρ A nL c := by
  unfold o_lbin at h
  split at h
  · cases h
    exact fun H locs ls hP hS hl => hr H locs ls _ _ _ (k H locs ls hP hS hl)
  · cases h
theorem sg_lsh {f : Int64 → Int32 → Int64} (hr : ∀ (H : Heap) (locs : List Loc) (ls : Array Slot) (rest : List Value) (x : Int64) (y : Int32), W p l e R s m args below meth cd H locs 0 0 Qf (F0 m (c.1 + 1) ls (.long (f x y) :: rest)) → W p l e R s m args below meth cd H locs 0 0 Qf (F0 m c.1 ls (.int y :: .long x :: rest)))
    (h : o_lsh f c = some (c', o)) (k : Gg p l e R s m args below meth cd Qf D tA ρ A nL c') : Gg p l e R s m args below meth cd Qf D tA ρ A nL c := by
  unfold o_lsh at h
  split at h
  · cases h
    exact fun H locs ls hP hS hl => hr H locs ls _ _ _ (k H locs ls hP hS hl)
  · cases h
theorem sg_if {f : Int32 → Prop} {inst : ∀ x, Decidable (f x)} {t : Nat} (hr : ∀ (H : Heap) (locs : List Loc) (ls : Array Slot) (rest : List Value) (x : Int32), (f x → W p l e R s m args below meth cd H locs 0 0 Qf (F0 m t ls rest)) → (¬ f x → W p l e R s m args below meth cd H locs 0 0 Qf (F0 m (c.1 + 3) ls rest)) → W p l e R s m args below meth cd H locs 0 0 Qf (F0 m c.1 ls (.int x :: rest)))
    (h : o_if f inst t c = some (c', o)) (k : Gg p l e R s m args below meth cd Qf D tA ρ A nL c') : Gg p l e R s m args below meth cd Qf D tA ρ A nL c := by
  unfold o_if at h
  split at h
  · cases h
    intro H locs ls hP hS hl
    have k9 := k H locs ls hP hS hl
    dsimp only at k9
    exact hr H locs ls _ _ (fun h9 => by rw [if_pos h9] at k9; exact k9) (fun h9 => by rw [if_neg h9] at k9; exact k9)
  · cases h
theorem sg_ic {f : Int32 → Int32 → Prop} {inst : ∀ x y, Decidable (f x y)} {t : Nat} (hr : ∀ (H : Heap) (locs : List Loc) (ls : Array Slot) (rest : List Value) (x y : Int32), (f x y → W p l e R s m args below meth cd H locs 0 0 Qf (F0 m t ls rest)) → (¬ f x y → W p l e R s m args below meth cd H locs 0 0 Qf (F0 m (c.1 + 3) ls rest)) → W p l e R s m args below meth cd H locs 0 0 Qf (F0 m c.1 ls (.int y :: .int x :: rest)))
    (h : o_ic f inst t c = some (c', o)) (k : Gg p l e R s m args below meth cd Qf D tA ρ A nL c') : Gg p l e R s m args below meth cd Qf D tA ρ A nL c := by
  unfold o_ic at h
  split at h
  · cases h
    intro H locs ls hP hS hl
    have k9 := k H locs ls hP hS hl
    dsimp only at k9
    exact hr H locs ls _ _ _ (fun h9 => by rw [if_pos h9] at k9; exact k9) (fun h9 => by rw [if_neg h9] at k9; exact k9)
  · cases h
end SND
