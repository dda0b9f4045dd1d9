/-! From lists of cells to the world of the small machine. -/
theorem cls_clx {ci : Nat} {q : vw_C} (h : cls[ci]? = some q) : clx[ci]? = some q := by
  have e : clx = cls ++ [(sbR, sbT, 4)] := rfl
  rw [e, List.getElem?_append_left (List.getElem?_eq_some_iff.mp h).1]
  exact h
theorem va_P.up {D : va_G} {ws : va_W} {H : Heap} (h : va_P D cls ws H) : va_P D clx ws H := by
  intro k q hq
  have h1 := h k q hq
  obtain ⟨a, e⟩ := q
  cases e with
  | inl x => exact h1
  | inr o =>
    obtain ⟨r, h2, h3⟩ := h1
    exact ⟨r, cls_clx h2, h3⟩
theorem shl_c10 : ∀ q ∈ shl, q.1 = 0 → q.2 ≤ 10 := by decide +kernel
theorem va_P.down {D : va_G} {ρ : Nat → Nat} {tA : Nat → ClassId} {M : Mm} {H : Heap} (h : va_P D clx (wl ρ tA M) H) : va_P D cls (wl ρ tA M) H := by
  intro k q hq
  have h1 := h k q hq
  rw [wl_get?] at hq
  cases hs : shl[k]? with
  | none => rw [hs] at hq; cases hq
  | some z =>
    rw [hs] at hq
    cases hq
    obtain ⟨a, b⟩ := z
    cases a with
    | zero =>
      have hb := shl_c10 _ (List.mem_of_getElem? hs) rfl
      obtain ⟨r, h2, h3⟩ := h1
      refine ⟨r, ?_, h3⟩
      have e : clx = cls ++ [(sbR, sbT, 4)] := rfl
      have h2 : clx[b]? = some r := h2
      rw [e, List.getElem?_append_left (show b < 11 from Nat.lt_succ_of_le hb)] at h2
      exact h2
    | succ t => exact h1
theorem Stt.re {κ ρ : Nat → Nat} {A : Nat → Prop} {U : State} {H : Heap} (e : ∀ i, 100000 ≤ i → i < 300000 → ρ i = κ i) (h : Stt κ A U H) : Stt ρ A U H := by
  have ek : ∀ i, i < 36 → ρ (100000 + i) = κ (100000 + i) := fun i hi => e _ (Nat.le_add_right _ _) (by omega)
  obtain ⟨h1, h2, h3, h4, h5, h6⟩ := h
  refine ⟨⟨fun i hi => ?_, fun i j hi hj h9 => ?_⟩, fun i hi => ?_, ?_, ?_, ?_, ?_⟩
  · have := h1.1 i hi
    dsimp only at this ⊢
    rw [ek i hi]
    exact this
  · dsimp only at h9
    rw [ek i hi, ek j hj] at h9
    exact h1.2 i j hi hj h9
  · have := h2 i hi
    dsimp only at this ⊢
    rw [ek i hi]
    exact this
  · rw [e 200000 (by omega) (by omega)]; exact h3
  · rw [e 200001 (by omega) (by omega)]; exact h4
  · rw [e 200002 (by omega) (by omega)]
    obtain ⟨z, cell, a1, a2, a3, a4, a5, a6, a7⟩ := h5
    refine ⟨z, cell, a1, a2, a3, a4, a5, fun j hj => ?_, a7⟩
    have h9 := a6 j hj
    dsimp only at h9 ⊢
    rw [ek j hj]
    exact h9
  · rw [e 200003 (by omega) (by omega)]; exact h6
theorem Kf.lw {κ ρ : Nat → Nat} {own : String} {cc : ByteArray} {nL : Nat} {p : Program} {s : State} {m : MethodId} {args : Array Value} {c : Code} {D : va_G} {tA : Nat → ClassId} {A : Nat → Prop} {M : Mm} (C0 : Kf κ own cc nL p s m args c D tA A) (e : ∀ i, 100000 ≤ i → i < 300000 → ρ i = κ i) (hD : va_D A (wl ρ tA M)) : Lw own cc nL p s m args c D tA ρ A := by
  obtain ⟨hx, hb, hml, hown, hts, hK, hA, hI⟩ := C0
  exact ⟨hx, hb, hml, hown, hts, ⟨fun ci q h => hK.1 ci q (cls_clx h), hK.2⟩, fun M' => wl_addr ρ tA M M' A hD, hI.1.re e, fun a i b n d h hm => (hI.2.2.1 a i b n d h hm).use rfl, hA⟩
/-- a part of the world is set aside while another is worked on -/
theorem k_split {κ : Nat → Nat} {own : String} {cc : ByteArray} {nL : Nat} {p : Program} {s : State} {m : MethodId} {args : Array Value} {c : Code} {D : va_G} {tA : Nat → ClassId} {A : Nat → Prop} {w1 w2 : va_W} (C0 : Kf κ own cc nL p s m args c D tA A) (hP : va_P D clx (w1 ++ w2) s.heap) (hD : va_D A (w1 ++ w2)) :
    ∃ A2 : Nat → Prop, Kf κ own cc nL p s m args c D tA A2 ∧ va_P D clx w2 s.heap ∧ va_D A2 w2 ∧ va_S A2 s.heap s.heap [] ∧ ∀ (H : Heap) (locs : List Loc) (w3 : va_W), va_S A2 s.heap H locs → va_P D clx w3 H → va_D A2 w3 → va_P D clx (w1 ++ w3) H ∧ va_D A (w1 ++ w3) ∧ va_S A s.heap H locs := by
  obtain ⟨hx, hb, hml, hown, hts, hK, hA, hI⟩ := C0
  have left : ∀ (k : Nat) (q : Nat × va_E), w1[k]? = some q → (w1 ++ w2)[k]? = some q := fun k q h => by rw [List.getElem?_append_left (List.getElem?_eq_some_iff.mp h).1]; exact h
  have right : ∀ (k : Nat) (q : Nat × va_E), w2[k]? = some q → (w1 ++ w2)[w1.length + k]? = some q := fun k q h => by rw [List.getElem?_append_right (Nat.le_add_right _ _), Nat.add_sub_cancel_left]; exact h
  have hsub : ∀ q, va_A w2 s.heap.size q → A q := by
    intro q h
    rcases h with ⟨k, e, h⟩ | h
    · exact hD.2 _ _ (right k _ h)
    · exact hA q h
  have apart : ∀ (k : Nat) (q : Nat × va_E), w1[k]? = some q → q.1 < s.heap.size ∧ ¬ va_A w2 s.heap.size q.1 := by
    intro k q h
    have hlt := (hP k q (left k q h)).lt
    refine ⟨hlt, fun h2 => ?_⟩
    rcases h2 with ⟨k2, e, h2⟩ | h2
    · have h3 := hD.1 k (w1.length + k2) q (q.1, e) (left k q h) (right k2 _ h2) rfl
      have h4 := (List.getElem?_eq_some_iff.mp h).1
      omega
    · omega
  have hPw : va_P D clx w2 s.heap := fun k q h => hP _ q (right k q h)
  have hDw : va_D (va_A w2 s.heap.size) w2 := by
    refine va_D.self (A := A) ⟨fun i j x y hx hy e => ?_, fun k q h => hD.2 _ q (right k q h)⟩
    have := hD.1 _ _ x y (right i x hx) (right j y hy) e
    omega
  refine ⟨va_A w2 s.heap.size, ⟨hx, hb, hml, hown, hts, hK, fun q h => Or.inr h, hI.narrow hsub⟩, hPw, hDw, va_S.rf, fun H locs w3 hS hP3 hD3 => ⟨va_P.app (fun k q h => ?_) hP3, va_D.app ⟨fun i j x y hx hy e => ?_, fun k q h => hD.2 _ q (left k q h)⟩ (hD3.weaken (fun k q _ h => hsub q.1 h)) (fun i j x y hx hy hxy => ?_), ⟨hS.1, fun q h1 h2 => hS.2.1 q h1 (fun h => h2 (hsub q h)), fun z hz => hsub _ (hS.2.2 z hz)⟩⟩⟩
  · obtain ⟨g1, g2⟩ := apart k q h
    exact (hP k q (left k q h)).kept (hS.2.1 q.1 g1 g2)
  · exact hD.1 i j x y (left i x hx) (left j y hy) e
  · exact (apart i x hx).2 (by rw [hxy]; exact hD3.2 j y hy)
section LGS
variable {own : String} {cc : ByteArray} {nL : Nat} {p : Program} {l : Launch} {e : Env} {R : Room} {s : State} {m : MethodId} {args : Array Value} {below : List Frame} {meth : Method} {c : Code} {D : va_G} {tA : Nat → ClassId} {ρ : Nat → Nat} {A : Nat → Prop} {H : Heap} {locs : List Loc} {cells slots : Nat} {Qf : State → Prop} {ls : Array Slot} {pc : Nat} {M : Mm} {st : List Value}
theorem lg_iast {pl n k : Nat} {i x : Int32} (C0 : Lw own cc nL p s m args c D tA ρ A) (hP : va_P D cls (wl ρ tA M) H) (hS : va_S A s.heap H locs) (hsh : shp pl = (1, n)) (hi : i = nI k) (hk : k < n) (h31 : n < 2 ^ 31) (hd : decode cc pc = .ok (.iastore, 1))
    (kk : ∀ (H1 : Heap) (locs1 : List Loc), va_P D cls (wl ρ tA (mI M pl (upd (M.1 pl) k x))) H1 → va_S A s.heap H1 locs1 → W p l e R s m args below meth c H1 locs1 cells slots Qf (F0 m (pc + 1) ls st)) : W p l e R s m args below meth c H locs cells slots Qf (F0 m pc ls (.int x :: .int i :: .ref (ρ pl) :: st)) := by
  obtain ⟨hx, hb, hml, hown, hts, hK, hD, hI, hN, hA⟩ := C0
  subst hi
  refine va_iast hx hb hK hP (hD M) hS pl 0 (wl_get hsh (by decide)) rfl (vp_in_nI hk h31) hd (fun H1 locs1 hP1 _ hS1 => kk H1 locs1 ?_ hS1)
  rw [wl_set (M := M) hsh (by decide) (fun i hi => mI_off M pl _ i hi)]
  have e9 : ce ρ tA (mI M pl (upd (M.1 pl) k x)) pl (0 + 1, n) = .inl (tA 0, n, .inl (upd (M.1 pl) (nI k).toNatClampNeg x)) := by
    rw [nI_clamp (by omega)]
    show Sum.inl (tA 0, n, Sum.inl _) = _
    simp [mI, va_up]
  rw [e9]
  exact hP1
end LGS
