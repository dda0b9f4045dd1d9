/-! What lies beside the world: the text, and the law's row. Printed by wip/whole/pFE.py. -/
theorem va_D.rgt {A : Nat → Prop} {w1 w2 : va_W} (h : va_D A (w1 ++ w2)) : va_D A w2 := by
  have right : ∀ (k : Nat) (q : Nat × va_E), w2[k]? = some q → (w1 ++ w2)[w1.length + k]? = some q := fun k q h => by rw [List.getElem?_append_right (Nat.le_add_right _ _), Nat.add_sub_cancel_left]; exact h
  refine ⟨fun i j x y hx hy e => ?_, fun k q hq => h.2 _ q (right k q hq)⟩
  have h9 := h.1 _ _ x y (right i x hx) (right j y hy) e
  omega
theorem va_D.swp {A : Nat → Prop} {w1 w2 : va_W} (h : va_D A (w1 ++ w2)) : va_D A (w2 ++ w1) := va_D.app h.rgt h.lft (fun i j x y hx hy e => h.aprt hy hx e.symm)
/-- the row of one answer, and the text, beside the world -/
def Ex (ρ : Nat → Nat) (tA : Nat → ClassId) (D : va_G) (A : Nat → Prop) (qo : Nat) (ln : Nat) (tx : Nat → Nat) (H : Heap) : Prop := ln ≤ 25 ∧ (∀ j, j < ln → tx j < 128) ∧ ∃ (w : va_W) (g : Nat → Int64), Txw tA (ρ 300000) (ln, tx) w ∧ va_D A ([oC tA qo g] ++ (wl ρ tA M0 ++ w)) ∧ va_P D clx ([oC tA qo g] ++ w) H
theorem va_D.mm {A : Nat → Prop} {w1 w2 : va_W} (h1 : va_D A w1) (h2 : va_D A w2) (hx : ∀ x ∈ w1, ∀ y ∈ w2, x.1 ≠ y.1) : va_D A (w1 ++ w2) := va_D.app h1 h2 (fun i j p q hp hq => hx p (List.mem_of_getElem? hp) q (List.mem_of_getElem? hq))
theorem va_D.apm {A : Nat → Prop} {w1 w2 : va_W} (h : va_D A (w1 ++ w2)) : ∀ x ∈ w1, ∀ y ∈ w2, x.1 ≠ y.1 := fun x hx y hy => by
  obtain ⟨i, hi⟩ := List.getElem?_of_mem hx
  obtain ⟨j, hj⟩ := List.getElem?_of_mem hy
  exact h.aprt hi hj
theorem va_D.one {A : Nat → Prop} {z : Nat × va_E} (h : A z.1) : va_D A [z] := ⟨fun i j p q hp hq _ => by
  have hi : i < 1 := (List.getElem?_eq_some_iff.mp hp).1
  have hj : j < 1 := (List.getElem?_eq_some_iff.mp hq).1
  omega, fun k q hq => by rw [List.mem_singleton.mp (List.mem_of_getElem? hq)]; exact h⟩
theorem wl_mem {ρ : Nat → Nat} {tA : Nat → ClassId} {M M2 : Mm} {y : Nat × va_E} (h : y ∈ wl ρ tA M2) : ∃ z, (y.1, z) ∈ wl ρ tA M := by
  obtain ⟨j, hj⟩ := List.getElem?_of_mem h
  rw [wl_get?] at hj
  cases hs : shl[j]? with
  | none => rw [hs] at hj; cases hj
  | some z =>
    rw [hs] at hj
    cases hj
    exact ⟨ce ρ tA M j z, List.mem_of_getElem? (i := j) (by rw [wl_get?, hs]; rfl)⟩
theorem xk_D {ρ : Nat → Nat} {tA : Nat → ClassId} {A : Nat → Prop} {qo : Nat} {g g2 : Nat → Int64} {M M2 : Mm} {w : va_W} (h : va_D A ([oC tA qo g] ++ (wl ρ tA M ++ w))) : va_D A ([oC tA qo g2] ++ (wl ρ tA M2 ++ w)) := by
  refine va_D.mm (va_D.one (h.lft.2 0 (oC tA qo g) rfl)) (wl_addrA ρ tA M M2 A h.rgt) (fun x hx y hy => ?_)
  rw [List.mem_singleton.mp hx]
  have hy2 : ∃ z, (y.1, z) ∈ wl ρ tA M ++ w := by
    rcases List.mem_append.mp hy with hy | hy
    · obtain ⟨z, hz⟩ := wl_mem (M := M) hy
      exact ⟨z, List.mem_append.mpr (Or.inl hz)⟩
    · exact ⟨y.2, List.mem_append.mpr (Or.inr hy)⟩
  obtain ⟨z, hz⟩ := hy2
  exact h.apm (oC tA qo g) (List.mem_singleton.mpr rfl) (y.1, z) hz
theorem xk_P {ρ : Nat → Nat} {tA : Nat → ClassId} {D : va_G} {A : Nat → Prop} {qo : Nat} {g : Nat → Int64} {M : Mm} {w : va_W} {H H1 : Heap} (hD : va_D A ([oC tA qo g] ++ (wl ρ tA M ++ w))) (hP : va_P D clx ([oC tA qo g] ++ w) H) (hk : Kp ρ H H1) : va_P D clx ([oC tA qo g] ++ w) H1 := by
  have h1 : ∀ p, p < shl.length → ∃ z, (wl ρ tA M)[p]? = some (ρ p, z) := fun p hp => by
    rw [wl_get?, List.getElem?_eq_getElem hp]
    exact ⟨_, rfl⟩
  refine va_P.app (hk.P hP.lft (fun k q hq p hp e => ?_)) (hk.P hP.rgt (fun k q hq p hp e => ?_))
  · obtain ⟨z, hz⟩ := h1 p hp
    refine hD.aprt hq (j := p) (y := (ρ p, z)) ?_ e.symm
    rw [List.getElem?_append_left (List.getElem?_eq_some_iff.mp hz).1]
    exact hz
  · obtain ⟨z, hz⟩ := h1 p hp
    exact hD.rgt.aprt hz hq e
theorem Ex_k {ρ : Nat → Nat} {tA : Nat → ClassId} {D : va_G} {A : Nat → Prop} {qo : Nat} (ln : Nat) (tx : Nat → Nat) (H H1 : Heap) (h : Ex ρ tA D A qo ln tx H) (hk : Kp ρ H H1) : Ex ρ tA D A qo ln tx H1 := by
  obtain ⟨h1, h2, w, g, h3, h4, h5⟩ := h
  exact ⟨h1, h2, w, g, h3, h4, xk_P h4 h5 hk⟩
/-- all letters of a text are below 128 -/
def Lw8 (t : Txt) : Prop := ∀ j, j < t.1 → t.2 j < 128
theorem Lw8_ly {t : Txt} {v : Nat} (h : Lw8 t) (hv : v < 128) : Lw8 (lyC t v) := fun j hj => by
  have hj : j < t.1 + 1 := hj
  show su t.2 t.1 v j < 128
  unfold su
  split
  · exact hv
  · exact h j (by omega)
theorem Lw8_spl {W : Nat} (hb : ∀ k, k < 8 → W / 2 ^ (8 * k) % 256 < 128) : ∀ (k : Nat) (t : Txt), k ≤ 8 → Lw8 t → Lw8 (spl W k t)
  | 0, t, _, h => h
  | k + 1, t, hk, h => by
    show Lw8 (spl W k (if W / 2 ^ (8 * k) % 256 = 0 then t else lyC t (W / 2 ^ (8 * k) % 256)))
    refine Lw8_spl hb k _ (by omega) ?_
    split
    · exact h
    · exact Lw8_ly h (hb k (by omega))
theorem Lw8_dig {t : Txt} {v : Nat} (h : Lw8 t) (hv : v < 80) : Lw8 (dig t v) := Lw8_ly (Lw8_ly h (by omega)) (by omega)
theorem Lw8_lnT {σ : Nat → Nat} (hB : Bd σ) {q W : Nat} (hq : q < 6) (hb : ∀ k, k < 8 → W / 2 ^ (8 * k) % 256 < 128) : Lw8 (lnT σ q W) := by
  have fq := Bd_q hB q hq
  have ic := Bd_c hB (σ (160 + q)) (by omega)
  have k1 : ∀ k, k < 8 → 1717922924 / 2 ^ (8 * k) % 256 < 128 := by decide
  have k2 : ∀ k, k < 8 → 24948 / 2 ^ (8 * k) % 256 < 128 := by decide
  have k3 : ∀ k, k < 8 → 28526 / 2 ^ (8 * k) % 256 < 128 := by decide
  have k4 : ∀ k, k < 8 → 422776890724 / 2 ^ (8 * k) % 256 < 128 := by decide
  have h0 : Lw8 (spl W 8 (0, fun _ => 0)) := Lw8_spl hb 8 _ (Nat.le_refl _) (fun j hj => absurd hj (Nat.not_lt_zero _))
  have h1 : Lw8 (lnA σ q (spl W 8 (0, fun _ => 0))) := by
    unfold lnA
    split
    · exact Lw8_spl k1 8 _ (Nat.le_refl _) (Lw8_ly h0 (by decide))
    · exact Lw8_dig (Lw8_spl k3 8 _ (Nat.le_refl _) (Lw8_ly (Lw8_dig (Lw8_dig (Lw8_spl k2 8 _ (Nat.le_refl _) (Lw8_ly h0 (by decide))) (by omega)) (by omega)) (by decide))) (by omega)
  unfold lnT
  split
  · exact Lw8_spl k4 8 _ (Nat.le_refl _) (Lw8_ly h1 (by decide))
  · exact h1
/-- behind a line of the reference -/
theorem MA_ln {M M' : Mm} {σ : Nat → Nat} {n : Nat} {H : Nat → Nat → Nat} {ν : Nat → Int64} {T : Nat → Nat} {L : Nat} {fk ak : Int32} {nw : Nat} {uw : Nat → Int32} {hj : Bool} {td : Nat → Int32} {sn : Nat} {A S U : Nat → Nat} {i0 i1 : Img} {ln : Nat} {tx : Nat → Nat} {t : Txt} (hF : Fr [114, 127] M M') (hG : Gx [0, 34] (M.1 114) (M'.1 114)) (hT : TxM M' t) (h : MA M σ n H ν T L fk ak nw uw hj td sn A S U i0 i1 ln tx) : MA M' σ n H ν T L fk ak nw uw hj td sn A S U i0 i1 t.1 t.2 := by
  have g : ∀ s, s ∈ [2, 15, 25, 30, 31, 32, 38] → M'.1 114 s = M.1 114 s := fun s hs => hG s (by
    have : ∀ s ∈ [2, 15, 25, 30, 31, 32, 38], ¬ s ∈ [0, 34] := by decide
    exact this s hs)
  unfold MA Rsv
  rw [g 2 (by decide), g 15 (by decide), g 25 (by decide), g 30 (by decide), g 31 (by decide), g 32 (by decide), g 38 (by decide), (hF 115 (by decide)).1, (hF 116 (by decide)).1, (hF 119 (by decide)).2.1, (hF 120 (by decide)).2.1, (hF 121 (by decide)).1, (hF 126 (by decide)).1, (hF 128 (by decide)).1]
  obtain ⟨a1, a2, a3, a4, a5, a6, a7, a8, a9, b1, b2_, b3, -⟩ := h
  exact ⟨a1, a2, a3, a4, a5, a6, a7, a8, a9, b1, ImM_fr hF (by decide) (by decide) (by decide) b2_, ImM_fr hF (by decide) (by decide) (by decide) b3, hT.1, hT.2⟩
/-- a call of the reference that asks, and tells whether it threw -/
theorem M_POt {jm : Nat} {c : Cf} {b ln : Nat} {tx : Nat → Nat} {M : Mm} {v t : Int32} {σ : Nat → Nat} {n : Nat} {H : Nat → Nat → Nat} {ν : Nat → Int64} {T : Nat → Nat} {L : Nat} {fk ak : Int32} {nw : Nat} {uw : Nat → Int32} {hj : Bool} {td : Nat → Int32} {sn : Nat} {A S U : Nat → Nat} {i0 i1 : Img} (hC : CA M σ n H ν T L fk ak nw uw hj td sn A S U i0 i1) (hM : MA M σ n H ν T L fk ak nw uw hj td sn A S U i0 i1 ln tx) (hU : PUr b σ n H ν T L fk ak nw uw hj td sn A S U i0 i1) (h : Wn 40 jm (PO M (M.1 114) t (some (.int v))) c) : Wn 40 jm (fun r M2 => r = some (.int v) ∧ JV (b + 64) ln tx M2 ∧ M2.1 114 0 = t) c :=
  h.mono (fun r M2 k => by
    have hF : FM M M2 := fr_up k.2.2.2 (by decide)
    exact ⟨k.1, ⟨σ, n, H, ν, T, L, fk, ak, nw, uw, hj, td, sn, A, S, U, i0, i1, CA_FM hF hC, MA_fr k.2.2.2 k.2.2.1 (by decide) (fun p hp => Or.inl (by simpa using hp)) hM, PUr_up hU (by omega)⟩, k.2.1⟩)
