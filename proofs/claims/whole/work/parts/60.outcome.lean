/-! Outcomes: a fault (its kind, its place), or what is taken and where one is then. -/
abbrev Flt : Type := Nat × Nat
def tkN (T : Nat → Nat) (L mo p lo hi : Nat) : Flt ⊕ (Nat × Nat) := if tKd T L mo p = 2 then (if lo ≤ tVl T L p ∧ tVl T L p ≤ hi then .inr (tVl T L p, tNx T L p) else .inl (2, tAt T L mo p)) else .inl (1, tAt T L mo p)
theorem tkN_inr {T : Nat → Nat} {L mo p lo hi : Nat} {v : Nat × Nat} (h : tkN T L mo p lo hi = .inr v) : tKd T L mo p = 2 ∧ (lo ≤ tVl T L p ∧ tVl T L p ≤ hi) ∧ v = (tVl T L p, tNx T L p) := by
  unfold tkN at h
  by_cases h1 : tKd T L mo p = 2
  · rw [if_pos h1] at h
    by_cases h2 : lo ≤ tVl T L p ∧ tVl T L p ≤ hi
    · rw [if_pos h2] at h; cases h; exact ⟨h1, h2, rfl⟩
    · rw [if_neg h2] at h; cases h
  · rw [if_neg h1] at h; cases h
theorem tkN_inl {T : Nat → Nat} {L mo p lo hi : Nat} {f : Flt} (h : tkN T L mo p lo hi = .inl f) : (¬ tKd T L mo p = 2 ∧ f = (1, tAt T L mo p)) ∨ (tKd T L mo p = 2 ∧ ¬ (lo ≤ tVl T L p ∧ tVl T L p ≤ hi) ∧ f = (2, tAt T L mo p)) := by
  unfold tkN at h
  by_cases h1 : tKd T L mo p = 2
  · rw [if_pos h1] at h
    by_cases h2 : lo ≤ tVl T L p ∧ tVl T L p ≤ hi
    · rw [if_pos h2] at h; cases h
    · rw [if_neg h2] at h; cases h; exact Or.inr ⟨h1, h2, rfl⟩
  · rw [if_neg h1] at h; cases h; exact Or.inl ⟨h1, rfl⟩
theorem c_m_takesV (d : Nat) (M : Mm) (g : Nat → Int32) (T : Nat → Nat) (L mo p : Nat) (hg : M.1 114 = g) (hK : TkM M T L mo p) (lo hi : Nat) (hlo : lo < 1000) (hhi : hi < 1000) (v : Nat × Nat) (hv : tkN T L mo p lo hi = .inr v) : Wn (d + 2) 63 (PTm M g T L mo v.2 [4, 11, 12, 13, 14, 18] (nI v.1) (some (.int (nI 1)))) (0, lv_args 0 [.ref 114, .int (nI lo), .int (nI hi)], [], M) := by
  obtain ⟨h1, h2, rfl⟩ := tkN_inr hv
  exact c_m_takes_ok d M g T L mo p hg hK lo hi hlo hhi h1 h2
theorem c_m_takesE (d : Nat) (M : Mm) (g : Nat → Int32) (T : Nat → Nat) (L mo p : Nat) (hg : M.1 114 = g) (hK : TkM M T L mo p) (lo hi : Nat) (hlo : lo < 1000) (hhi : hi < 1000) (f : Flt) (hv : tkN T L mo p lo hi = .inl f) : Wn (d + 2) 63 (PFm M g f.1 f.2 (some (.int (nI 0)))) (0, lv_args 0 [.ref 114, .int (nI lo), .int (nI hi)], [], M) := by
  rcases tkN_inl hv with ⟨h1, rfl⟩ | ⟨h1, h2, rfl⟩
  · exact Wn.up 1 (c_m_takes_no1 d M g T L mo p hg hK lo hi hlo hhi h1)
  · exact Wn.up 1 (c_m_takes_no2 d M g T L mo p hg hK lo hi hlo hhi h1 h2)
theorem c_rd_takeV (d : Nat) (M : Mm) (T : Nat → Nat) (L mo p ta : Nat) (hR : RdL M T L mo p ta) (lo hi : Nat) (hlo : lo < 1000) (hhi : hi < 1000) (v : Nat × Nat) (hv : tkN T L mo p lo hi = .inr v) : Wn (d + 2) 179 (PLv M T L mo v.2 (tAt T L mo p) (some (.int (nI v.1)))) (0, lv_args 0 [.ref 77, .int (nI lo), .int (nI hi)], [], M) := by
  obtain ⟨h1, h2, rfl⟩ := tkN_inr hv
  exact c_rd_takeNumber_ok d M T L mo p ta hR lo hi hlo hhi h1 h2
theorem c_rd_takeE (d : Nat) (M : Mm) (T : Nat → Nat) (L mo p ta : Nat) (hR : RdL M T L mo p ta) (lo hi : Nat) (hlo : lo < 1000) (hhi : hi < 1000) (f : Flt) (hv : tkN T L mo p lo hi = .inl f) : Wn (d + 2) 179 (PFl M f.1 f.2 (some (.int (nI lo)))) (0, lv_args 0 [.ref 77, .int (nI lo), .int (nI hi)], [], M) := by
  rcases tkN_inl hv with ⟨h1, rfl⟩ | ⟨h1, h2, rfl⟩
  · exact c_rd_takeNumber_no1 d M T L mo p ta hR lo hi hlo hhi h1
  · exact c_rd_takeNumber_no2 d M T L mo p ta hR lo hi hlo hhi h1 h2
