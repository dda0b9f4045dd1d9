/-! The class's history: a ring of eight states. -/
def HL : List Nat := 35 :: List.range' 37 40
theorem HL_mem {p : Nat} (h1 : 37 ≤ p) (h2 : p < 77) : p ∈ HL := by
  unfold HL
  rw [List.mem_cons, List.mem_range'_1]
  omega
theorem HL_not {p : Nat} (h1 : ¬ p = 35) (h2 : p < 37 ∨ 77 ≤ p) : ¬ p ∈ HL := by
  unfold HL
  rw [List.mem_cons, List.mem_range'_1]
  omega
theorem nmem5 {p b : Nat} (h : p < b ∨ b + 5 ≤ p) : ¬ p ∈ [b, b + 1, b + 2, b + 3, b + 4] := by
  simp only [List.mem_cons, List.not_mem_nil, or_false]
  omega
theorem sub5 {b : Nat} (h1 : 37 ≤ b) (h2 : b + 5 ≤ 77) : ∀ p ∈ [b, b + 1, b + 2, b + 3, b + 4], p ∈ HL := by
  intro p hp
  simp only [List.mem_cons, List.not_mem_nil, or_false] at hp
  exact HL_mem (by omega) (by omega)
theorem hLay : ∀ x, x < 8 → Lay (37 + 5 * x) := by unfold Lay; decide +kernel
theorem hlk : ∀ x, x < 8 → lkp (37 + 5 * x) = 3 := by decide
def HC (M : Mm) (n : Nat) (H : Nat → Nat → Nat) : Prop := ∃ x, x < 8 ∧ M.1 35 1 = nI x ∧ M.1 35 2 = nI n ∧ n ≤ 8 ∧ (∀ k, k < 8 → M.2.2 36 k = 37 + 5 * k) ∧ ∀ k, k < n → StC M (37 + 5 * ((x + 8 - n + k) % 8)) (H k)
theorem HC_push {M M' : Mm} {n x : Nat} {H : Nat → Nat → Nat} {σ : Nat → Nat} (hx : x < 8) (hn : n ≤ 8) (hr : ∀ k, k < 8 → M'.2.2 36 k = 37 + 5 * k) (h1 : M'.1 35 1 = nI ((x + 1) % 8)) (h2 : M'.1 35 2 = nI (hpn n)) (hs : StC M' (37 + 5 * x) σ) (ho : ∀ y, y < 8 → ¬ y = x → ∀ τ, StC M (37 + 5 * y) τ → StC M' (37 + 5 * y) τ) (hH : ∀ k, k < n → StC M (37 + 5 * ((x + 8 - n + k) % 8)) (H k)) : HC M' (hpn n) (hpH n H σ) := by
  refine ⟨(x + 1) % 8, by omega, h1, h2, hpn_le hn, hr, fun k hk => ?_⟩
  unfold hpn at hk ⊢
  unfold hpH
  by_cases e : n = 8
  · subst e
    rw [if_pos rfl] at hk
    rw [if_pos rfl]
    show StC M' _ (if 8 = 8 then (if k = 7 then σ else H (k + 1)) else _)
    rw [if_pos rfl]
    by_cases e2 : k = 7
    · subst e2
      rw [if_pos rfl, show ((x + 1) % 8 + 8 - 8 + 7) % 8 = x by omega]
      exact hs
    · rw [if_neg e2, show ((x + 1) % 8 + 8 - 8 + k) % 8 = (x + 8 - 8 + (k + 1)) % 8 by omega]
      exact ho _ (by omega) (by omega) _ (hH (k + 1) (by omega))
  · rw [if_neg e] at hk
    rw [if_neg e]
    show StC M' _ (if n = 8 then _ else (if k = n then σ else H k))
    rw [if_neg e]
    by_cases e2 : k = n
    · subst e2
      rw [if_pos rfl, show ((x + 1) % 8 + 8 - (k + 1) + k) % 8 = x by omega]
      exact hs
    · rw [if_neg e2, show ((x + 1) % 8 + 8 - (n + 1) + k) % 8 = (x + 8 - n + k) % 8 by omega]
      exact ho _ (by omega) (by omega) _ (hH k (by omega))
theorem hpn_min {n : Nat} (h : n ≤ 8) : (if 8 < n + 1 then 8 else n + 1) = hpn n := by unfold hpn; split <;> split <;> omega
/-- behind the class's keeping -/
def PKC (M0 : Mm) (b : Nat) (σ : Nat → Nat) (n : Nat) (H : Nat → Nat → Nat) : Po := fun r0 M' => r0 = none ∧ StC M' b σ ∧ HC M' n H ∧ Fr HL M0 M'
theorem st_far {L : List Nat} {M M' : Mm} {y : Nat} {τ : Nat → Nat} (hy : y < 8) (hF : Fr L M M') (h : StC M (37 + 5 * y) τ) (hp : ∀ p ∈ L, ¬ p = 3 ∧ ¬ p = 5 ∧ (p < 37 + 5 * y ∨ 37 + 5 * y + 5 ≤ p)) : StC M' (37 + 5 * y) τ := fr_st hF h (fun p hp9 => by rw [hlk y hy]; exact hp p hp9)
theorem rrd {f g : Nat → Nat} {n k : Nat} {t : Int32} (h : ∀ k, k < n → f k = g k) (e : t = nI k) (hk : k < n) (h31 : k < 2 ^ 31) : f t.toNatClampNeg = g k := by rw [e, nI_clamp h31]; exact h k hk
theorem rr_fr {L : List Nat} {M M' : Mm} {p n : Nat} {g : Nat → Nat} (hF : Fr L M M') (hp : ¬ p ∈ L) (h : ∀ k, k < n → M.2.2 p k = g k) : ∀ k, k < n → M'.2.2 p k = g k := by rw [(hF p hp).2.2]; exact h
set_option maxRecDepth 20000 in
theorem c_hy_keep (d : Nat) (M : Mm) (σ : Nat → Nat) (n : Nat) (H : Nat → Nat → Nat) (hS : StC M 6 σ) (hH : HC M n H) : Wn (d + 1) 158 (PKC M 6 σ (hpn n) (hpH n H σ)) (0, lv_args 0 [.ref 35, .ref 6], [], M) := by
  have hF := fr_rf HL M
  obtain ⟨x, hx8, hx1, hn2, hn8, hr, hH⟩ := hH
  obtain ⟨u, h35⟩ : ∃ u, M.1 35 = u := ⟨_, rfl⟩
  rw [h35] at hx1 hn2
  have l6 : lkp 6 = 3 := rfl
  have lx := hlk x hx8
  refine Wn.run (tab := tb_hy_keep) rfl 6 (c' := (10, [(0, .ref 35), (1, .ref 6)], [.ref 6, .ref (M.2.2 36 ((M.1 35 1)).toNatClampNeg)], M)) (o := [shp 35 = (0, 1), shp 35 = (0, 1), aok shp 36 5 (M.1 35 1)]) rfl ⟨rfl, rfl, (ak1 (n := 8) rfl rfl (fr_eq h35 (show u 1 = (nI x) from hx1)) (by omega))⟩ ?_
  rw [show (M.1 35 1) = (nI x) from (fr_eq h35 (show u 1 = (nI x) from hx1))]
  rw [show (M.2.2 36 ((nI x)).toNatClampNeg) = (37 + 5 * x) from (rrd (g := fun k9 => 37 + 5 * k9) hr rfl (by omega) (by omega))]
  refine Wn.callV (p := (37 + 5 * x)) (n := 2) (ix := 25) (ci := (5)) (PS (37 + 5 * x) M σ (M.1 (37 + 5 * x) 11) (M.1 (37 + 5 * x) 12) none) [.ref 6] [] rfl rfl rfl (hLay x (by omega)).1 (Nat.le_of_ble_eq_true rfl) (Nat.le_of_ble_eq_true rfl) (c_st_copyFrom _ M (37 + 5 * x) 6 σ (hLay x (by omega)) (hlk x (by omega) ▸ hS.2.1) hS (by omega) (by omega) _ _ rfl rfl) ?_
  rintro _ M1 ⟨rfl, hs2, hw3, hx4, hF5⟩
  show Wn _ 158 _ (13, [(0, .ref 35), (1, .ref 6)], [], M1)
  have hs6 := fr_st hF5 hS (by simp; omega)
  have hk7 := frI_fun hF5 (nmem5 (by omega)) h35
  have hr8 := rr_fr hF5 (nmem5 (by omega)) hr
  have hF9 := fr_tr hF hF5 (sub5 (by omega) (by omega))
  refine Wn.run (tab := tb_hy_keep) rfl 8 (c' := (26, [(0, .ref 35), (1, .ref 6)], [], (mI M1 35 (upd (M1.1 35) 1 (((M1.1 35 1) + (nI 1)) - ((M1.1 35 1) + (nI 1)) / (nI 8) * (nI 8)))))) (o := [shp 35 = (0, 1), ¬ (nI 8) = 0, shp 35 = (0, 1)]) rfl ⟨rfl, (show ¬ (nI 8) = 0 by decide), rfl⟩ ?_
  rw [show (M1.1 35 1) = (nI x) from (fr_eq hk7 (show u 1 = (nI x) from hx1))]
  rw [show (((nI x) + (nI 1)) - ((nI x) + (nI 1)) / (nI 8) * (nI 8)) = (nI ((x + 1) % 8)) from (n_rem (n_add rfl rfl) rfl (by omega) (by omega) (by omega))]
  generalize hM11 : (mI M1 35 (upd (M1.1 35) 1 (nI ((x + 1) % 8)))) = M10
  have hs12 := st_ne hM11 hs6 (by decide)
  have hk13 := fI_up hM11 hk7
  have hr14 := rr_fr (fr_1I hM11) (by decide) hr8
  have hF15 := fr_sI hF9 hM11 (by decide)
  have hs16 := st_ne hM11 hs2 (by omega)
  show Wn _ 158 _ (26, [(0, .ref 35), (1, .ref 6)], [], M10)
  refine Wn.run (tab := tb_hy_keep) rfl 8 (c' := (41, [(0, .ref 35), (1, .ref 6)], [], (mI M10 35 (upd (M10.1 35) 2 (if ((M10.1 35 2) + (nI 1)) < (nI 8) then ((M10.1 35 2) + (nI 1)) else (nI 8)))))) (o := [shp 35 = (0, 1), ct [.ref 35] ≤ 8, shp 35 = (0, 1)]) rfl ⟨rfl, (Nat.le_of_ble_eq_true rfl), rfl⟩ ?_
  rw [show (M10.1 35 2) = (nI n) from (fr_eq hk13 (show (upd u 1 (nI ((x + 1) % 8))) 2 = (nI n) from ((pk_un (by decide)).trans hn2)))]
  rw [show (if ((nI n) + (nI 1)) < (nI 8) then ((nI n) + (nI 1)) else (nI 8)) = (nI (if 8 < (n + 1) then 8 else (n + 1))) from (n_minI (n_add rfl rfl) rfl (by omega) (by omega))]
  generalize hM18 : (mI M10 35 (upd (M10.1 35) 2 (nI (if 8 < (n + 1) then 8 else (n + 1))))) = M17
  have hs19 := st_ne hM18 hs12 (by decide)
  have hk20 := fI_up hM18 hk13
  have hr21 := rr_fr (fr_1I hM18) (by decide) hr14
  have hF22 := fr_sI hF15 hM18 (by decide)
  have hs23 := st_ne hM18 hs16 (by omega)
  show Wn _ 158 _ (41, [(0, .ref 35), (1, .ref 6)], [], M17)
  refine Wn.vret rfl ⟨rfl, hs19, HC_push (M := M) hx8 hn8 hr21 (by rw [hk20]; exact ((pk_un (by decide)).trans pk_us)) (by rw [hk20, ← hpn_min hn8]; exact pk_us) hs23 (fun y hy hne τ hτ => ?_) hH, hF22⟩
  have q1 := st_far hy hF5 hτ (by intro p9 hp9; simp only [List.mem_cons, List.not_mem_nil, or_false] at hp9; omega)
  have q2 := st_far hy (fr_1I hM11) q1 (by intro p9 hp9; simp only [List.mem_cons, List.not_mem_nil, or_false] at hp9; omega)
  exact st_far hy (fr_1I hM18) q2 (by intro p9 hp9; simp only [List.mem_cons, List.not_mem_nil, or_false] at hp9; omega)
def TL : List Nat := [6, 7, 8, 9, 10, 35]
def PTB (M0 : Mm) (σ : Nat → Nat) (n : Nat) (H : Nat → Nat → Nat) : Po := fun r0 M' => r0 = some (.int (if n = 0 then nI 0 else nI 1)) ∧ StC M' 6 (if n = 0 then σ else H (n - 1)) ∧ HC M' (n - 1) H ∧ Fr TL M0 M'
theorem HC_fr {L : List Nat} {M M' : Mm} {n : Nat} {H : Nat → Nat → Nat} (hF : Fr L M M') (h : HC M n H) (hp : ∀ p ∈ L, ¬ p = 3 ∧ ¬ p = 5 ∧ (p < 35 ∨ 77 ≤ p)) : HC M' n H := by
  obtain ⟨x, h1, h2, h3, h4, h5, h6⟩ := h
  have e35 := hF 35 (fun h9 => by have := hp 35 h9; omega)
  have e36 := hF 36 (fun h9 => by have := hp 36 h9; omega)
  exact ⟨x, h1, by rw [e35.1]; exact h2, by rw [e35.1]; exact h3, h4, by rw [e36.2.2]; exact h5, fun k hk => st_far (by omega) hF (h6 k hk) (fun p hp9 => by have := hp p hp9; omega)⟩
theorem HC_pop {M M' : Mm} {n x : Nat} {H : Nat → Nat → Nat} (h0 : ¬ n = 0) (hx : x < 8) (hn : n ≤ 8) (hr : ∀ k, k < 8 → M'.2.2 36 k = 37 + 5 * k) (h1 : M'.1 35 1 = nI ((x + 8 - 1) % 8)) (h2 : M'.1 35 2 = nI (n - 1)) (ho : ∀ y, y < 8 → ∀ τ, StC M (37 + 5 * y) τ → StC M' (37 + 5 * y) τ) (hH : ∀ k, k < n → StC M (37 + 5 * ((x + 8 - n + k) % 8)) (H k)) : HC M' (n - 1) H := by
  refine ⟨(x + 8 - 1) % 8, by omega, h1, h2, by omega, hr, fun k hk => ?_⟩
  rw [show ((x + 8 - 1) % 8 + 8 - (n - 1) + k) % 8 = (x + 8 - n + k) % 8 by omega]
  exact ho _ (by omega) _ (hH k (by omega))
set_option maxRecDepth 20000 in
theorem c_hy_takeBack (d : Nat) (M : Mm) (σ : Nat → Nat) (n : Nat) (H : Nat → Nat → Nat) (hS : StC M 6 σ) (hH : HC M n H) : Wn (d + 1) 159 (PTB M σ n H) (0, lv_args 0 [.ref 35, .ref 6], [], M) := by
  have hF := fr_rf TL M
  obtain ⟨x, hx8, hx1, hn2, hn8, hr, hH⟩ := hH
  obtain ⟨u, h35⟩ : ∃ u, M.1 35 = u := ⟨_, rfl⟩
  rw [h35] at hx1 hn2
  have l6 : lkp 6 = 3 := rfl
  have lx := hlk ((x + 8 - 1) % 8) (by omega)
  refine Wn.run (tab := tb_hy_takeBack) rfl 3 (c' := (if ¬ (M.1 35 2) = 0 then 9 else 7, [(0, .ref 35), (1, .ref 6)], [], M)) (o := [shp 35 = (0, 1)]) rfl rfl ?_
  refine Wn.br (fun h1 => ?_) (fun h1 => ?_)
  · show Wn _ 159 _ (9, [(0, .ref 35), (1, .ref 6)], [], M)
    have h1 := mt (n_eq (fr_eq h35 (show u 2 = (nI n) from hn2)) nI_0.symm (by omega) (by omega)).mpr h1
    refine Wn.run (tab := tb_hy_takeBack) rfl 6 (c' := (19, [(0, .ref 35), (1, .ref 6)], [], (mI M 35 (upd (M.1 35) 2 ((M.1 35 2) - (nI 1)))))) (o := [shp 35 = (0, 1), shp 35 = (0, 1)]) rfl ⟨rfl, rfl⟩ ?_
    rw [show (M.1 35 2) = (nI n) from (fr_eq h35 (show u 2 = (nI n) from hn2))]
    rw [show ((nI n) - (nI 1)) = (nI (n - 1)) from (n_sub rfl rfl (by omega))]
    generalize hM2 : (mI M 35 (upd (M.1 35) 2 (nI (n - 1)))) = M1
    have hs3 := st_ne hM2 hS (by decide)
    have hk4 := fI_up hM2 h35
    have hr5 := rr_fr (fr_1I hM2) (by decide) hr
    have hF6 := fr_sI hF hM2 (by decide)
    show Wn _ 159 _ (19, [(0, .ref 35), (1, .ref 6)], [], M1)
    refine Wn.run (tab := tb_hy_takeBack) rfl 10 (c' := (35, [(0, .ref 35), (1, .ref 6)], [], (mI M1 35 (upd (M1.1 35) 1 ((((M1.1 35 1) + (nI 8)) - (nI 1)) - (((M1.1 35 1) + (nI 8)) - (nI 1)) / (nI 8) * (nI 8)))))) (o := [shp 35 = (0, 1), ¬ (nI 8) = 0, shp 35 = (0, 1)]) rfl ⟨rfl, (show ¬ (nI 8) = 0 by decide), rfl⟩ ?_
    rw [show (M1.1 35 1) = (nI x) from (fr_eq hk4 (show (upd u 2 (nI (n - 1))) 1 = (nI x) from ((pk_un (by decide)).trans hx1)))]
    rw [show ((((nI x) + (nI 8)) - (nI 1)) - (((nI x) + (nI 8)) - (nI 1)) / (nI 8) * (nI 8)) = (nI (((x + 8) - 1) % 8)) from (n_rem (n_sub (n_add rfl rfl) rfl (by omega)) rfl (by omega) (by omega) (by omega))]
    generalize hM8 : (mI M1 35 (upd (M1.1 35) 1 (nI (((x + 8) - 1) % 8)))) = M7
    have hs9 := st_ne hM8 hs3 (by decide)
    have hk10 := fI_up hM8 hk4
    have hr11 := rr_fr (fr_1I hM8) (by decide) hr5
    have hF12 := fr_sI hF6 hM8 (by decide)
    show Wn _ 159 _ (35, [(0, .ref 35), (1, .ref 6)], [], M7)
    refine Wn.run (tab := tb_hy_takeBack) rfl 6 (c' := (45, [(0, .ref 35), (1, .ref 6)], [.ref (M7.2.2 36 ((M7.1 35 1)).toNatClampNeg), .ref 6], M7)) (o := [shp 35 = (0, 1), shp 35 = (0, 1), aok shp 36 5 (M7.1 35 1)]) rfl ⟨rfl, rfl, (ak1 (n := 8) rfl rfl (fr_eq hk10 (show (upd (upd u 2 (nI (n - 1))) 1 (nI (((x + 8) - 1) % 8))) 1 = (nI (((x + 8) - 1) % 8)) from pk_us)) (by omega))⟩ ?_
    rw [show (M7.1 35 1) = (nI (((x + 8) - 1) % 8)) from (fr_eq hk10 (show (upd (upd u 2 (nI (n - 1))) 1 (nI (((x + 8) - 1) % 8))) 1 = (nI (((x + 8) - 1) % 8)) from pk_us))]
    rw [show (M7.2.2 36 ((nI (((x + 8) - 1) % 8))).toNatClampNeg) = (37 + 5 * (((x + 8) - 1) % 8)) from (rrd (g := fun k9 => 37 + 5 * k9) hr11 rfl (by omega) (by omega))]
    have hS8 := hH (n - 1) (by omega)
    rw [show (x + 8 - n + (n - 1)) % 8 = (x + 8 - 1) % 8 by omega] at hS8
    have hS9 := st_far (by omega) (fr_1I hM8) (st_far (by omega) (fr_1I hM2) hS8 (by intro p9 hp9; simp only [List.mem_cons, List.not_mem_nil, or_false] at hp9; omega)) (by intro p9 hp9; simp only [List.mem_cons, List.not_mem_nil, or_false] at hp9; omega)
    have q9 : StC M7 (37 + 5 * (((x + 8) - 1) % 8)) (H (n - 1)) := hS9
    refine Wn.callV (p := 6) (n := 2) (ix := 25) (ci := (5)) (PS 6 M7 (H (n - 1)) (M7.1 6 11) (M7.1 6 12) none) [.ref (37 + 5 * (((x + 8) - 1) % 8))] [] rfl rfl rfl rfl (Nat.le_of_ble_eq_true rfl) (Nat.le_of_ble_eq_true rfl) (c_st_copyFrom _ M7 6 (37 + 5 * (((x + 8) - 1) % 8)) (H (n - 1)) hS.1 (show LkC M7 3 (H (n - 1)) from hlk ((x + 8 - 1) % 8) (by omega) ▸ q9.2.1) q9 (by omega) (by omega) _ _ rfl rfl) ?_
    rintro _ M13 ⟨rfl, hs14, hw15, hx16, hF17⟩
    show Wn _ 159 _ (48, [(0, .ref 35), (1, .ref 6)], [], M13)
    have hk18 := frI_fun hF17 (by decide) hk10
    have hr19 := rr_fr hF17 (by decide) hr11
    have hF20 := fr_tr hF12 hF17 (by decide)
    refine Wn.run (tab := tb_hy_takeBack) rfl 1 (c' := (49, [(0, .ref 35), (1, .ref 6)], [.int (nI 1)], M13)) (o := []) rfl trivial ?_
    refine Wn.zret rfl (Or.inr rfl) ⟨by rw [if_neg h1], by rw [if_neg h1]; exact hs14, HC_pop (M := M) h1 hx8 hn8 hr19 (by rw [hk18]; exact pk_us) (by rw [hk18]; exact ((pk_un (by decide)).trans pk_us)) (fun y hy τ hτ => ?_) hH, hF20⟩
    have q1 := st_far hy (fr_1I hM2) hτ (by intro p9 hp9; simp only [List.mem_cons, List.not_mem_nil, or_false] at hp9; omega)
    have q2 := st_far hy (fr_1I hM8) q1 (by intro p9 hp9; simp only [List.mem_cons, List.not_mem_nil, or_false] at hp9; omega)
    exact st_far hy hF17 q2 (by intro p9 hp9; simp only [List.mem_cons, List.not_mem_nil, or_false] at hp9; omega)
  · show Wn _ 159 _ (7, [(0, .ref 35), (1, .ref 6)], [], M)
    have h1 := (n_eq (fr_eq h35 (show u 2 = (nI n) from hn2)) nI_0.symm (by omega) (by omega)).mp (Classical.not_not.mp h1)
    refine Wn.run (tab := tb_hy_takeBack) rfl 1 (c' := (8, [(0, .ref 35), (1, .ref 6)], [.int (nI 0)], M)) (o := []) rfl trivial ?_
    exact Wn.zret rfl (Or.inl rfl) ⟨by rw [if_pos h1], by rw [if_pos h1]; exact hS, ⟨x, hx8, by rw [h35]; exact hx1, by rw [h35, show n - 1 = n by omega]; exact hn2, by omega, hr, fun k hk => absurd hk (by omega)⟩, hF⟩
