/-! The reference: rows as functions; contracts over any memory. -/
theorem fI_upx {M M' : Mm} {p ix i : Nat} {v : Int32} {g : Nat → Int32} (hM : mI M p (upd (M.1 p) ix v) = M') (h : M.1 p = g) (hi : ix = i) : M'.1 p = upd g i v := by rw [mI_eq hM, h, hi]
theorem fJ_upx {M M' : Mm} {p ix i : Nat} {v : Int64} {g : Nat → Int64} (hM : mJ M p (vp_updL (M.2.1 p) ix v) = M') (h : M.2.1 p = g) (hi : ix = i) : M'.2.1 p = vp_updL g i v := by rw [mJ_eq hM, h, hi]
theorem fR_upx {M M' : Mm} {p ix i : Nat} {v : Nat} {g : Nat → Nat} (hM : mR M p (va_up (M.2.2 p) ix v) = M') (h : M.2.2 p = g) (hi : ix = i) : M'.2.2 p = va_up g i v := by rw [mR_eq hM, h, hi]
theorem fr_rdx {f g : Nat → Int32} {t : Int32} {k : Nat} (h : f = g) (e : t = nI k) (hk : k < 2 ^ 31) : f t.toNatClampNeg = g k := by rw [h, e, nI_clamp hk]
theorem fr_rdxJ {f g : Nat → Int64} {t : Int32} {k : Nat} (h : f = g) (e : t = nI k) (hk : k < 2 ^ 31) : f t.toNatClampNeg = g k := by rw [h, e, nI_clamp hk]
theorem fr_rdxR {f g : Nat → Nat} {t : Int32} {k : Nat} (h : f = g) (e : t = nI k) (hk : k < 2 ^ 31) : f t.toNatClampNeg = g k := by rw [h, e, nI_clamp hk]
theorem fr_1I {M M' : Mm} {p : Nat} {f : Nat → Int32} (hM : mI M p f = M') : Fr [p] M M' := fr_sI (fr_rf [p] M) hM (by simp)
theorem fr_1J {M M' : Mm} {p : Nat} {f : Nat → Int64} (hM : mJ M p f = M') : Fr [p] M M' := fr_sJ (fr_rf [p] M) hM (by simp)
theorem fr_1R {M M' : Mm} {p : Nat} {f : Nat → Nat} (hM : mR M p f = M') : Fr [p] M M' := fr_sR (fr_rf [p] M) hM (by simp)
theorem wbw_le (σ : Nat → Nat) (q : Nat) : wbw σ q ≤ 2 := by unfold wbw; split <;> (try split) <;> omega
theorem wpr_le (σ : Nat → Nat) (q r : Nat) : wpr σ q r ≤ 3 := by unfold wpr; repeat (first | omega | split)
theorem w_m_isInN (d : Nat) (v lo hi : Nat) (h1 : v < 2 ^ 31) (h2 : lo < 2 ^ 31) (h3 : hi < 2 ^ 31) (M : Mm) (Q : Po) (hQ : Q (some (.int (b2 (lo ≤ v ∧ v ≤ hi)))) M) : Wn (d + 0) 46 Q (0, lv_args 0 [.int (nI v), .int (nI lo), .int (nI hi)], [], M) := by
  refine w_m_isInT d _ _ _ M Q ?_
  rw [b2_iff (show ((nI lo).toInt ≤ (nI v).toInt ∧ (nI v).toInt ≤ (nI hi).toInt) ↔ (lo ≤ v ∧ v ≤ hi) by rw [nI_toInt h1, nI_toInt h2, nI_toInt h3]; omega)]
  exact hQ
theorem w_m_isPersonT (d : Nat) (q : Nat) {σ' : Nat → Nat} (hq : q < σ' 2) (M : Mm) (σ : Nat → Nat) (hM : Ms M σ') (Q : Po) (hQ : Q (some (.int (nI 1))) M) : Wn (d + 1) 74 Q (0, lv_args 0 [.ref 114, .int (nI q)], [], M) := by
  have h2 := Bd_2 hM.2
  refine w_m_isPerson d _ M σ' hM Q ?_
  rw [b2_t (by rw [nI_toInt (by omega)]; omega)]
  exact hQ
theorem w_m_maxN (d : Nat) (a b : Nat) (ha : a < 2 ^ 31) (hb : b < 2 ^ 31) (M : Mm) (Q : Po) (hQ : Q (some (.int (nI (if a < b then b else a)))) M) : Wn (d + 0) 49 Q (0, lv_args 0 [.int (nI a), .int (nI b)], [], M) := by
  refine w_m_greater d _ _ M Q ?_
  by_cases h : a < b
  · rw [if_pos (by rw [nI_leI ha hb]; omega)]; rw [if_pos h] at hQ; exact hQ
  · rw [if_neg h] at hQ
    by_cases h2 : a = b
    · rw [if_pos (by rw [nI_leI ha hb]; omega), ← h2]; exact hQ
    · rw [if_neg (by rw [nI_leI ha hb]; omega)]; exact hQ
theorem w_m_isPersonF (d : Nat) (q : Int32) {σ' : Nat → Nat} (hq : ¬ pI σ' q) (M : Mm) (σ : Nat → Nat) (hM : Ms M σ') (Q : Po) (hQ : Q (some (.int (nI 0))) M) : Wn (d + 1) 74 Q (0, lv_args 0 [.ref 114, .int q], [], M) := by
  refine w_m_isPerson d _ M σ' hM Q ?_
  rw [b2_f (show ¬ (0 ≤ q.toInt ∧ q.toInt < (σ' 2 : Int)) from hq)]
  exact hQ
theorem w_m_isCellT (d : Nat) (x y : Nat) {σ' : Nat → Nat} (hx : x < σ' 0) (hy : y < σ' 1) (M : Mm) (σ : Nat → Nat) (hM : Ms M σ') (Q : Po) (hQ : Q (some (.int (nI 1))) M) : Wn (d + 1) 75 Q (0, lv_args 0 [.ref 114, .int (nI x), .int (nI y)], [], M) := by
  have h0 := Bd_0 hM.2
  have h1 := Bd_1 hM.2
  refine w_m_isCell d _ _ M σ' hM Q ?_
  rw [b2_t (by rw [nI_toInt (by omega), nI_toInt (by omega)]; omega)]
  exact hQ
theorem w_m_isCellN (d : Nat) (x y : Nat) (hx : x < 2 ^ 31) (hy : y < 2 ^ 31) (M : Mm) (σ : Nat → Nat) (hM : Ms M σ) (Q : Po) (hQ : Q (some (.int (b2 (x < σ 0 ∧ y < σ 1)))) M) : Wn (d + 1) 75 Q (0, lv_args 0 [.ref 114, .int (nI x), .int (nI y)], [], M) := by
  refine w_m_isCell d _ _ M σ hM Q ?_
  rw [b2_iff (show (0 ≤ (nI x).toInt ∧ (nI x).toInt < (σ 0 : Int) ∧ 0 ≤ (nI y).toInt ∧ (nI y).toInt < (σ 1 : Int)) ↔ (x < σ 0 ∧ y < σ 1) by rw [nI_toInt hx, nI_toInt hy]; omega)]
  exact hQ
theorem w_m_isCellF (d : Nat) (x y : Int32) {σ' : Nat → Nat} (hc : ¬ cI σ' x y) (M : Mm) (σ : Nat → Nat) (hM : Ms M σ') (Q : Po) (hQ : Q (some (.int (nI 0))) M) : Wn (d + 1) 75 Q (0, lv_args 0 [.ref 114, .int x, .int y], [], M) := by
  refine w_m_isCell d _ _ M σ' hM Q ?_
  rw [b2_f (show ¬ (0 ≤ x.toInt ∧ x.toInt < (σ' 0 : Int) ∧ 0 ≤ y.toInt ∧ y.toInt < (σ' 1 : Int)) from hc)]
  exact hQ
/-- behind an act of the reference -/
def PM (M0 : Mm) (f0 g : Nat → Int32) (σ : Nat → Nat) (r : Option Value) : Po := fun r0 M' => r0 = r ∧ Rs f0 (M'.1 116) σ ∧ M'.1 114 = g ∧ Fr [114, 116] M0 M'
theorem PM_mS {M : Mm} {f0 f9 g : Nat → Int32} {σ : Nat → Nat} (h : Rs f0 f9 σ) : PM M f0 g σ none none (mS M f9 g) := by
  refine ⟨rfl, ?_, ?_, ?_⟩
  · show Rs f0 (va_up (va_up M.1 116 f9) 114 g 116) σ
    rw [va_up_ne _ _ (by decide), va_up_self]
    exact h
  · show va_up (va_up M.1 116 f9) 114 g 114 = g
    exact va_up_self _ _ _
  · exact fr_sI (fr_sI (fr_rf _ M) rfl (by decide)) rfl (by decide)
theorem c_m_bends (d : Nat) (M : Mm) (f0 g : Nat → Int32) (σ : Nat → Nat) (hR : Rs f0 (M.1 116) σ) (hB : Bd σ) (hg : M.1 114 = g) (q : Nat) (hq : q < 6) : Wn (d + 1) 92 (PM M f0 g (bend σ q) none) (0, lv_args 0 [.ref 114, .int (nI q)], [], M) := by
  have h := w_m_bends d σ q hq M (M.1 116) (M.1 114) f0 hR hB (PM M f0 g (bend σ q) none) (fun f9 h9 => by rw [hg]; exact PM_mS h9)
  rw [mS_self] at h
  exact h
theorem c_m_flatters (d : Nat) (M : Mm) (f0 g : Nat → Int32) (σ : Nat → Nat) (hR : Rs f0 (M.1 116) σ) (hB : Bd σ) (hg : M.1 114 = g) (r : Nat) (hr : r < 6) (hp : σ (172 + r) + 1 < 1073741824) : Wn (d + 5) 94 (PM M f0 g (flat σ r) none) (0, lv_args 0 [.ref 114, .int (nI r)], [], M) := by
  have h := w_m_flatters d σ r hr hp M (M.1 116) (M.1 114) f0 hR hB (PM M f0 g (flat σ r) none) (fun f9 h9 => by rw [hg]; exact PM_mS h9)
  rw [mS_self] at h
  exact h
theorem c_m_curses (d : Nat) (M : Mm) (f0 g : Nat → Int32) (σ : Nat → Nat) (hR : Rs f0 (M.1 116) σ) (hB : Bd σ) (hg : M.1 114 = g) (q : Nat) (hq : q < 6) : Wn (d + 5) 95 (PM M f0 g (curse σ q) none) (0, lv_args 0 [.ref 114, .int (nI q)], [], M) := by
  have h := w_m_curses d σ q hq M (M.1 116) (M.1 114) f0 hR hB (PM M f0 g (curse σ q) none) (fun f9 h9 => by rw [hg]; exact PM_mS h9)
  rw [mS_self] at h
  exact h
theorem c_m_hour (d : Nat) (M : Mm) (f0 g : Nat → Int32) (σ : Nat → Nat) (hR : Rs f0 (M.1 116) σ) (hB : Bd σ) (hg : M.1 114 = g) (h400 : σ 90 < 400) : Wn (d + 6) 96 (PM M f0 (upd g 22 (nI (swN σ (σ 2)))) (hour σ) none) (0, lv_args 0 [.ref 114], [], M) := by
  have h := w_m_hour d σ h400 M (M.1 116) (M.1 114) f0 hR hB (PM M f0 (upd g 22 (nI (swN σ (σ 2)))) (hour σ) none) (fun f9 h9 => by rw [hg]; exact PM_mS h9)
  rw [mS_self] at h
  exact h
/-- the states that can be taken back: the row, how many -/
def HMr (u : Nat → Int32) (n : Nat) (H : Nat → Nat → Nat) : Prop := ∀ k, k < n → ∀ i, i < 88 → u (88 * k + i) = nI (H k (90 + i))
def hpn (n : Nat) : Nat := if n = 8 then 8 else n + 1
def hpH (n : Nat) (H : Nat → Nat → Nat) (σ : Nat → Nat) : Nat → Nat → Nat := fun k => if n = 8 then (if k = 7 then σ else H (k + 1)) else (if k = n then σ else H k)
def shf (u : Nat → Int32) (z : Nat) : Nat → Int32 := fun j => if j < z then u (j + 88) else u j
def cpr (u : Nat → Int32) (n : Nat) (σ : Nat → Nat) (z : Nat) : Nat → Int32 := fun j => if 88 * n ≤ j ∧ j < 88 * n + z then nI (σ (90 + (j - 88 * n))) else u j
theorem shf_0 (u : Nat → Int32) : shf u 0 = u := by funext j; unfold shf; rw [if_neg (by omega)]
theorem shf_s (u : Nat → Int32) (z : Nat) : upd (shf u z) z (shf u z (z + 88)) = shf u (z + 1) := by
  funext j
  unfold upd shf
  by_cases h : j = z
  · subst h; rw [if_pos rfl, if_neg (by omega), if_pos (by omega)]
  · rw [if_neg h]
    by_cases h2 : j < z
    · rw [if_pos h2, if_pos (by omega)]
    · rw [if_neg h2, if_neg (by omega)]
theorem cpr_0 (u : Nat → Int32) (n : Nat) (σ : Nat → Nat) : cpr u n σ 0 = u := by funext j; unfold cpr; rw [if_neg (by omega)]
theorem cpr_s (u : Nat → Int32) (n : Nat) (σ : Nat → Nat) (z : Nat) : upd (cpr u n σ z) (88 * n + z) (nI (σ (90 + z))) = cpr u n σ (z + 1) := by
  funext j
  unfold upd cpr
  by_cases h : j = 88 * n + z
  · subst h; rw [if_pos rfl, if_pos (by omega)]; congr 3; omega
  · rw [if_neg h]
    by_cases h2 : 88 * n ≤ j ∧ j < 88 * n + z
    · rw [if_pos h2, if_pos (by omega)]
    · rw [if_neg h2, if_neg (by omega)]
theorem HMr_cpr {u : Nat → Int32} {n : Nat} {H : Nat → Nat → Nat} {σ : Nat → Nat} (h : HMr u n H) : HMr (cpr u n σ 88) (n + 1) (fun k => if k = n then σ else H k) := by
  intro k hk i hi
  unfold cpr
  show (if 88 * n ≤ 88 * k + i ∧ 88 * k + i < 88 * n + 88 then nI (σ (90 + (88 * k + i - 88 * n))) else u (88 * k + i)) = nI ((if k = n then σ else H k) (90 + i))
  by_cases e : k = n
  · subst e
    rw [if_pos (by omega), if_pos rfl]
    congr 3
    omega
  · rw [if_neg (by omega), if_neg e]
    exact h k (by omega) i hi
theorem HMr_shf {u : Nat → Int32} {H : Nat → Nat → Nat} (h : HMr u 8 H) : HMr (shf u 616) 7 (fun k => H (k + 1)) := by
  intro k hk i hi
  unfold shf
  rw [if_pos (by omega), show 88 * k + i + 88 = 88 * (k + 1) + i by omega]
  exact h (k + 1) (by omega) i hi
def PK (M0 : Mm) (g : Nat → Int32) (n : Nat) (H : Nat → Nat → Nat) (σ : Nat → Nat) : Po := fun r0 M' => r0 = none ∧ HMr (M'.1 121) (hpn n) (hpH n H σ) ∧ M'.1 114 = upd g 25 (nI (hpn n)) ∧ Fr [114, 121] M0 M'
set_option maxRecDepth 20000 in
theorem keep_2 (d : Nat) (M0 M : Mm) (f0 g u : Nat → Int32) (σ : Nat → Nat) (n : Nat) (hR : Rs f0 (M.1 116) σ) (hg : M.1 114 = g) (hu : M.1 121 = u) (hn : g 25 = nI n) (hn8 : n < 8) (hF : Fr [114, 121] M0 M) : Wn (d + 0) 103 (fun r0 M9 => r0 = none ∧ M9.1 121 = cpr u n σ 88 ∧ M9.1 114 = upd g 25 (nI (n + 1)) ∧ Fr [114, 121] M0 M9) (47, [(1, .int (nI 0)), (0, .ref 114)], [], M) := by
  have loop : ∀ (m z : Nat) (N : Mm), 88 - z = m → z ≤ 88 → (Rs f0 (N.1 116) σ) → (N.1 114 = g) → (N.1 121 = (cpr u n σ z)) → (Fr [114, 121] M0 N) → Wn (d + 0) 103 (fun r0 M9 => r0 = none ∧ M9.1 121 = cpr u n σ 88 ∧ M9.1 114 = upd g 25 (nI (n + 1)) ∧ Fr [114, 121] M0 M9) (47, [(1, .int (nI z)), (0, .ref 114)], [], N) := by
    intro m
    induction m using Nat.strongRecOn with
    | _ m ih =>
      intro z N hm hz loop_0 loop_1 loop_2 loop_3
      refine Wn.run (tab := tb_m_keep) rfl 3 (c' := (if (nI 88) ≤ (nI z) then 82 else 53, [(1, .int (nI z)), (0, .ref 114)], [], N)) (o := []) rfl trivial ?_
      refine Wn.br (fun h1 => ?_) (fun h1 => ?_)
      · show Wn _ 103 _ (82, [(1, .int (nI z)), (0, .ref 114)], [], N)
        have h1 := (n_le rfl rfl (by omega) (by omega)).mp h1
        refine Wn.run (tab := tb_m_keep) rfl 6 (c' := (92, [(1, .int (nI z)), (0, .ref 114)], [], (mI N 114 (upd (N.1 114) 25 ((N.1 114 25) + (nI 1)))))) (o := [shp 114 = (0, 10), shp 114 = (0, 10)]) rfl ⟨rfl, rfl⟩ ?_
        rw [show (N.1 114 25) = (nI n) from (fr_eq loop_1 (show g 25 = (nI n) from hn))]
        rw [show ((nI n) + (nI 1)) = (nI (n + 1)) from (n_add rfl rfl)]
        generalize hM2 : (mI N 114 (upd (N.1 114) 25 (nI (n + 1)))) = M1
        have hk3 := rs_ne hM2 (by decide) loop_0
        have hk4 := fI_up hM2 loop_1
        have hk5 := fI_ne hM2 (by decide) loop_2
        have hF6 := fr_sI loop_3 hM2 (by decide)
        show Wn _ 103 _ (92, [(1, .int (nI z)), (0, .ref 114)], [], M1)
        have e9 : z = 88 := by omega
        rw [e9] at hk5
        exact Wn.vret rfl ⟨rfl, hk5, hk4, hF6⟩
      · show Wn _ 103 _ (53, [(1, .int (nI z)), (0, .ref 114)], [], N)
        have h1 := mt (n_le rfl rfl (by omega) (by omega)).mpr h1
        refine Wn.run (tab := tb_m_keep) rfl 15 (c' := (76, [(1, .int (nI z)), (0, .ref 114)], [], (mI N 121 (upd (N.1 121) ((((nI 88) * (N.1 114 25)) + (nI z))).toNatClampNeg (N.1 116 (((nI 90) + (nI z))).toNatClampNeg))))) (o := [shp 114 = (0, 10), shp 114 = (0, 10), shp 114 = (0, 10), aok shp 116 0 ((nI 90) + (nI z)), aok shp 121 0 (((nI 88) * (N.1 114 25)) + (nI z))]) rfl ⟨rfl, rfl, rfl, (ak1 (n := 359) rfl rfl (n_add rfl rfl) (by omega)), (ak1 (n := 704) rfl rfl (n_add (n_mul rfl (fr_eq loop_1 (show g 25 = (nI n) from hn))) rfl) (by omega))⟩ ?_
        rw [show (N.1 116 (((nI 90) + (nI z))).toNatClampNeg) = (nI (σ (90 + z))) from (rd1 loop_0.1 (n_add rfl rfl) (by omega) (by omega))]
        rw [show (N.1 114 25) = (nI n) from (fr_eq loop_1 (show g 25 = (nI n) from hn))]
        generalize hM8 : (mI N 121 (upd (N.1 121) ((((nI 88) * (nI n)) + (nI z))).toNatClampNeg (nI (σ (90 + z))))) = M7
        have hk9 := rs_ne hM8 (by decide) loop_0
        have hk10 := fI_ne hM8 (by decide) loop_1
        have hk11 := fI_upx hM8 loop_2 (cl1 (n_add (n_mul rfl rfl) rfl) (by omega))
        have hF12 := fr_sI loop_3 hM8 (by decide)
        show Wn _ 103 _ (76, [(1, .int (nI z)), (0, .ref 114)], [], M7)
        refine Wn.run (tab := tb_m_keep) rfl 2 (c' := (47, [(1, .int ((nI z) + (nI 1))), (0, .ref 114)], [], M7)) (o := []) rfl trivial ?_
        rw [show ((nI z) + (nI 1)) = (nI (z + 1)) from (n_add rfl rfl)]
        exact ih (88 - (z + 1)) (by omega) (z + 1) M7 rfl (by omega) hk9 hk10 (by rw [← cpr_s]; exact hk11) hF12
  exact loop (88 - 0) 0 M rfl (by omega) hR hg (by rw [cpr_0]; exact hu) hF
set_option maxRecDepth 20000 in
theorem c_m_keep (d : Nat) (M : Mm) (f0 g : Nat → Int32) (σ : Nat → Nat) (n : Nat) (H : Nat → Nat → Nat) (hR : Rs f0 (M.1 116) σ) (hg : M.1 114 = g) (hn : g 25 = nI n) (hn8 : n ≤ 8) (hH : HMr (M.1 121) n H) : Wn (d + 0) 103 (PK M g n H σ) (0, lv_args 0 [.ref 114], [], M) := by
  have hF := fr_rf [114, 121] M
  obtain ⟨u, hu⟩ : ∃ u, M.1 121 = u := ⟨_, rfl⟩
  rw [hu] at hH
  refine Wn.run (tab := tb_m_keep) rfl 4 (c' := (if ¬ (M.1 114 25) = (nI 8) then 45 else 9, [(0, .ref 114)], [], M)) (o := [shp 114 = (0, 10)]) rfl rfl ?_
  refine Wn.br (fun h1 => ?_) (fun h1 => ?_)
  · show Wn _ 103 _ (45, [(0, .ref 114)], [], M)
    have h1 := mt (n_eq (fr_eq hg (show g 25 = (nI n) from hn)) rfl (by omega) (by omega)).mpr h1
    refine Wn.run (tab := tb_m_keep) rfl 2 (c' := (47, [(1, .int (nI 0)), (0, .ref 114)], [], M)) (o := []) rfl trivial ?_
    refine Wn.mono (keep_2 d M M f0 g u σ n hR hg hu hn (by omega) hF) ?_
    rintro r0 M9 ⟨rfl, q1, q2, q3⟩
    exact ⟨rfl, by rw [q1, show hpn n = n + 1 from if_neg h1, show hpH n H σ = (fun k => if k = n then σ else H k) from by funext k; exact if_neg h1]; exact HMr_cpr hH, by rw [q2, show hpn n = n + 1 from if_neg h1], q3⟩
  · show Wn _ 103 _ (9, [(0, .ref 114)], [], M)
    have h1 := (n_eq (fr_eq hg (show g 25 = (nI n) from hn)) rfl (by omega) (by omega)).mp (Classical.not_not.mp h1)
    refine Wn.run (tab := tb_m_keep) rfl 2 (c' := (11, [(1, .int (nI 0)), (0, .ref 114)], [], M)) (o := []) rfl trivial ?_
    have loop : ∀ (m z : Nat) (N : Mm), 616 - z = m → z ≤ 616 → (Rs f0 (N.1 116) σ) → (N.1 114 = g) → (N.1 121 = (shf u z)) → (Fr [114, 121] M N) → Wn (d + 0) 103 (PK M g n H σ) (11, [(1, .int (nI z)), (0, .ref 114)], [], N) := by
      intro m
      induction m using Nat.strongRecOn with
      | _ m ih =>
        intro z N hm hz loop_0 loop_1 loop_2 loop_3
        refine Wn.run (tab := tb_m_keep) rfl 3 (c' := (if (nI 616) ≤ (nI z) then 39 else 18, [(1, .int (nI z)), (0, .ref 114)], [], N)) (o := []) rfl trivial ?_
        refine Wn.br (fun h2 => ?_) (fun h2 => ?_)
        · show Wn _ 103 _ (39, [(1, .int (nI z)), (0, .ref 114)], [], N)
          have h2 := (n_le rfl rfl (by omega) (by omega)).mp h2
          have e9 : z = 616 := by omega
          rw [e9] at loop_2
          refine Wn.run (tab := tb_m_keep) rfl 3 (c' := (45, [(1, .int (nI z)), (0, .ref 114)], [], (mI N 114 (upd (N.1 114) 25 (nI 7))))) (o := [shp 114 = (0, 10)]) rfl rfl ?_
          generalize hM2 : (mI N 114 (upd (N.1 114) 25 (nI 7))) = M1
          have hk3 := rs_ne hM2 (by decide) loop_0
          have hk4 := fI_up hM2 loop_1
          have hk5 := fI_ne hM2 (by decide) loop_2
          have hF6 := fr_sI loop_3 hM2 (by decide)
          show Wn _ 103 _ (45, [(1, .int (nI z)), (0, .ref 114)], [], M1)
          refine Wn.run (tab := tb_m_keep) rfl 2 (c' := (47, [(1, .int (nI 0)), (0, .ref 114)], [], M1)) (o := []) rfl trivial ?_
          refine Wn.mono (keep_2 d M M1 f0 (upd g 25 (nI 7)) (shf u 616) σ 7 hk3 hk4 hk5 rfl (by omega) hF6) ?_
          rintro r0 M9 ⟨rfl, q1, q2, q3⟩
          exact ⟨rfl, by rw [q1, show hpn n = 7 + 1 from if_pos h1, show hpH n H σ = (fun k => if k = 7 then σ else H (k + 1)) from by funext k; exact if_pos h1]; exact HMr_cpr (HMr_shf (h1 ▸ hH)), by rw [q2, upd_u2, show hpn n = 7 + 1 from if_pos h1], q3⟩
        · show Wn _ 103 _ (18, [(1, .int (nI z)), (0, .ref 114)], [], N)
          have h2 := mt (n_le rfl rfl (by omega) (by omega)).mpr h2
          refine Wn.run (tab := tb_m_keep) rfl 10 (c' := (33, [(1, .int (nI z)), (0, .ref 114)], [], (mI N 121 (upd (N.1 121) ((nI z)).toNatClampNeg (N.1 121 (((nI z) + (nI 88))).toNatClampNeg))))) (o := [shp 114 = (0, 10), shp 114 = (0, 10), aok shp 121 0 ((nI z) + (nI 88)), aok shp 121 0 (nI z)]) rfl ⟨rfl, rfl, (ak1 (n := 704) rfl rfl (n_add rfl rfl) (by omega)), (ak1 (n := 704) rfl rfl rfl (by omega))⟩ ?_
          rw [show (N.1 121 (((nI z) + (nI 88))).toNatClampNeg) = ((shf u z) (z + 88)) from (fr_rdx loop_2 (n_add rfl rfl) (by omega))]
          generalize hM8 : (mI N 121 (upd (N.1 121) ((nI z)).toNatClampNeg ((shf u z) (z + 88)))) = M7
          have hk9 := rs_ne hM8 (by decide) loop_0
          have hk10 := fI_ne hM8 (by decide) loop_1
          have hk11 := fI_upx hM8 loop_2 (cl1 rfl (by omega))
          have hF12 := fr_sI loop_3 hM8 (by decide)
          show Wn _ 103 _ (33, [(1, .int (nI z)), (0, .ref 114)], [], M7)
          refine Wn.run (tab := tb_m_keep) rfl 2 (c' := (11, [(1, .int ((nI z) + (nI 1))), (0, .ref 114)], [], M7)) (o := []) rfl trivial ?_
          rw [show ((nI z) + (nI 1)) = (nI (z + 1)) from (n_add rfl rfl)]
          exact ih (616 - (z + 1)) (by omega) (z + 1) M7 rfl (by omega) hk9 hk10 (by rw [← shf_s]; exact hk11) hF12
    exact loop (616 - 0) 0 M rfl (by omega) hR hg (by rw [shf_0]; exact hu) hF
