/-! Line, by the reference. -/
abbrev Txt : Type := Nat × (Nat → Nat)
def lyC (t : Txt) (c : Nat) : Txt := (t.1 + 1, su t.2 t.1 c)
def spl (w : Nat) : Nat → Txt → Txt
  | 0, t => t
  | k + 1, t => spl w k (if w / 2 ^ (8 * k) % 256 = 0 then t else lyC t (w / 2 ^ (8 * k) % 256))
theorem spl_len (w : Nat) : ∀ k t, t.1 ≤ (spl w k t).1 ∧ (spl w k t).1 ≤ t.1 + k
  | 0, t => ⟨Nat.le_refl _, Nat.le_refl _⟩
  | k + 1, t => by
    show t.1 ≤ (spl w k (if w / 2 ^ (8 * k) % 256 = 0 then t else lyC t (w / 2 ^ (8 * k) % 256))).1 ∧ _ ≤ _
    by_cases c : w / 2 ^ (8 * k) % 256 = 0
    · have := spl_len w k t
      rw [if_pos c]
      show t.1 ≤ (spl w k t).1 ∧ (spl w k (if w / 2 ^ (8 * k) % 256 = 0 then t else lyC t (w / 2 ^ (8 * k) % 256))).1 ≤ t.1 + (k + 1)
      rw [if_pos c]
      omega
    · have h := spl_len w k (lyC t (w / 2 ^ (8 * k) % 256))
      have e : (lyC t (w / 2 ^ (8 * k) % 256)).1 = t.1 + 1 := rfl
      rw [e] at h
      rw [if_neg c]
      show t.1 ≤ (spl w k (lyC t (w / 2 ^ (8 * k) % 256))).1 ∧ (spl w k (if w / 2 ^ (8 * k) % 256 = 0 then t else lyC t (w / 2 ^ (8 * k) % 256))).1 ≤ t.1 + (k + 1)
      rw [if_neg c]
      omega
theorem b64 {W c : Nat} (hW : W < 9223372036854775808) (hc : c < 64) : ((Int64.ofNat W) >>> ((nI c).toInt64 &&& 63)) &&& (255 : Int64) = Int64.ofNat (W / 2 ^ c % 256) := by
  apply Int64.toBitVec_inj.mp
  show ((BitVec.ofNat 64 W).sshiftRight (((nI c).toInt64 &&& 63).toBitVec.smod 64).toNat) &&& 255#64 = BitVec.ofNat 64 (W / 2 ^ c % 256)
  rw [s64a c hc]
  have hm : (BitVec.ofNat 64 W).msb = false := by
    rw [BitVec.msb_eq_false_iff_two_mul_lt, BitVec.toNat_ofNat, Nat.mod_eq_of_lt (by omega)]
    omega
  rw [BitVec.sshiftRight_eq_of_msb_false hm]
  apply BitVec.eq_of_toNat_eq
  have hl := Nat.mod_lt (W / 2 ^ c) (show 0 < 256 by decide)
  rw [BitVec.toNat_and, BitVec.toNat_ushiftRight, BitVec.toNat_ofNat, BitVec.toNat_ofNat, BitVec.toNat_ofNat, Nat.mod_eq_of_lt (show W < 2 ^ 64 by omega), Nat.mod_eq_of_lt (show W / 2 ^ c % 256 < 2 ^ 64 by omega), Nat.shiftRight_eq_div_pow, show 255 % 2 ^ 64 = 2 ^ 8 - 1 from rfl, Nat.and_two_pow_sub_one_eq_mod]
theorem b64_0 : ∀ v, v < 256 → (lg_cmp (Int64.ofNat v) 0 = 0 ↔ v = 0) := by decide +kernel
theorem b64_i : ∀ v, v < 256 → (Int64.ofNat v).toInt32 = nI v := by decide +kernel
theorem i8_n : ∀ v, v < 128 → ((nI v).toInt8.toInt32).toInt8.toInt32 = nI v := by decide +kernel
/-- the text that the reference has laid -/
def TxM (M : Mm) (t : Txt) : Prop := M.1 114 34 = nI t.1 ∧ ∀ e, e < t.1 → M.1 127 e = nI (t.2 e)
def PTx (M0 : Mm) (t : Txt) : Po := fun r0 M' => r0 = none ∧ TxM M' t ∧ Gx [34] (M0.1 114) (M'.1 114) ∧ Fr [114, 127] M0 M'
theorem PTx_tr {M0 M1 M2 : Mm} {t s : Txt} {r : Option Value} (h1 : Gx [34] (M0.1 114) (M1.1 114) ∧ Fr [114, 127] M0 M1) (h2 : PTx M1 t r M2) : PTx M0 t r M2 := ⟨h2.1, h2.2.1, Gx_tr h1.1 h2.2.2.1, fr_tr h1.2 h2.2.2.2 (by decide)⟩
theorem c_m_lays (d : Nat) (M : Mm) (t : Txt) (hT : TxM M t) (h32 : t.1 < 32) (c : Nat) (hc : c < 128) : Wn (d + 0) 123 (PTx M (lyC t c)) (0, lv_args 0 [.ref 114, .int (nI c)], [], M) := by
  refine Wn.run (tab := tb_m_lays) rfl 7 (c' := (11, [(0, .ref 114), (1, .int (nI c))], [], (mI M 127 (upd (M.1 127) ((M.1 114 34)).toNatClampNeg (((nI c)).toInt8.toInt32).toInt8.toInt32)))) (o := [shp 114 = (0, 10), shp 114 = (0, 10), aok shp 127 1 (M.1 114 34)]) rfl ⟨rfl, rfl, (ak1 (n := 32) rfl rfl hT.1 h32)⟩ ?_
  rw [hT.1, show ((nI t.1)).toNatClampNeg = t.1 from nI_clamp (by omega), i8_n c hc]
  generalize hM1 : (mI M 127 (upd (M.1 127) t.1 (nI c))) = M1
  have f1 := fr_1I hM1
  have e34 : M1.1 114 34 = nI t.1 := by rw [(f1 114 (by decide)).1]; exact hT.1
  refine Wn.run (tab := tb_m_lays) rfl 6 (c' := (21, [(0, .ref 114), (1, .int (nI c))], [], (mI M1 114 (upd (M1.1 114) 34 ((M1.1 114 34) + (nI 1)))))) (o := [shp 114 = (0, 10), shp 114 = (0, 10)]) rfl ⟨rfl, rfl⟩ ?_
  rw [e34, nI_add]
  generalize hM2 : (mI M1 114 (upd (M1.1 114) 34 (nI (t.1 + 1)))) = M2
  have f2 := fr_1I hM2
  refine Wn.vret rfl ⟨rfl, ⟨by rw [mI_eq hM2, pk_us]; rfl, fun e he => ?_⟩, ?_, fr_tr (fr_up f1 (by decide)) f2 (by decide)⟩
  · rw [(f2 127 (by decide)).1, mI_eq hM1]
    have he : e < t.1 + 1 := he
    show _ = nI (su t.2 t.1 c e)
    unfold su
    by_cases ez : e = t.1
    · rw [if_pos ez, ez, pk_us]
    · rw [if_neg ez, pk_un ez]; exact hT.2 e (by omega)
  · rw [mI_eq hM2, (f1 114 (by decide)).1]
    exact Gx_up (Gx_rf _ _) (by decide)
theorem c_m_spells (d : Nat) (M : Mm) (t : Txt) (hT : TxM M t) (h32 : t.1 + 8 ≤ 32) (W : Nat) (hW : W < 9223372036854775808) (hb : ∀ k, k < 8 → W / 2 ^ (8 * k) % 256 < 128) : Wn (d + 1) 124 (PTx M (spl W 8 t)) (0, lv_args 0 [.ref 114, .long (Int64.ofNat W)], [], M) := by
  refine Wn.run (tab := tb_m_spells) rfl 2 (c' := (3, [(3, .int (nI 56)), (0, .ref 114), (1, .long (Int64.ofNat W))], [], M)) (o := []) rfl trivial ?_
  have loop : ∀ (k : Nat) (t : Txt) (N : Mm), k < 8 → TxM N t → t.1 + k + 1 ≤ 32 → Gx [34] (M.1 114) (N.1 114) → Fr [114, 127] M N → Wn (d + 1) 124 (PTx M (spl W (k + 1) t)) (3, [(3, .int (nI (8 * k))), (0, .ref 114), (1, .long (Int64.ofNat W))], [], N) := by
    intro k
    induction k with
    | zero =>
      intro t N hk hT hl hG hF
      refine Wn.run (tab := tb_m_spells) rfl 2 (c' := (if (nI (8 * 0)) < 0 then 37 else 7, [(3, .int (nI (8 * 0))), (0, .ref 114), (1, .long (Int64.ofNat W))], [], N)) (o := []) rfl trivial ?_
      rw [if_neg (show ¬ nI (8 * 0) < 0 from nI_nn (by omega))]
      refine Wn.run (tab := tb_m_spells) rfl 7 (c' := (16, [(3, .int (nI (8 * 0))), (0, .ref 114), (1, .long (Int64.ofNat W))], [.int (lg_cmp (((Int64.ofNat W) >>> (((nI (8 * 0))).toInt64 &&& 63)) &&& (255 : Int64)) (0 : Int64))], N)) (o := []) rfl trivial ?_
      have hv := hb 0 (by omega)
      rw [b64 hW (show 8 * 0 < 64 by omega)]
      show Wn _ 124 _ (16, [(3, .int (nI (8 * 0))), (0, .ref 114), (1, .long (Int64.ofNat W))], [.int (lg_cmp (Int64.ofNat (W / 2 ^ (8 * 0) % 256)) 0)], N)
      refine Wn.run (tab := tb_m_spells) rfl 1 (c' := (if (lg_cmp (Int64.ofNat (W / 2 ^ (8 * 0) % 256)) 0) = 0 then 31 else 19, [(3, .int (nI (8 * 0))), (0, .ref 114), (1, .long (Int64.ofNat W))], [], N)) (o := []) rfl trivial ?_
      generalize hV : W / 2 ^ (8 * 0) % 256 = v at hv
      have z31 : ∀ (u : Txt) (N2 : Mm), (u = if v = 0 then t else lyC t v) → TxM N2 u → Gx [34] (M.1 114) (N2.1 114) → Fr [114, 127] M N2 → Wn (d + 1) 124 (PTx M (spl W (0 + 1) t)) (31, [(3, .int (nI (8 * 0))), (0, .ref 114), (1, .long (Int64.ofNat W))], [], N2) := by
        intro u N2 eu hT2 hG2 hF2
        have eS : spl W (0 + 1) t = spl W 0 u := by
          show spl W 0 (if W / 2 ^ (8 * 0) % 256 = 0 then t else lyC t (W / 2 ^ (8 * 0) % 256)) = _
          rw [hV, eu]
        have ul : u.1 ≤ t.1 + 1 := by rw [eu]; split <;> first | omega | exact Nat.le_refl _
        rw [eS]
        refine Wn.run (tab := tb_m_spells) rfl 2 (c' := (3, [(3, .int ((nI (8 * 0)) + (-8 : Int32))), (0, .ref 114), (1, .long (Int64.ofNat W))], [], N2)) (o := []) rfl trivial ?_
        rw [show nI (8 * 0) + (-8 : Int32) = -8 from by decide]
        refine Wn.run (tab := tb_m_spells) rfl 2 (c' := (if (-8 : Int32) < 0 then 37 else 7, [(3, .int (-8 : Int32)), (0, .ref 114), (1, .long (Int64.ofNat W))], [], N2)) (o := []) rfl trivial ?_
        rw [if_pos (show (-8 : Int32) < 0 by decide)]
        exact Wn.vret rfl ⟨rfl, hT2, hG2, hF2⟩
      by_cases cv : v = 0
      · rw [if_pos ((b64_0 v (by omega)).mpr cv)]
        exact z31 t N (by rw [if_pos cv]) hT hG hF
      rw [if_neg (mt (b64_0 v (by omega)).mp cv)]
      refine Wn.run (tab := tb_m_spells) rfl 7 (c' := (28, [(3, .int (nI (8 * 0))), (0, .ref 114), (1, .long (Int64.ofNat W))], [.int ((((Int64.ofNat W) >>> (((nI (8 * 0))).toInt64 &&& 63)) &&& (255 : Int64))).toInt32, .ref 114], N)) (o := []) rfl trivial ?_
      rw [b64 hW (show 8 * 0 < 64 by omega), hV, b64_i v (by omega)]
      refine Wn.callV (p := 114) (n := 2) (ix := 378) (ci := (10)) (PTx N (lyC t v)) [.int (nI v)] [] rfl rfl rfl rfl (Nat.le_of_ble_eq_true rfl) (Nat.le_of_ble_eq_true rfl) (c_m_lays _ N t hT (by omega) v hv) ?_
      rintro _ N2 ⟨rfl, k1, k2, k3⟩
      show Wn _ 124 _ (31, [(3, .int (nI (8 * 0))), (0, .ref 114), (1, .long (Int64.ofNat W))], [], N2)
      exact z31 (lyC t v) N2 (by rw [if_neg cv]) k1 (Gx_tr hG k2) (fr_tr hF k3 (by decide))
    | succ k ih =>
      intro t N hk hT hl hG hF
      refine Wn.run (tab := tb_m_spells) rfl 2 (c' := (if (nI (8 * (k + 1))) < 0 then 37 else 7, [(3, .int (nI (8 * (k + 1)))), (0, .ref 114), (1, .long (Int64.ofNat W))], [], N)) (o := []) rfl trivial ?_
      rw [if_neg (show ¬ nI (8 * (k + 1)) < 0 from nI_nn (by omega))]
      refine Wn.run (tab := tb_m_spells) rfl 7 (c' := (16, [(3, .int (nI (8 * (k + 1)))), (0, .ref 114), (1, .long (Int64.ofNat W))], [.int (lg_cmp (((Int64.ofNat W) >>> (((nI (8 * (k + 1)))).toInt64 &&& 63)) &&& (255 : Int64)) (0 : Int64))], N)) (o := []) rfl trivial ?_
      have hv := hb (k + 1) (by omega)
      rw [b64 hW (show 8 * (k + 1) < 64 by omega)]
      show Wn _ 124 _ (16, [(3, .int (nI (8 * (k + 1)))), (0, .ref 114), (1, .long (Int64.ofNat W))], [.int (lg_cmp (Int64.ofNat (W / 2 ^ (8 * (k + 1)) % 256)) 0)], N)
      refine Wn.run (tab := tb_m_spells) rfl 1 (c' := (if (lg_cmp (Int64.ofNat (W / 2 ^ (8 * (k + 1)) % 256)) 0) = 0 then 31 else 19, [(3, .int (nI (8 * (k + 1)))), (0, .ref 114), (1, .long (Int64.ofNat W))], [], N)) (o := []) rfl trivial ?_
      generalize hV : W / 2 ^ (8 * (k + 1)) % 256 = v at hv
      have z31 : ∀ (u : Txt) (N2 : Mm), (u = if v = 0 then t else lyC t v) → TxM N2 u → Gx [34] (M.1 114) (N2.1 114) → Fr [114, 127] M N2 → Wn (d + 1) 124 (PTx M (spl W ((k + 1) + 1) t)) (31, [(3, .int (nI (8 * (k + 1)))), (0, .ref 114), (1, .long (Int64.ofNat W))], [], N2) := by
        intro u N2 eu hT2 hG2 hF2
        have eS : spl W ((k + 1) + 1) t = spl W (k + 1) u := by
          show spl W (k + 1) (if W / 2 ^ (8 * (k + 1)) % 256 = 0 then t else lyC t (W / 2 ^ (8 * (k + 1)) % 256)) = _
          rw [hV, eu]
        have ul : u.1 ≤ t.1 + 1 := by rw [eu]; split <;> first | omega | exact Nat.le_refl _
        rw [eS]
        refine Wn.run (tab := tb_m_spells) rfl 2 (c' := (3, [(3, .int ((nI (8 * (k + 1))) + (-8 : Int32))), (0, .ref 114), (1, .long (Int64.ofNat W))], [], N2)) (o := []) rfl trivial ?_
        rw [show nI (8 * (k + 1)) + (-8 : Int32) = nI (8 * k) from by rw [show nI (8 * (k + 1)) = nI (8 * k) + nI 8 from by rw [nI_add]; congr 1, Int32.add_assoc, show nI 8 + (-8 : Int32) = 0 by decide, Int32.add_zero]]
        exact ih u N2 (by omega) hT2 (by omega) hG2 hF2
      by_cases cv : v = 0
      · rw [if_pos ((b64_0 v (by omega)).mpr cv)]
        exact z31 t N (by rw [if_pos cv]) hT hG hF
      rw [if_neg (mt (b64_0 v (by omega)).mp cv)]
      refine Wn.run (tab := tb_m_spells) rfl 7 (c' := (28, [(3, .int (nI (8 * (k + 1)))), (0, .ref 114), (1, .long (Int64.ofNat W))], [.int ((((Int64.ofNat W) >>> (((nI (8 * (k + 1)))).toInt64 &&& 63)) &&& (255 : Int64))).toInt32, .ref 114], N)) (o := []) rfl trivial ?_
      rw [b64 hW (show 8 * (k + 1) < 64 by omega), hV, b64_i v (by omega)]
      refine Wn.callV (p := 114) (n := 2) (ix := 378) (ci := (10)) (PTx N (lyC t v)) [.int (nI v)] [] rfl rfl rfl rfl (Nat.le_of_ble_eq_true rfl) (Nat.le_of_ble_eq_true rfl) (c_m_lays _ N t hT (by omega) v hv) ?_
      rintro _ N2 ⟨rfl, k1, k2, k3⟩
      show Wn _ 124 _ (31, [(3, .int (nI (8 * (k + 1)))), (0, .ref 114), (1, .long (Int64.ofNat W))], [], N2)
      exact z31 (lyC t v) N2 (by rw [if_neg cv]) k1 (Gx_tr hG k2) (fr_tr hF k3 (by decide))
  exact loop 7 t M (by omega) hT (by omega) (Gx_rf _ _) (fr_rf _ _)
theorem c_m_says (d : Nat) (M : Mm) (t : Txt) (hT : TxM M t) (h32 : t.1 + 9 ≤ 32) (W : Nat) (hW : W < 9223372036854775808) (hb : ∀ k, k < 8 → W / 2 ^ (8 * k) % 256 < 128) : Wn (d + 2) 125 (PTx M (spl W 8 (lyC t 32))) (0, lv_args 0 [.ref 114, .long (Int64.ofNat W)], [], M) := by
  refine Wn.run (tab := tb_m_says) rfl 2 (c' := (3, [(0, .ref 114), (1, .long (Int64.ofNat W))], [.int (nI 32), .ref 114], M)) (o := []) rfl trivial ?_
  refine Wn.callV (p := 114) (n := 2) (ix := 378) (ci := (10)) (PTx M (lyC t 32)) [.int (nI 32)] [] rfl rfl rfl rfl (Nat.le_of_ble_eq_true rfl) (Nat.le_of_ble_eq_true rfl) (c_m_lays _ M t hT (by omega) 32 (by decide)) ?_
  rintro _ M1 ⟨rfl, k1, k2, k3⟩
  show Wn _ 125 _ (6, [(0, .ref 114), (1, .long (Int64.ofNat W))], [], M1)
  refine Wn.run (tab := tb_m_says) rfl 2 (c' := (8, [(0, .ref 114), (1, .long (Int64.ofNat W))], [.long (Int64.ofNat W), .ref 114], M1)) (o := []) rfl trivial ?_
  refine Wn.callV (p := 114) (n := 2) (ix := 381) (ci := (10)) (PTx M1 (spl W 8 (lyC t 32))) [.long (Int64.ofNat W)] [] rfl rfl rfl rfl (Nat.le_of_ble_eq_true rfl) (Nat.le_of_ble_eq_true rfl) (c_m_spells _ M1 (lyC t 32) k1 (by show t.1 + 1 + 8 ≤ 32; omega) W hW hb) ?_
  rintro _ M2 k4
  have k5 := PTx_tr (s := t) ⟨k2, k3⟩ k4
  obtain ⟨rfl, k6, k7, k8⟩ := k5
  show Wn _ 125 _ (11, [(0, .ref 114), (1, .long (Int64.ofNat W))], [], M2)
  exact Wn.vret rfl ⟨rfl, k6, k7, k8⟩
def dig (t : Txt) (v : Nat) : Txt := lyC (lyC t 32) (48 + v)
theorem c_m_digit (d : Nat) (M : Mm) (t : Txt) (hT : TxM M t) (h32 : t.1 + 2 ≤ 32) (v : Nat) (hv : v < 10) : Wn (d + 1) 126 (PTx M (dig t v)) (0, lv_args 0 [.ref 114, .int (nI v)], [], M) := by
  refine Wn.run (tab := tb_m_digit) rfl 2 (c' := (3, [(0, .ref 114), (1, .int (nI v))], [.int (nI 32), .ref 114], M)) (o := []) rfl trivial ?_
  refine Wn.callV (p := 114) (n := 2) (ix := 378) (ci := (10)) (PTx M (lyC t 32)) [.int (nI 32)] [] rfl rfl rfl rfl (Nat.le_of_ble_eq_true rfl) (Nat.le_of_ble_eq_true rfl) (c_m_lays _ M t hT (by omega) 32 (by decide)) ?_
  rintro _ M1 ⟨rfl, k1, k2, k3⟩
  show Wn _ 126 _ (6, [(0, .ref 114), (1, .int (nI v))], [], M1)
  refine Wn.run (tab := tb_m_digit) rfl 4 (c' := (11, [(0, .ref 114), (1, .int (nI v))], [.int ((nI 48) + (nI v)), .ref 114], M1)) (o := []) rfl trivial ?_
  rw [nI_add]
  refine Wn.callV (p := 114) (n := 2) (ix := 378) (ci := (10)) (PTx M1 (dig t v)) [.int (nI (48 + v))] [] rfl rfl rfl rfl (Nat.le_of_ble_eq_true rfl) (Nat.le_of_ble_eq_true rfl) (c_m_lays _ M1 (lyC t 32) k1 (by show t.1 + 1 < 32; omega) (48 + v) (by omega)) ?_
  rintro _ M2 k4
  have k5 := PTx_tr (s := t) ⟨k2, k3⟩ k4
  obtain ⟨rfl, k6, k7, k8⟩ := k5
  show Wn _ 126 _ (14, [(0, .ref 114), (1, .int (nI v))], [], M2)
  exact Wn.vret rfl ⟨rfl, k6, k7, k8⟩
