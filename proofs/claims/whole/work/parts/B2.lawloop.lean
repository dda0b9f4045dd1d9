/-! The law's loop. Printed by wip/whole/pE1.py. -/
theorem and63 (x : Int32) : ∃ t, t < 64 ∧ x &&& 63 = nI t := by
  refine ⟨(x.toBitVec &&& 63#32).toNat, ?_, ?_⟩
  · rw [BitVec.toNat_and]
    exact Nat.lt_of_le_of_lt Nat.and_le_right (by decide)
  · apply Int32.toBitVec_inj.mp
    rw [Int32.toBitVec_and]
    show _ = BitVec.ofNat 32 _
    rw [BitVec.ofNat_toNat, BitVec.setWidth_eq]
    rfl
theorem lw_room {i L : Nat} (hL : L ≤ 3072) (hi : i ≤ 3078) (h : ¬ (nI L - 6 < nI i)) : i + 6 ≤ L := by
  have e : (nI L - 6 : Int32).toInt = (L : Int) - 6 := by
    rw [Int32.toInt_sub, nI_toInt (by omega)]
    show Int.bmod ((L : Int) - 6) (2 ^ 32) = _
    unfold Int.bmod
    dsimp only
    split <;> omega
  rw [Int32.lt_iff_toInt_lt, e, nI_toInt (by omega)] at h
  omega
def lvL (ρ : Nat → Nat) (b qo i : Nat) : List (Nat × Value) := [(4, .int (nI i)), (0, .ref b), (1, .ref (ρ 0)), (2, .ref (ρ 114)), (3, .ref qo)]
/-- what has been made at most when the i-th number is reached -/
def roomL (i cells slots : Nat) : Prop := cells ≤ 1000 + 10 * i ∧ slots ≤ 100000 + 200 * i
/-- a case of the law that the small machine alone does not answer -/
def SpL (p : Program) (l : Launch) (e : Env) (s : State) (m : MethodId) (args : Array Value) (below : List Frame) (meth : Method) (c : Code) (D : va_G) (tA : Nat → ClassId) (ρ : Nat → Nat) (A : Nat → Prop) (Qf : State → Prop) (b L qo : Nat) (E : Nat → (Nat → Nat) → Heap → Prop) (pc : Nat) : Prop :=
  ∀ (i bb ln : Nat) (tx : Nat → Nat) (M : Mm) (H : Heap) (locs : List Loc) (ls : Array Slot) (cells slots : Nat), i + 6 ≤ L → bb ≤ 64 * i → roomL i cells slots → JV bb ln tx M → va_P D cls (wl ρ tA M) H → va_S A s.heap H locs → E ln tx H → lv_has ls 7 (lvL ρ b qo i) →
    (∀ (ln' : Nat) (tx' : Nat → Nat) (M' : Mm) (H1 : Heap) (locs1 : List Loc) (ls1 : Array Slot) (cells1 slots1 : Nat), JV (bb + 64) ln' tx' M' → va_P D cls (wl ρ tA M') H1 → va_S A s.heap H1 locs1 → E ln' tx' H1 → lv_has ls1 7 (lvL ρ b qo i) → cells1 ≤ cells + 60 → slots1 ≤ slots + 1200 → W p l e room_1 s m args below meth c H1 locs1 cells1 slots1 Qf (F0 m 1265 ls1 [])) →
    W p l e room_1 s m args below meth c H locs cells slots Qf (F0 m pc ls [])
set_option maxRecDepth 100000 in
theorem lc_23 : (dcL 23 (.iload 4, 2) && dcL 25 (.aload_n 0, 1) && dcL 26 (.arraylength, 1) && dcL 27 (.bipush 6, 2) && dcL 29 (.isub, 1) && dcL 30 (.if_icmp .gt 1241, 3) && dcL 33 (.aload_n 0, 1) && dcL 34 (.iload 4, 2) && dcL 36 (.iaload, 1) && dcL 37 (.bipush 63, 2) && dcL 39 (.iand, 1) && dcL 1265 (.iinc 4 6, 3) && dcL 1268 (.goto (-1245), 3)) = true := by decide +kernel
set_option maxHeartbeats 4000000 in
set_option maxRecDepth 100000 in
/-- the law's loop from its head, once the four cases stand that the small machine alone does not answer -/
theorem lw_loop {p : Program} {l : Launch} {e : Env} {s : State} {m : MethodId} {args : Array Value} {below : List Frame} {meth : Method} {c : Code} {D : va_G} {tA : Nat → ClassId} {ρ : Nat → Nat} {A : Nat → Prop} {Qf : State → Prop} {b L qo : Nat} {xs : Nat → Int32} (E : Nat → (Nat → Nat) → Heap → Prop)
    (C0 : Lw "IceMannersLaw" code 7 p s m args c D tA ρ A) (hX : va_X b L xs s s.heap) (hbl : b < s.heap.size) (hbA : ¬ A b) (hL : L ≤ 3072) (hEk : ∀ (ln : Nat) (tx : Nat → Nat) (H H1 : Heap), E ln tx H → Kp ρ H H1 → E ln tx H1)
    (h_person : SpL p l e s m args below meth c D tA ρ A Qf b L qo E 320) (h_mean : SpL p l e s m args below meth c D tA ρ A Qf b L qo E 910) (h_line : SpL p l e s m args below meth c D tA ρ A Qf b L qo E 966) (h_byteAt : SpL p l e s m args below meth c D tA ρ A Qf b L qo E 991)
    (hend : ∀ (H : Heap) (locs : List Loc) (ls : Array Slot) (cells slots : Nat), cells ≤ 601024 → slots ≤ 7293034 → va_S A s.heap H locs → W p l e room_1 s m args below meth c H locs cells slots Qf (F0 m 1271 ls [])) :
    ∀ (N i bb ln : Nat) (tx : Nat → Nat) (M : Mm) (H : Heap) (locs : List Loc) (ls : Array Slot) (cells slots : Nat), L - i < N → i ≤ 3078 → bb ≤ 64 * i → roomL i cells slots → JV bb ln tx M → va_P D cls (wl ρ tA M) H → va_S A s.heap H locs → E ln tx H → lv_has ls 7 (lvL ρ b qo i) → W p l e room_1 s m args below meth c H locs cells slots Qf (F0 m 23 ls []) := by
  have hx := C0.1
  have hb := C0.2.1
  have hd := lc_23
  simp only [Bool.and_eq_true] at hd
  obtain ⟨⟨⟨⟨⟨⟨⟨⟨⟨⟨⟨⟨d23, d25⟩, d26⟩, d27⟩, d29⟩, d30⟩, d33⟩, d34⟩, d36⟩, d37⟩, d39⟩, d1265⟩, d1268⟩ := hd
  intro N
  induction N with
  | zero => intro i bb ln tx M H locs ls cells slots h; omega
  | succ N ih =>
    intro i bb ln tx M H locs ls cells slots hN hi hbb hcs hJ hP hS hE hl
    refine lv_iload hx hb (dcL_eq d23) (lv_at hl 0 rfl) ?_
    refine lv_aload_n hx hb (dcL_eq d25) rfl (lv_at hl 1 rfl) ?_
    refine va_slen hx hb hX hbl hbA hS (dcL_eq d26) ?_
    refine lv_bipush (v := 6) hx hb (dcL_eq d27) (by decide) ?_
    refine lv_isub hx hb (dcL_eq d29) ?_
    refine lv_icmp_gt (tgt := 1271) hx hb (dcL_eq d30) (by decide) (fun _ => ?_) (fun h9 => ?_)
    · exact hend H locs ls cells slots (by have := hcs.1; omega) (by have := hcs.2; omega) hS
    have h6 : i + 6 ≤ L := lw_room hL hi h9
    have hb9 : bb < 1000000 := by omega
    have hcr : cells ≤ room_1.cells ∧ slots ≤ room_1.slots := ⟨by show cells ≤ 601024; have := hcs.1; omega, by show slots ≤ 7293034; have := hcs.2; omega⟩
    -- behind a case
    have go : ∀ (ln' : Nat) (tx' : Nat → Nat) (M' : Mm) (H1 : Heap) (locs1 : List Loc) (ls1 : Array Slot) (cells1 slots1 : Nat), JV (bb + 64) ln' tx' M' → va_P D cls (wl ρ tA M') H1 → va_S A s.heap H1 locs1 → E ln' tx' H1 → lv_has ls1 7 (lvL ρ b qo i) → cells1 ≤ cells + 60 → slots1 ≤ slots + 1200 → W p l e room_1 s m args below meth c H1 locs1 cells1 slots1 Qf (F0 m 1265 ls1 []) := by
      intro ln' tx' M' H1 locs1 ls1 cells1 slots1 hJ1 hP1 hS1 hE1 hl1 hc1 hs1
      refine lv_iinc (v := nI (i + 6)) (lv' := [(4, .int (nI (i + 6))), (0, .ref b), (1, .ref (ρ 0)), (2, .ref (ρ 114)), (3, .ref qo)]) hx hb (dcL_eq d1265) hl1 (k := 0) rfl (by rw [← nI_add]; rfl) (by decide) rfl (fun ls2 hl2 => ?_)
      refine lv_goto (tgt := 23) hx hb (dcL_eq d1268) (by decide) ?_
      have h1 := hcs.1
      have h2 := hcs.2
      exact ih (i + 6) (bb + 64) ln' tx' M' H1 locs1 ls2 cells1 slots1 (by omega) (by omega) (by omega) ⟨by omega, by omega⟩ hJ1 hP1 hS1 hE1 hl2
    have go1 : ∀ (M' : Mm) (H1 : Heap) (locs1 : List Loc), JV (bb + 64) ln tx M' → va_P D cls (wl ρ tA M') H1 → va_S A s.heap H1 locs1 → Kp ρ H H1 → W p l e room_1 s m args below meth c H1 locs1 cells slots Qf (F0 m 1265 ls []) := fun M' H1 locs1 hJ1 hP1 hS1 hk => go ln tx M' H1 locs1 ls cells slots hJ1 hP1 hS1 (hEk ln tx H H1 hE hk) hl (by omega) (by omega)
    have ord : ∀ (n pc : Nat) {ix1 ix2 n1 n2 ji jm : Nat}, caseB pc n ix1 ix2 n1 n2 ji jm = true → PR bb ln tx ji jm (argV xs i 1 n) M → W p l e room_1 s m args below meth c H locs cells slots Qf (F0 m pc ls []) := fun n pc {ix1 ix2 n1 n2 ji jm} hB hM => lw_case C0 hB hX hbl hbA h6 hL hcr (lv_at hl 1 rfl) (lv_at hl 2 rfl) (lv_at hl 3 rfl) (lv_at hl 0 rfl) hl.1 hP hS hM go1
    refine lv_aload_n hx hb (dcL_eq d33) rfl (lv_at hl 1 rfl) ?_
    refine lv_iload hx hb (dcL_eq d34) (lv_at hl 0 rfl) ?_
    refine va_sld hx hb hX hbl hbA hS (vp_in_nI (by omega) (by omega)) (dcL_eq d36) ?_
    refine lv_bipush (v := 63) hx hb (dcL_eq d37) (by decide) ?_
    refine lv_iand hx hb (dcL_eq d39) ?_
    obtain ⟨t, ht, et⟩ := and63 (xs (nI i).toNatClampNeg)
    by_cases h35 : 35 ≤ t
    · rw [et]
      exact lv_tableOut (tgt := 1265) hx hb lc_40 (Or.inr (by rw [nI_toInt (by omega)]; omega)) (by decide) (go ln tx M H locs ls cells slots (by obtain ⟨σ, n, H9, ν, T, Lt, fk, ak, nw, uw, hj, td, sn, A9, S, U, i0, i1, a1, a2, a3⟩ := hJ; exact ⟨σ, n, H9, ν, T, Lt, fk, ak, nw, uw, hj, td, sn, A9, S, U, i0, i1, a1, a2, PUr_up a3 (by omega)⟩) hP hS hE hl (by omega) (by omega))
    have h35 : t < 35 := by omega
    match t, h35, et with
    | 0, _, e => rw [e]; exact lv_tableIn (x := nI 0) (off := 156) (tgt := 196) hx hb lc_40 (by decide) (by decide) rfl rfl (ord _ 196 lc_feed (r_feed hJ (xs (i + 1)) (xs (i + 2)) (xs (i + 3)) (xs (i + 4)) (xs (i + 5))))
    | 1, _, e => rw [e]; exact lv_tableIn (x := nI 1) (off := 229) (tgt := 269) hx hb lc_40 (by decide) (by decide) rfl rfl (ord _ 269 lc_end (r_end hJ (xs (i + 1))))
    | 2, _, e => rw [e]; exact lv_tableIn (x := nI 2) (off := 254) (tgt := 294) hx hb lc_40 (by decide) (by decide) rfl rfl (ord _ 294 lc_lake (r_lake hJ ))
    | 3, _, e => rw [e]; exact lv_tableIn (x := nI 3) (off := 267) (tgt := 307) hx hb lc_40 (by decide) (by decide) rfl rfl (ord _ 307 lc_fault (r_fault hJ ))
    | 4, _, e => rw [e]; exact lv_tableIn (x := nI 4) (off := 280) (tgt := 320) hx hb lc_40 (by decide) (by decide) rfl rfl (h_person i bb ln tx M H locs ls cells slots h6 hbb hcs hJ hP hS hE hl go)
    | 5, _, e => rw [e]; exact lv_tableIn (x := nI 5) (off := 348) (tgt := 388) hx hb lc_40 (by decide) (by decide) rfl rfl (ord _ 388 lc_cell (r_cell hJ (xs (i + 1)) (xs (i + 2)) (xs (i + 3))))
    | 6, _, e => rw [e]; exact lv_tableIn (x := nI 6) (off := 397) (tgt := 437) hx hb lc_40 (by decide) (by decide) rfl rfl (ord _ 437 lc_now (r_now hJ (xs (i + 1))))
    | 7, _, e => rw [e]; exact lv_tableIn (x := nI 7) (off := 422) (tgt := 462) hx hb lc_40 (by decide) (by decide) rfl rfl (ord _ 462 lc_go (r_go hJ (xs (i + 1)) (xs (i + 2))))
    | 8, _, e => rw [e]; exact lv_tableIn (x := nI 8) (off := 459) (tgt := 499) hx hb lc_40 (by decide) (by decide) rfl rfl (ord _ 499 lc_bow (r_bow hJ (xs (i + 1))))
    | 9, _, e => rw [e]; exact lv_tableIn (x := nI 9) (off := 484) (tgt := 524) hx hb lc_40 (by decide) (by decide) rfl rfl (ord _ 524 lc_praise (r_praise hb9 hJ (xs (i + 1)) (xs (i + 2))))
    | 10, _, e => rw [e]; exact lv_tableIn (x := nI 10) (off := 521) (tgt := 561) hx hb lc_40 (by decide) (by decide) rfl rfl (ord _ 561 lc_swear (r_swear hJ (xs (i + 1))))
    | 11, _, e => rw [e]; exact lv_tableIn (x := nI 11) (off := 546) (tgt := 586) hx hb lc_40 (by decide) (by decide) rfl rfl (ord _ 586 lc_hours (r_hours hJ (xs (i + 1))))
    | 12, _, e => rw [e]; exact lv_tableIn (x := nI 12) (off := 571) (tgt := 611) hx hb lc_40 (by decide) (by decide) rfl rfl (ord _ 611 lc_undo (r_undo hJ ))
    | 13, _, e => rw [e]; exact lv_tableIn (x := nI 13) (off := 584) (tgt := 624) hx hb lc_40 (by decide) (by decide) rfl rfl (ord _ 624 lc_way (r_way hJ (xs (i + 1)) (xs (i + 2)) (xs (i + 3))))
    | 14, _, e => rw [e]; exact lv_tableIn (x := nI 14) (off := 633) (tgt := 673) hx hb lc_40 (by decide) (by decide) rfl rfl (ord _ 673 lc_wayAt (r_wayAt hJ (xs (i + 1))))
    | 15, _, e => rw [e]; exact lv_tableIn (x := nI 15) (off := 658) (tgt := 698) hx hb lc_40 (by decide) (by decide) rfl rfl (ord _ 698 lc_bows (r_bows hJ (xs (i + 1)) (xs (i + 2)) (xs (i + 3))))
    | 16, _, e => rw [e]; exact lv_tableIn (x := nI 16) (off := 707) (tgt := 747) hx hb lc_40 (by decide) (by decide) rfl rfl (ord _ 747 lc_firm (r_firm hJ (xs (i + 1)) (xs (i + 2)) (xs (i + 3))))
    | 17, _, e => rw [e]; exact lv_tableIn (x := nI 17) (off := 756) (tgt := 796) hx hb lc_40 (by decide) (by decide) rfl rfl (ord _ 796 lc_swears (r_swears hJ (xs (i + 1))))
    | 18, _, e => rw [e]; exact lv_tableIn (x := nI 18) (off := 781) (tgt := 821) hx hb lc_40 (by decide) (by decide) rfl rfl (ord _ 821 lc_falls (r_falls hJ (xs (i + 1))))
    | 19, _, e => rw [e]; exact lv_tableIn (x := nI 19) (off := 806) (tgt := 846) hx hb lc_40 (by decide) (by decide) rfl rfl (ord _ 846 lc_fair (r_fair hJ ))
    | 20, _, e => rw [e]; exact lv_tableIn (x := nI 20) (off := 819) (tgt := 859) hx hb lc_40 (by decide) (by decide) rfl rfl (ord _ 859 lc_swore (r_swore hJ ))
    | 21, _, e => rw [e]; exact lv_tableIn (x := nI 21) (off := 832) (tgt := 872) hx hb lc_40 (by decide) (by decide) rfl rfl (ord _ 872 lc_ask (r_ask hJ ))
    | 22, _, e => rw [e]; exact lv_tableIn (x := nI 22) (off := 845) (tgt := 885) hx hb lc_40 (by decide) (by decide) rfl rfl (ord _ 885 lc_stands (r_stands hJ (xs (i + 1))))
    | 23, _, e => rw [e]; exact lv_tableIn (x := nI 23) (off := 870) (tgt := 910) hx hb lc_40 (by decide) (by decide) rfl rfl (h_mean i bb ln tx M H locs ls cells slots h6 hbb hcs hJ hP hS hE hl go)
    | 24, _, e => rw [e]; exact lv_tableIn (x := nI 24) (off := 926) (tgt := 966) hx hb lc_40 (by decide) (by decide) rfl rfl (h_line i bb ln tx M H locs ls cells slots h6 hbb hcs hJ hP hS hE hl go)
    | 25, _, e => rw [e]; exact lv_tableIn (x := nI 25) (off := 951) (tgt := 991) hx hb lc_40 (by decide) (by decide) rfl rfl (h_byteAt i bb ln tx M H locs ls cells slots h6 hbb hcs hJ hP hS hE hl go)
    | 26, _, e => rw [e]; exact lv_tableIn (x := nI 26) (off := 976) (tgt := 1016) hx hb lc_40 (by decide) (by decide) rfl rfl (ord _ 1016 lc_drawn (r_drawn hb9 hJ (xs (i + 1)) (xs (i + 2))))
    | 27, _, e => rw [e]; exact lv_tableIn (x := nI 27) (off := 1013) (tgt := 1053) hx hb lc_40 (by decide) (by decide) rfl rfl (ord _ 1053 lc_odds (r_odds hb9 hJ (xs (i + 1)) (xs (i + 2)) (xs (i + 3))))
    | 28, _, e => rw [e]; exact lv_tableIn (x := nI 28) (off := 1062) (tgt := 1102) hx hb lc_40 (by decide) (by decide) rfl rfl (ord _ 1102 lc_book (r_book hb9 hJ (xs (i + 1))))
    | 29, _, e => rw [e]; exact lv_tableIn (x := nI 29) (off := 1087) (tgt := 1127) hx hb lc_40 (by decide) (by decide) rfl rfl (ord _ 1127 lc_told (r_told hJ (xs (i + 1))))
    | 30, _, e => rw [e]; exact lv_tableIn (x := nI 30) (off := 1112) (tgt := 1152) hx hb lc_40 (by decide) (by decide) rfl rfl (ord _ 1152 lc_sentence (r_sentence hJ ))
    | 31, _, e => rw [e]; exact lv_tableIn (x := nI 31) (off := 1125) (tgt := 1165) hx hb lc_40 (by decide) (by decide) rfl rfl (ord _ 1165 lc_said (r_said hJ (xs (i + 1))))
    | 32, _, e => rw [e]; exact lv_tableIn (x := nI 32) (off := 1150) (tgt := 1190) hx hb lc_40 (by decide) (by decide) rfl rfl (ord _ 1190 lc_image (r_image hJ (xs (i + 1))))
    | 33, _, e => rw [e]; exact lv_tableIn (x := nI 33) (off := 1175) (tgt := 1215) hx hb lc_40 (by decide) (by decide) rfl rfl (ord _ 1215 lc_restore (r_restore hJ (xs (i + 1))))
    | 34, _, e => rw [e]; exact lv_tableIn (x := nI 34) (off := 1200) (tgt := 1240) hx hb lc_40 (by decide) (by decide) rfl rfl (ord _ 1240 lc_count (r_count hJ (xs (i + 1))))
    | n + 35, h, _ => omega
