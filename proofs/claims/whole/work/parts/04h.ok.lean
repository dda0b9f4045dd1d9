/-! What a row of code must be in the class file: its instruction, its links. -/
def lkB (n : Nat) (w : Cond) : Bool := decide (lw_tbl[n]? = some w) && goodWord w
theorem lkB_in {n : Nat} {w : Cond} (h : lkB n w = true) : w ∈ Tg := by
  simp only [lkB, Bool.and_eq_true, decide_eq_true_eq] at h
  exact Tg_of (List.mem_of_getElem? h.1) h.2
def f4 (x : Nat) : Fin 4 := ⟨x % 4, Nat.mod_lt _ (by decide)⟩
theorem f4_eq {x : Nat} (h : x < 4) : (f4 x : Nat) = x := Nat.mod_eq_of_lt h
def dcB (j pc : Nat) (q : Instr × Nat) : Bool := decide (decode (mC j) pc = .ok q)
theorem dcB_eq {j pc : Nat} {q : Instr × Nat} (h : dcB j pc q = true) : decode (mC j) pc = .ok q := of_decide_eq_true h
def kdB (t : Int) (q : Nat × Nat) (o : Int) : Bool := match t with
  | 0 => decide (q.1 = 0 ∨ q.1 = 6)
  | 1 => decide (q.1 = 1)
  | 2 => decide (q.1 = 2)
  | 3 => decide (q = (3, o.toNat))
  | 4 => decide (q.1 = 4)
  | 5 => decide (q = (5, o.toNat))
  | 6 => decide (q.1 = 6)
  | _ => false
theorem kdB_ok {t : Int} {q : Nat × Nat} {o : Int} (h : kdB t q o = true) : kdOk t q o := by
  unfold kdB at h
  unfold kdOk
  split at h <;> first | (have h9 := of_decide_eq_true h; exact h9) | (exact absurd h (by decide))
def tyOf (ci : Nat) : Nat → FieldType := match ci with
  | 0 => cY0 | 1 => cY1 | 2 => cY2 | 3 => cY3 | 4 => cY4 | 5 => cY5 | 6 => cY6 | 7 => cY7 | 8 => cY8 | 9 => cY9 | _ => cY10
/-- a link to a field: a good word, or one of the nest's -/
def flB (n : Nat) (own : String) (ix : Nat) (q : String × String × String × Bool) : Bool := lkB n (.fieldLink own ix q.1 q.2.1 q.2.2.1) || decide (lw_tbl[n]? = some (.fieldLinkNest own ix q.1 q.2.1 q.2.2.1 "IceManners"))
def gtB (n : Nat) (own : String) (ix : Nat) (e : List Int) : Bool := match e with
  | [t, ci, k, o] => match cls[ci.toNat]?, (fkl ci.toNat)[k.toNat]? with
    | some C, some q => decide (k.toNat < C.2.2) && kdB t q o && flB n own ix (C.2.1 k.toNat)
    | _, _ => false
  | _ => false
def ptB (n : Nat) (own : String) (ix : Nat) (e : List Int) : Bool := match e with
  | [t, ci, k, o] => match cls[ci.toNat]?, (fkl ci.toNat)[k.toNat]? with
    | some C, some q => decide (k.toNat < C.2.2) && kdB t q o && lkB n (.fieldLink own ix (C.2.1 k.toNat).1 (C.2.1 k.toNat).2.1 (C.2.1 k.toNat).2.2.1) && !(C.2.1 k.toNat).2.2.2 && decide ((t = 0 → tyOf ci.toNat k.toNat = .int) ∧ (t = 6 → tyOf ci.toNat k.toNat = .boolean) ∧ (t = 1 → tyOf ci.toNat k.toNat = .long) ∧ (t = 2 → tyOf ci.toNat k.toNat = .object "IceManners$Kind"))
    | _, _ => false
  | _ => false
def tsB (j pc : Nat) (e : List Int) : Bool := match e, decode (mC j) pc with
  | lo :: hi :: d :: ts, .ok (.tableswitch dflt lo' hi' offs, _) => decide (lo' = lo) && decide (hi' = hi) && decide ((pc : Int) + dflt = d) && decide (0 ≤ d) && decide (ts = offs.toList.map (fun o => (pc : Int) + o)) && decide ((hi - lo + 1 : Int) = offs.size) && ts.all (fun t => decide (0 ≤ t))
  | _, _ => false
def lsB (j pc : Nat) (d : Int) (e : List Int) : Bool := match decode (mC j) pc with
  | .ok (.lookupswitch dflt ps, _) => decide ((pc : Int) + dflt = d) && decide (0 ≤ d) && decide (e = (ps.toList.map (fun q => [q.1, (pc : Int) + q.2])).flatten) && ((ps.toList.zip (ps.toList.drop 1)).all (fun (a, next) => a.1 < next.1)) && ps.toList.all (fun q => decide (0 ≤ (pc : Int) + q.2) && decide (-1000 < q.1 ∧ q.1 < 1000))
  | _ => false
def okB (j pc : Nat) (r : Rw) (n : Nat) : Bool := match r with
  | (op, i, x, e) => match op with
    | 0 => dcB j pc (.iconst i, 1)
    | 1 => dcB j pc (.bipush i, 2) && decide ((Int8.ofInt i).toInt32 = Int32.ofInt i)
    | 2 => dcB j pc (.sipush i, 3) && decide ((Int16.ofInt i).toInt32 = Int32.ofInt i)
    | 3 => (decide (i = 0) && dcB j pc (.lconst 0, 1)) || (decide (i = 1) && dcB j pc (.lconst 1, 1))
    | 4 => match e with
      | [ix] => dcB j pc (.ldc ix.toNat, 2) && lkB n (.constant (mY j).cls ix.toNat (Int32.ofInt i))
      | _ => false
    | 5 => match e with
      | [ix] => dcB j pc (.ldc_w ix.toNat, 3) && lkB n (.constant (mY j).cls ix.toNat (Int32.ofInt i))
      | _ => false
    | 6 => match e with
      | [ix] => dcB j pc (.ldc2_w ix.toNat, 3) && lkB n (.constantLong (mY j).cls ix.toNat (Int64.ofInt i))
      | _ => false
    | 7 => decide (x < 4) && dcB j pc (.iload_n (f4 x), 1)
    | 8 => dcB j pc (.iload x, 2)
    | 9 => decide (x < 4) && dcB j pc (.lload_n (f4 x), 1)
    | 10 => dcB j pc (.lload x, 2)
    | 11 => decide (x < 4) && dcB j pc (.aload_n (f4 x), 1)
    | 12 => dcB j pc (.aload x, 2)
    | 13 => decide (x < 4) && decide (x < mL j) && dcB j pc (.istore_n (f4 x), 1)
    | 14 => decide (x < mL j) && dcB j pc (.istore x, 2)
    | 15 => decide (x < 4) && decide (x + 1 < mL j) && dcB j pc (.lstore_n (f4 x), 1)
    | 17 => decide (x < 4) && decide (x < mL j) && dcB j pc (.astore_n (f4 x), 1)
    | 18 => decide (x < mL j) && dcB j pc (.astore x, 2)
    | 19 => decide (x < mL j) && dcB j pc (.iinc x i, 3)
    | 20 => dcB j pc (.iadd, 1)
    | 21 => dcB j pc (.isub, 1)
    | 22 => dcB j pc (.imul, 1)
    | 23 => dcB j pc (.iand, 1)
    | 24 => dcB j pc (.ior, 1)
    | 25 => dcB j pc (.ixor, 1)
    | 26 => dcB j pc (.ishl, 1)
    | 27 => dcB j pc (.ishr, 1)
    | 28 => dcB j pc (.iushr, 1)
    | 29 => dcB j pc (.idiv, 1)
    | 30 => dcB j pc (.irem, 1)
    | 31 => dcB j pc (.ineg, 1)
    | 32 => dcB j pc (.lor, 1)
    | 33 => dcB j pc (.land, 1)
    | 34 => dcB j pc (.lshl, 1)
    | 35 => dcB j pc (.lshr, 1)
    | 36 => dcB j pc (.lushr, 1)
    | 37 => dcB j pc (.lcmp, 1)
    | 38 => dcB j pc (.i2l, 1)
    | 39 => dcB j pc (.l2i, 1)
    | 40 => dcB j pc (.i2b, 1)
    | 41 => dcB j pc (.i2c, 1)
    | 42 => dcB j pc (.dup, 1)
    | 43 => dcB j pc (.pop, 1)
    | 44 => dcB j pc (.dup2, 1)
    | 45 => dcB j pc (.ifCond .eq ((x : Int) - pc), 3)
    | 46 => dcB j pc (.ifCond .ne ((x : Int) - pc), 3)
    | 47 => dcB j pc (.ifCond .lt ((x : Int) - pc), 3)
    | 48 => dcB j pc (.ifCond .ge ((x : Int) - pc), 3)
    | 49 => dcB j pc (.ifCond .gt ((x : Int) - pc), 3)
    | 50 => dcB j pc (.ifCond .le ((x : Int) - pc), 3)
    | 51 => dcB j pc (.if_icmp .eq ((x : Int) - pc), 3)
    | 52 => dcB j pc (.if_icmp .ne ((x : Int) - pc), 3)
    | 53 => dcB j pc (.if_icmp .lt ((x : Int) - pc), 3)
    | 54 => dcB j pc (.if_icmp .ge ((x : Int) - pc), 3)
    | 55 => dcB j pc (.if_icmp .gt ((x : Int) - pc), 3)
    | 56 => dcB j pc (.if_icmp .le ((x : Int) - pc), 3)
    | 57 => dcB j pc (.if_acmp .eq ((x : Int) - pc), 3)
    | 58 => dcB j pc (.if_acmp .ne ((x : Int) - pc), 3)
    | 59 => dcB j pc (.goto ((x : Int) - pc), 3)
    | 60 => tsB j pc e
    | 61 => lsB j pc i e
    | 62 => dcB j pc (.getfield x, 3) && gtB n (mY j).cls x e
    | 63 => dcB j pc (.putfield x, 3) && ptB n (mY j).cls x e
    | 64 => dcB j pc (.getstatic x, 3) && decide ((100000 ≤ i.toNat ∧ i.toNat < 100036) ∨ i.toNat = 200000 ∨ i.toNat = 200001 ∨ i.toNat = 200002 ∨ i.toNat = 200003) && (lkB n (.fieldLink (mY j).cls x (stN i.toNat).1 (stN i.toNat).2.1 (stN i.toNat).2.2) || decide (lw_tbl[n]? = some (.fieldLinkNest (mY j).cls x (stN i.toNat).1 (stN i.toNat).2.1 (stN i.toNat).2.2 "IceManners")))
    | 65 => (decide (x = 0) && dcB j pc (.iaload, 1)) || (decide (x = 1 ∨ x = 2) && dcB j pc (.baload, 1)) || (decide (x = 3) && dcB j pc (.laload, 1)) || (decide (x = 4 ∨ x = 5 ∨ x = 6) && dcB j pc (.aaload, 1))
    | 66 => (decide (x = 0) && dcB j pc (.iastore, 1)) || (decide (x = 1 ∨ x = 2) && dcB j pc (.bastore, 1)) || (decide (x = 3) && dcB j pc (.lastore, 1)) || (decide (x = 4) && dcB j pc (.aastore, 1))
    | 67 => dcB j pc (.arraylength, 1)
    | 68 => dcB j pc (.invokevirtual x, 3) && lkB n (.methodLink (mY j).cls x ⟨"IceManners$Kind", "ordinal", "()I"⟩)
    | 69 => dcB j pc (.getfield x, 3) && lkB n (.fieldLink (mY j).cls x "IceManners$Kind" "code" "J")
    | 70 => dcB j pc (.aaload, 1)
    | 71 => dcB j pc (.iaload, 1) && decide ((x = 200000 ∧ e = [1, 0, -1, 0]) ∨ (x = 200001 ∧ e = [0, 1, 0, -1]) ∨ (x = 200003 ∧ e = kSw))
    | 72 => dcB j pc (.arraylength, 1)
    | 73 => dcB j pc (.invokestatic x, 3) && lkB n (.methodLink (mY j).cls x Lib.Math.max.name)
    | 74 => dcB j pc (.invokestatic x, 3) && lkB n (.methodLink (mY j).cls x Lib.Math.min.name)
    | 76 => match e with
      | [ix] => dcB j pc (.invokestatic ix.toNat, 3) && lkB n (.methodLink (mY j).cls ix.toNat arraycopyName)
      | _ => false
    | 90 => match e with
      | [ix, ci] => dcB j pc (.invokevirtual ix.toNat, 3) && lkB n (.methodLink (mY j).cls ix.toNat (mY x)) && decide ((parseMethodDescriptor (mY x).desc).map (fun d => d.parameters.length + 1) = some i.toNat) && (match ci with
        | .ofNat k => decide ((cls[k]?).map (fun q => q.1) = some (mY x).cls)
        | _ => decide ((mY x).cls = "IceManners$Kind"))
      | _ => false
    | 91 => match e with
      | [ix] => dcB j pc (.invokestatic ix.toNat, 3) && lkB n (.methodLink (mY j).cls ix.toNat (mY x)) && decide ((parseMethodDescriptor (mY x).desc).map (fun d => d.parameters.length) = some i.toNat)
      | _ => false
    | 92 => dcB j pc (.ireturn, 1) && decide (mR9 j = some .int)
    | 93 => dcB j pc (.ireturn, 1) && decide (mR9 j = some .boolean)
    | 94 => dcB j pc (.lreturn, 1) && decide (mR9 j = some .long)
    | 95 => dcB j pc (.areturn, 1) && decide (mR9 j = some (.object "IceManners$Kind"))
    | 96 => dcB j pc (.return_, 1) && decide (mR9 j = none)
    | _ => false
