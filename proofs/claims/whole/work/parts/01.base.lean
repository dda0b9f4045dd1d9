/-! A small machine whose cells have places (numbers), and the least judgement closed under its rules. -/
abbrev Lv : Type := List (Nat × Value)
/-- the memory: ints, longs, references (places), by place and slot -/
abbrev Mm : Type := (Nat → Nat → Int32) × (Nat → Nat → Int64) × (Nat → Nat → Nat)
/-- a row of code: what it does, a number, a local or a method, more -/
abbrev Rw : Type := Nat × Int × Nat × List Int
abbrev Cf : Type := Nat × Lv × List Value × Mm
/-- what lies at a place: (0, class) or (1 + type, length) -/
abbrev Sh : Type := Nat → Nat × Nat
abbrev Po : Type := Option Value → Mm → Prop
def mI (M : Mm) (p : Nat) (f : Nat → Int32) : Mm := (va_up M.1 p f, M.2.1, M.2.2)
def mJ (M : Mm) (p : Nat) (f : Nat → Int64) : Mm := (M.1, va_up M.2.1 p f, M.2.2)
def mR (M : Mm) (p : Nat) (f : Nat → Nat) : Mm := (M.1, M.2.1, va_up M.2.2 p f)
def lvs (lv : Lv) (i : Nat) (v : Value) : Lv := (i, v) :: lv.filter (fun q => !(q.1 == i) && !(q.1 + 1 == i && q.2.category == 2))
def lvs2 (lv : Lv) (i : Nat) (v : Value) : Lv := (i, v) :: lv.filter (fun q => !(q.1 == i) && (!(q.1 == i + 1) && !(q.1 + 1 == i && q.2.category == 2)))
def lvg : Lv → Nat → Option Value
  | [], _ => none
  | (j, v) :: t, i => bif j == i then some v else lvg t i
/-- an index of the row of a kind at a place -/
def aok (sh : Sh) (p t : Nat) (i : Int32) : Prop := (sh p).1 = t + 1 ∧ vp_in i (sh p).2
def is01 (v : Int32) : Prop := v = 0 ∨ v = 1
/-- the places of constants: an enum's, three rows -/
def isK (q : Nat) : Prop := 100000 ≤ q ∧ q < 100036
def kcodes : List Int := [-1, -1, -1, -1, 59, 60, 61, 62, 40, 41, 0x6c616b65, 0x696365, 0x706572736f6e, 0x72756465, 0x63726f7373, 0x686f6c6c6f77, 0x66726f7374, 0x65617374, 0x736f757468, 0x77657374, 0x6e6f727468, 0x626f7773, 0x70726169736573, 0x737765617273, 0x686f7572, 0x6f72, 0x616e64, 0x6e6f74, 0x66616c6c656e, 0x626f776564, 0x6279, 0x6f766572, 0x74656d706572, 0x6c6f6164, 0x70726169736564, 0x6e756d626572]
/-- how many words a stack has -/
def ct (st : List Value) : Nat := (st.map (fun v => v.category)).sum
def o_push (n : Nat) (v : Value) (c : Cf) : Option (Cf × List Prop) := some ((c.1 + n, c.2.1, v :: c.2.2.1, c.2.2.2), [])
def o_iload (n x : Nat) (c : Cf) : Option (Cf × List Prop) := match lvg c.2.1 x with
  | some (.int v) => some ((c.1 + n, c.2.1, .int v :: c.2.2.1, c.2.2.2), [])
  | _ => none
def o_lload (n x : Nat) (c : Cf) : Option (Cf × List Prop) := match lvg c.2.1 x with
  | some (.long v) => some ((c.1 + n, c.2.1, .long v :: c.2.2.1, c.2.2.2), [])
  | _ => none
def o_aload (n x : Nat) (c : Cf) : Option (Cf × List Prop) := match lvg c.2.1 x with
  | some (.ref v) => some ((c.1 + n, c.2.1, .ref v :: c.2.2.1, c.2.2.2), [])
  | _ => none
def o_istore (n x : Nat) (c : Cf) : Option (Cf × List Prop) := match c with
  | (pc, lv, .int v :: st, M) => some ((pc + n, lvs lv x (.int v), st, M), [])
  | _ => none
def o_astore (n x : Nat) (c : Cf) : Option (Cf × List Prop) := match c with
  | (pc, lv, .ref v :: st, M) => some ((pc + n, lvs lv x (.ref v), st, M), [])
  | _ => none
def o_lstore (n x : Nat) (c : Cf) : Option (Cf × List Prop) := match c with
  | (pc, lv, .long v :: st, M) => some ((pc + n, lvs2 lv x (.long v), st, M), [])
  | _ => none
def o_iinc (x : Nat) (i : Int) (c : Cf) : Option (Cf × List Prop) := match lvg c.2.1 x with
  | some (.int v) => some ((c.1 + 3, lvs c.2.1 x (.int (v + Int32.ofInt i)), c.2.2.1, c.2.2.2), [])
  | _ => none
def o_bin (f : Int32 → Int32 → Int32) (c : Cf) : Option (Cf × List Prop) := match c with
  | (pc, lv, .int y :: .int x :: st, M) => some ((pc + 1, lv, .int (f x y) :: st, M), [])
  | _ => none
def o_div (f : Int32 → Int32 → Int32) (c : Cf) : Option (Cf × List Prop) := match c with
  | (pc, lv, .int y :: .int x :: st, M) => some ((pc + 1, lv, .int (f x y) :: st, M), [¬ y = 0])
  | _ => none
def o_un (f : Int32 → Int32) (c : Cf) : Option (Cf × List Prop) := match c with
  | (pc, lv, .int x :: st, M) => some ((pc + 1, lv, .int (f x) :: st, M), [])
  | _ => none
def o_lbin (f : Int64 → Int64 → Int64) (c : Cf) : Option (Cf × List Prop) := match c with
  | (pc, lv, .long y :: .long x :: st, M) => some ((pc + 1, lv, .long (f x y) :: st, M), [])
  | _ => none
def o_lsh (f : Int64 → Int32 → Int64) (c : Cf) : Option (Cf × List Prop) := match c with
  | (pc, lv, .int y :: .long x :: st, M) => some ((pc + 1, lv, .long (f x y) :: st, M), [])
  | _ => none
def o_lcmp (c : Cf) : Option (Cf × List Prop) := match c with
  | (pc, lv, .long y :: .long x :: st, M) => some ((pc + 1, lv, .int (lg_cmp x y) :: st, M), [])
  | _ => none
def o_i2l (c : Cf) : Option (Cf × List Prop) := match c with
  | (pc, lv, .int x :: st, M) => some ((pc + 1, lv, .long x.toInt64 :: st, M), [])
  | _ => none
def o_l2i (c : Cf) : Option (Cf × List Prop) := match c with
  | (pc, lv, .long x :: st, M) => some ((pc + 1, lv, .int x.toInt32 :: st, M), [])
  | _ => none
def o_dup (c : Cf) : Option (Cf × List Prop) := match c with
  | (pc, lv, .int x :: st, M) => some ((pc + 1, lv, .int x :: .int x :: st, M), [])
  | (pc, lv, .ref x :: st, M) => some ((pc + 1, lv, .ref x :: .ref x :: st, M), [])
  | _ => none
def o_pop (c : Cf) : Option (Cf × List Prop) := match c with
  | (pc, lv, .int _ :: st, M) => some ((pc + 1, lv, st, M), [])
  | (pc, lv, .ref _ :: st, M) => some ((pc + 1, lv, st, M), [])
  | _ => none
def o_dup2 (c : Cf) : Option (Cf × List Prop) := match c with
  | (pc, lv, .int y :: .ref x :: st, M) => some ((pc + 1, lv, .int y :: .ref x :: .int y :: .ref x :: st, M), [])
  | _ => none
def o_if (f : Int32 → Prop) (inst : ∀ x, Decidable (f x)) (t : Nat) (c : Cf) : Option (Cf × List Prop) := match c with
  | (pc, lv, .int x :: st, M) => some ((if f x then t else pc + 3, lv, st, M), [])
  | _ => none
def o_ic (f : Int32 → Int32 → Prop) (inst : ∀ x y, Decidable (f x y)) (t : Nat) (c : Cf) : Option (Cf × List Prop) := match c with
  | (pc, lv, .int y :: .int x :: st, M) => some ((if f x y then t else pc + 3, lv, st, M), [])
  | _ => none
def o_ac (b : Bool) (t : Nat) (c : Cf) : Option (Cf × List Prop) := match c with
  | (pc, lv, .ref y :: .ref x :: st, M) => some ((if (x = y) = (b = true) then t else pc + 3, lv, st, M), [isK x, isK y])
  | _ => none
def o_goto (t : Nat) (c : Cf) : Option (Cf × List Prop) := some ((t, c.2.1, c.2.2.1, c.2.2.2), [])
def tsw (e : List Int) (x : Int32) : Nat := match e with
  | lo :: hi :: d :: ts => if x.toInt < lo ∨ hi < x.toInt then d.toNat else (ts.getD (x.toInt - lo).toNat d).toNat
  | _ => 0
def lsw (d : Int) : List Int → Int32 → Nat
  | k :: t :: r, x => if x = Int32.ofInt k then t.toNat else lsw d r x
  | _, _ => d.toNat
def o_tsw (e : List Int) (c : Cf) : Option (Cf × List Prop) := match c with
  | (_, lv, .int x :: st, M) => some ((tsw e x, lv, st, M), [])
  | _ => none
def o_lsw (d : Int) (e : List Int) (c : Cf) : Option (Cf × List Prop) := match c with
  | (_, lv, .int x :: st, M) => some ((lsw d e x, lv, st, M), [])
  | _ => none
/-- the lake of a state's place: in a scene three places ahead, else the first scene's -/
def lkp (p : Nat) : Nat := if p = 6 ∨ p = 19 ∨ p = 92 ∨ p = 105 then p - 3 else 3
def o_get (sh : Sh) (e : List Int) (c : Cf) : Option (Cf × List Prop) := match e, c with
  | [t, ci, k, o], (pc, lv, .ref p :: st, M) => match t with
    | 0 => some ((pc + 3, lv, .int (M.1 p k.toNat) :: st, M), [sh p = (0, ci.toNat)])
    | 1 => some ((pc + 3, lv, .long (M.2.1 p k.toNat) :: st, M), [sh p = (0, ci.toNat)])
    | 2 => some ((pc + 3, lv, .ref (M.2.2 p k.toNat) :: st, M), [sh p = (0, ci.toNat)])
    | 3 => some ((pc + 3, lv, .ref (p + o.toNat) :: st, M), [sh p = (0, ci.toNat)])
    | 4 => some ((pc + 3, lv, .ref (lkp p) :: st, M), [sh p = (0, ci.toNat)])
    | 5 => some ((pc + 3, lv, .ref o.toNat :: st, M), [sh p = (0, ci.toNat)])
    | _ => none
  | _, _ => none
def o_put (sh : Sh) (e : List Int) (c : Cf) : Option (Cf × List Prop) := match e, c with
  | [0, ci, k, _], (pc, lv, .int v :: .ref p :: st, M) => some ((pc + 3, lv, st, mI M p (upd (M.1 p) k.toNat v)), [sh p = (0, ci.toNat)])
  | [6, ci, k, _], (pc, lv, .int v :: .ref p :: st, M) => some ((pc + 3, lv, st, mI M p (upd (M.1 p) k.toNat v)), [sh p = (0, ci.toNat), is01 v])
  | [1, ci, k, _], (pc, lv, .long v :: .ref p :: st, M) => some ((pc + 3, lv, st, mJ M p (vp_updL (M.2.1 p) k.toNat v)), [sh p = (0, ci.toNat)])
  | [2, ci, k, _], (pc, lv, .ref v :: .ref p :: st, M) => some ((pc + 3, lv, st, mR M p (va_up (M.2.2 p) k.toNat v)), [sh p = (0, ci.toNat), isK v])
  | _, _ => none
def o_ald (sh : Sh) (t : Nat) (c : Cf) : Option (Cf × List Prop) := match c with
  | (pc, lv, .int i :: .ref p :: st, M) => match t with
    | 3 => some ((pc + 1, lv, .long (M.2.1 p i.toNatClampNeg) :: st, M), [aok sh p 3 i])
    | 4 => some ((pc + 1, lv, .ref (M.2.2 p i.toNatClampNeg) :: st, M), [aok sh p 4 i])
    | 5 => some ((pc + 1, lv, .ref (M.2.2 p i.toNatClampNeg) :: st, M), [aok sh p 5 i])
    | 6 => some ((pc + 1, lv, .ref (M.2.2 p i.toNatClampNeg) :: st, M), [aok sh p 6 i])
    | t => some ((pc + 1, lv, .int (M.1 p i.toNatClampNeg) :: st, M), [aok sh p t i])
  | _ => none
def o_ast (sh : Sh) (t : Nat) (c : Cf) : Option (Cf × List Prop) := match t, c with
  | 0, (pc, lv, .int v :: .int i :: .ref p :: st, M) => some ((pc + 1, lv, st, mI M p (upd (M.1 p) i.toNatClampNeg v)), [aok sh p 0 i])
  | 1, (pc, lv, .int v :: .int i :: .ref p :: st, M) => some ((pc + 1, lv, st, mI M p (upd (M.1 p) i.toNatClampNeg v.toInt8.toInt32)), [aok sh p 1 i])
  | 2, (pc, lv, .int v :: .int i :: .ref p :: st, M) => some ((pc + 1, lv, st, mI M p (upd (M.1 p) i.toNatClampNeg v)), [aok sh p 2 i, is01 v])
  | 3, (pc, lv, .long v :: .int i :: .ref p :: st, M) => some ((pc + 1, lv, st, mJ M p (vp_updL (M.2.1 p) i.toNatClampNeg v)), [aok sh p 3 i])
  | 4, (pc, lv, .ref v :: .int i :: .ref p :: st, M) => some ((pc + 1, lv, st, mR M p (va_up (M.2.2 p) i.toNatClampNeg v)), [aok sh p 4 i, isK v])
  | _, _ => none
def o_len (sh : Sh) (c : Cf) : Option (Cf × List Prop) := match c with
  | (pc, lv, .ref p :: st, M) => some ((pc + 1, lv, .int (nI (sh p).2) :: st, M), [(sh p).1 = 1])
  | _ => none
def o_ord (c : Cf) : Option (Cf × List Prop) := match c with
  | (pc, lv, .ref q :: st, M) => some ((pc + 3, lv, .int (nI (q - 100000)) :: st, M), [isK q, ct st ≤ 8])
  | _ => none
def o_kcode (c : Cf) : Option (Cf × List Prop) := match c with
  | (pc, lv, .ref q :: st, M) => some ((pc + 3, lv, .long (Int64.ofInt (kcodes.getD (q - 100000) 0)) :: st, M), [isK q])
  | _ => none
def o_kall (c : Cf) : Option (Cf × List Prop) := match c with
  | (pc, lv, .int i :: .ref p :: st, M) => some ((pc + 1, lv, .ref (100000 + i.toNatClampNeg) :: st, M), [p = 200002, vp_in i 36])
  | _ => none
def o_step (q : Nat) (e : List Int) (c : Cf) : Option (Cf × List Prop) := match c with
  | (pc, lv, .int i :: .ref p :: st, M) => some ((pc + 1, lv, .int (Int32.ofInt (e.getD i.toNatClampNeg 0)) :: st, M), [p = q, vp_in i e.length])
  | _ => none
def o_klen (c : Cf) : Option (Cf × List Prop) := match c with
  | (pc, lv, .ref p :: st, M) => some ((pc + 1, lv, .int 36 :: st, M), [p = 200002])
  | _ => none
def o_max (b : Bool) (c : Cf) : Option (Cf × List Prop) := match c with
  | (pc, lv, .int y :: .int x :: st, M) => some ((pc + 3, lv, .int (bif b then (if x < y then y else x) else (if y < x then y else x)) :: st, M), [ct st ≤ 8])
  | _ => none
def o_copy (sh : Sh) (t : Nat) (c : Cf) : Option (Cf × List Prop) := match t, c with
  | 0, (pc, lv, .int n :: .int d :: .ref q :: .int s :: .ref p :: st, M) => some ((pc + 3, lv, st, mI M q (va_cpy (M.1 p) (M.1 q) 0 0 n.toNatClampNeg)), [s = 0, d = 0, ¬ n < 0, (sh p).1 = 1, (sh q).1 = 1, n.toNatClampNeg ≤ (sh p).2, n.toNatClampNeg ≤ (sh q).2, ct st ≤ 8])
  | 3, (pc, lv, .int n :: .int d :: .ref q :: .int s :: .ref p :: st, M) => some ((pc + 3, lv, st, mJ M q (va_cpy (M.2.1 p) (M.2.1 q) 0 0 n.toNatClampNeg)), [s = 0, d = 0, ¬ n < 0, (sh p).1 = 4, (sh q).1 = 4, n.toNatClampNeg ≤ (sh p).2, n.toNatClampNeg ≤ (sh q).2, ct st ≤ 8])
  | _, _ => none
/-- one row of code, but calls and returns -/
def stp (sh : Sh) (r : Rw) (c : Cf) : Option (Cf × List Prop) := match r with
  | (op, i, x, e) => match op with
    | 0 => o_push 1 (.int (Int32.ofInt i)) c
    | 1 => o_push 2 (.int (Int32.ofInt i)) c
    | 2 => o_push 3 (.int (Int32.ofInt i)) c
    | 3 => o_push 1 (.long (Int64.ofInt i)) c
    | 4 => o_push 2 (.int (Int32.ofInt i)) c
    | 5 => o_push 3 (.int (Int32.ofInt i)) c
    | 6 => o_push 3 (.long (Int64.ofInt i)) c
    | 7 => o_iload 1 x c
    | 8 => o_iload 2 x c
    | 9 => o_lload 1 x c
    | 10 => o_lload 2 x c
    | 11 => o_aload 1 x c
    | 12 => o_aload 2 x c
    | 13 => o_istore 1 x c
    | 14 => o_istore 2 x c
    | 15 => o_lstore 1 x c
    | 16 => o_lstore 2 x c
    | 17 => o_astore 1 x c
    | 18 => o_astore 2 x c
    | 19 => o_iinc x i c
    | 20 => o_bin (fun x y => x + y) c
    | 21 => o_bin (fun x y => x - y) c
    | 22 => o_bin (fun x y => x * y) c
    | 23 => o_bin (fun x y => x &&& y) c
    | 24 => o_bin (fun x y => x ||| y) c
    | 25 => o_bin (fun x y => x ^^^ y) c
    | 26 => o_bin (fun x y => x <<< (y &&& 31)) c
    | 27 => o_bin (fun x y => x >>> (y &&& 31)) c
    | 28 => o_bin (fun x y => (x.toUInt32 >>> (y.toUInt32 &&& Int32.toUInt32 31)).toInt32) c
    | 29 => o_div (fun x y => x / y) c
    | 30 => o_div (fun x y => x - x / y * y) c
    | 31 => o_un (fun x => -x) c
    | 32 => o_lbin (fun x y => x ||| y) c
    | 33 => o_lbin (fun x y => x &&& y) c
    | 34 => o_lsh (fun x y => x <<< (y.toInt64 &&& 63)) c
    | 35 => o_lsh (fun x y => x >>> (y.toInt64 &&& 63)) c
    | 36 => o_lsh (fun x y => (x.toUInt64 >>> (y.toInt64.toUInt64 &&& Int64.toUInt64 63)).toInt64) c
    | 37 => o_lcmp c
    | 38 => o_i2l c
    | 39 => o_l2i c
    | 40 => o_un (fun x => x.toInt8.toInt32) c
    | 41 => o_un (fun x => (x.toUInt32 % 65536).toInt32) c
    | 42 => o_dup c
    | 43 => o_pop c
    | 44 => o_dup2 c
    | 45 => o_if (fun x => x = 0) inferInstance x c
    | 46 => o_if (fun x => ¬ x = 0) inferInstance x c
    | 47 => o_if (fun x => x < 0) inferInstance x c
    | 48 => o_if (fun x => 0 ≤ x) inferInstance x c
    | 49 => o_if (fun x => 0 < x) inferInstance x c
    | 50 => o_if (fun x => x ≤ 0) inferInstance x c
    | 51 => o_ic (fun x y => x = y) inferInstance x c
    | 52 => o_ic (fun x y => ¬ x = y) inferInstance x c
    | 53 => o_ic (fun x y => x < y) inferInstance x c
    | 54 => o_ic (fun x y => y ≤ x) inferInstance x c
    | 55 => o_ic (fun x y => y < x) inferInstance x c
    | 56 => o_ic (fun x y => x ≤ y) inferInstance x c
    | 57 => o_ac true x c
    | 58 => o_ac false x c
    | 59 => o_goto x c
    | 60 => o_tsw e c
    | 61 => o_lsw i e c
    | 62 => o_get sh e c
    | 63 => o_put sh e c
    | 64 => o_push 3 (.ref i.toNat) c
    | 65 => o_ald sh x c
    | 66 => o_ast sh x c
    | 67 => o_len sh c
    | 68 => o_ord c
    | 69 => o_kcode c
    | 70 => o_kall c
    | 71 => o_step x e c
    | 72 => o_klen c
    | 73 => o_max true c
    | 74 => o_max false c
    | 76 => o_copy sh x c
    | _ => none
def fdr : List (Nat × Rw) → Nat → Option Rw
  | [], _ => none
  | (q, r) :: t, pc => bif q == pc then some r else fdr t pc
/-- rows, one behind another -/
def stpn (sh : Sh) (tab : List (Nat × Rw)) : Nat → Cf → Option (Cf × List Prop)
  | 0, c => some (c, [])
  | n + 1, c => match fdr tab c.1 with
    | none => none
    | some r => match stp sh r c with
      | none => none
      | some (c1, o1) => match stpn sh tab n c1 with
        | none => none
        | some (c2, o2) => some (c2, o1 ++ o2)
def allP : List Prop → Prop
  | [] => True
  | [p] => p
  | p :: q :: t => p ∧ allP (q :: t)
theorem allP_app : ∀ (a b : List Prop), allP (a ++ b) → allP a ∧ allP b
  | [], b, h => ⟨trivial, h⟩
  | [p], [], h => ⟨h, trivial⟩
  | [p], q :: t, h => ⟨h.1, h.2⟩
  | p :: q :: t, b, h => ⟨⟨h.1, (allP_app (q :: t) b h.2).1⟩, (allP_app (q :: t) b h.2).2⟩
