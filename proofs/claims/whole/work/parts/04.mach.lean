/-! a small machine over a picture of the heap: I (int slots), J (long slots), A (references), S (kind and length of a cell), n (cells), z (slots) -/
abbrev AH : Type := (Nat → Nat → Int32) × (Nat → Nat → Int64) × (Nat → Nat → Option Nat) × (Nat → Nat × Nat) × Nat × Nat
abbrev AO : Type := Nat × (Nat → Int32)
def jk : Value := .float 0
def isR (v : Value) : Bool := match v with
  | .ref _ => true
  | .null => true
  | .retAddr _ => true
  | _ => false
def nl (v : Value) : Bool := match v with
  | .long _ => false
  | .double _ => false
  | _ => true
def stOK (L : List Value) (i : Nat) : Bool := match i with
  | 0 => true
  | j + 1 => nl (L.getD j jk)
def wr {α : Type} (I : Nat → Nat → α) (a k : Nat) (v : α) : Nat → Nat → α := va_up I a (va_up (I a) k v)
def hI (h : AH) := h.1
def hJ (h : AH) := h.2.1
def hA (h : AH) := h.2.2.1
def hSh (h : AH) := h.2.2.2.1
def hn (h : AH) := h.2.2.2.2.1
def hz (h : AH) := h.2.2.2.2.2
def sI (h : AH) (I : Nat → Nat → Int32) : AH := (I, h.2)
def sJ (h : AH) (J : Nat → Nat → Int64) : AH := (h.1, J, h.2.2)
def sA (h : AH) (A : Nat → Nat → Option Nat) : AH := (h.1, h.2.1, A, h.2.2.2)
/-- a new cell: its kind, its length, how many slots -/
def mkC (h : AH) (k l w : Nat) : AH := (va_up h.1 (hn h) (fun _ => 0), va_up h.2.1 (hn h) (fun _ => 0), va_up h.2.2.1 (hn h) (fun _ => none), va_up h.2.2.2.1 (hn h) (k, l), hn h + 1, hz h + w)
def xTab : List (List Int32) := [[9, 9, 1, 1, 9, 9, 6, 99, 60], [-1, 0, 0, 0, 1, 2], [1, 0, 0, 0, 0, 0, 0, 1, 1, 0, 0, 0, 0, 0, 1, 2, 1, 0, 0, 0, 0, 1, 3, 3, 1, 0, 0, 0, 1, 4, 6, 4, 1, 0, 0, 1, 5, 10, 10, 5, 1, 0, 1, 6, 15, 20, 15, 6, 1]]
def xHun : List Int64 := [1, 100, 10000, 1000000, 100000000, 10000000000, 1000000000000]
/-- arrays that stand outside: the script, the static rows, the bytes of the texts -/
def xA (Ω : AO) (j : Nat) : Option (FieldType × Nat × (Nat → Value)) :=
  if j = 0 then some (.int, Ω.1, fun k => .int (Ω.2 k))
  else if j < 4 then some (.int, (xTab.getD (j - 1) []).length, fun k => .int ((xTab.getD (j - 1) []).getD k 0))
  else if j = 4 then some (.long, 7, fun k => .long (xHun.getD k 0))
  else if 32 ≤ j ∧ j < 46 then some (.byte, (sBy.getD (j - 32) []).length, fun k => .int ((sBy.getD (j - 32) []).getD k 0))
  else none
def fInf (o x : Nat) : Option (Nat × Nat) := (fTb.find? (fun e => e.1 == o && e.2.1 == x)).map (fun e => (e.2.2.1, e.2.2.2.1))
def cInf (o x : Nat) : Option (Nat × Nat × Nat) := (cTb.find? (fun e => e.1 == o && e.2.1 == x)).map (fun e => (e.2.2.1, e.2.2.2.1, e.2.2.2.2.1))
def iInf (o x : Nat) : Option Int32 := (iTb.find? (fun e => e.1 == o && e.2.1 == x)).map (fun e => e.2.2.1)
def lInf (o x : Nat) : Option Int64 := (lTb.find? (fun e => e.1 == o && e.2.1 == x)).map (fun e => e.2.2.1)
def sInf (o x : Nat) : Option Nat := (sTb.find? (fun e => e.1 == o && e.2.1 == x)).map (fun e => e.2.2.1)
def nInf (o x : Nat) : Option Nat := (nTb.find? (fun e => e.1 == o && e.2.1 == x)).map (fun e => e.2.2.1)
def aInf (o x : Nat) : Option Nat := (aTb.find? (fun e => e.1 == o && e.2.1 == x)).map (fun e => e.2.2.1)
def oInf (o x : Nat) : Bool := (oTb.find? (fun e => e.1 == o && e.2.1 == x)).isSome
def yInf (o x : Nat) : Bool := (yTb.find? (fun e => e.1 == o && e.2.1 == x)).isSome
def mInf (o x : Nat) : Option Nat := (mTb.find? (fun e => e.1 == o && e.2.1 == x)).map (fun e => e.2.2.1)
def gInf (o x : Nat) : Option Nat := (gTb.find? (fun e => e.1 == o && e.2.1 == x)).map (fun e => e.2.2.1)
def xInf (o x : Nat) : Option Nat := (xTb.find? (fun e => e.1 == o && e.2.1 == x)).map (fun e => e.2.2.1)
abbrev Nx : Type := Option (Nat × List Value × List Value × AH)
def p1i (st : List Value) (k : Int32 → List Value → Nx) : Nx := match st with
  | .int x :: r => k x r
  | _ => none
def p1l (st : List Value) (k : Int64 → List Value → Nx) : Nx := match st with
  | .long x :: r => k x r
  | _ => none
def p2i (st : List Value) (k : Int32 → Int32 → List Value → Nx) : Nx := match st with
  | .int y :: .int x :: r => k x y r
  | _ => none
def p2l (st : List Value) (k : Int64 → Int64 → List Value → Nx) : Nx := match st with
  | .long y :: .long x :: r => k x y r
  | _ => none
def p2li (st : List Value) (k : Int64 → Int32 → List Value → Nx) : Nx := match st with
  | .int y :: .long x :: r => k x y r
  | _ => none
def jmp (pc : Nat) (off : Int) (L st : List Value) (h : AH) : Nx := if 0 ≤ (pc : Int) + off then some (((pc : Int) + off).toNat, L, st, h) else none
def brn (pc : Nat) (off : Int) (c : Bool) (L st : List Value) (h : AH) : Nx := if 0 ≤ (pc : Int) + off then some (if c = true then ((pc : Int) + off).toNat else pc + 3, L, st, h) else none
def cnd (c : ClassFile.Cond) (x y : Int32) : Bool := match c with
  | .eq => decide (x = y)
  | .ne => decide (¬ x = y)
  | .lt => decide (x < y)
  | .ge => decide (y ≤ x)
  | .gt => decide (y < x)
  | .le => decide (x ≤ y)
def ldI (L : List Value) (i : Nat) (k : Int32 → Nx) : Nx := match L[i]? with
  | some (.int x) => k x
  | _ => none
def ldL (L : List Value) (i : Nat) (k : Int64 → Nx) : Nx := match L[i]? with
  | some (.long x) => k x
  | _ => none
def ldA (L : List Value) (i : Nat) (k : Value → Nx) : Nx := match L[i]? with
  | some v => if isR v then k v else none
  | _ => none
def st1 (L : List Value) (i : Nat) (v : Value) (k : List Value → Nx) : Nx := if i < L.length ∧ stOK L i = true then k (L.set i v) else none
def st2 (L : List Value) (i : Nat) (v : Value) (k : List Value → Nx) : Nx := if i + 1 < L.length ∧ stOK L i = true then k ((L.set i v).set (i + 1) jk) else none
def inB (i : Int32) (N : Nat) : Bool := decide (¬ (i < 0 ∨ N ≤ i.toNatClampNeg))
theorem inB_iff {i : Int32} {N : Nat} : inB i N = true ↔ vp_in i N := by simp only [inB, decide_eq_true_eq, vp_in]
/-- an own array of a kind, an index within -/
def own (h : AH) (kd a : Nat) (i : Int32) : Bool := decide (a < hn h) && (decide ((hSh h a).1 = kd) && inB i (hSh h a).2)
def ald (kd : Nat) (Ω : AO) (ty : FieldType) (rd : Nat → Nat → Value) (st : List Value) (h : AH) (k : Value → List Value → Nx) : Nx := match st with
  | .int i :: .ref a :: r => if own h kd a i = true then k (rd a i.toNatClampNeg) r else none
  | .int i :: .retAddr j :: r => (match xA Ω j with
    | some (t, N, f) => if t = ty ∧ inB i N = true then k (f i.toNatClampNeg) r else none
    | none => none)
  | _ => none
def rk (st : List Value) (k : Nat → Int32 → List Value → Nx) : Nx := match st with
  | .int i :: .ref a :: r => k a i r
  | _ => none
def ncat (st : List Value) : Nat := (st.map fun v => v.category).sum
/-- getfield of an own cell, or of a text -/
def gfd (o x : Nat) (st : List Value) (h : AH) (k : Value → List Value → Nx) : Nx := match st with
  | .ref a :: r => (match fInf o x with
    | some (c, f) => if a < hn h ∧ (hSh h a).1 = c then k (if kTy c f = .int ∨ kTy c f = .boolean then .int (hI h a f) else va_rf (hA h a f)) r else none
    | none => none)
  | .retAddr j :: r => (match xInf o x with
    | some f => if 16 ≤ j ∧ j < 30 then (if f = 0 then k (.retAddr (j + 16)) r else k (.int 0) r) else none
    | none => none)
  | _ => none
/-- what a field takes -/
def fitV (t : FieldType) (v : Value) : Bool := match t, v with
  | .int, .int _ => true
  | .boolean, .int x => decide (x = 0 ∨ x = 1)
  | .object _, .ref _ => true
  | .array _, .ref _ => true
  | _, _ => false
def wrV (h : AH) (a f : Nat) (v : Value) : AH := match v with
  | .int x => sI h (wr (hI h) a f x)
  | .ref q => sA h (wr (hA h) a f (some q))
  | _ => h
def pfd (o x : Nat) (ini : Bool) (st : List Value) (h : AH) (k : List Value → AH → Nx) : Nx := match st with
  | v :: .ref a :: r => (match fInf o x with
    | some (c, f) => if a < hn h ∧ (hSh h a).1 = c ∧ fitV (kTy c f) v = true ∧ ((kF c f).2.2.1 = false ∨ (ini = true ∧ c = o)) then k r (wrV h a f v) else none
    | none => none)
  | _ => none
def gst (o x : Nat) (k : Value → Nx) : Nx := match gInf o x with
  | some 0 => k (.int 1)
  | some j => k (.retAddr j)
  | none => none
def isIni (μ : Nat) : Bool := (mD μ).2.1 == "<init>"
def atKd (t : ArrayType) : Nat := match t with
  | .byte => 12
  | .int => 13
  | .long => 14
  | _ => 99
/-- copying n ints from a0 at sp to a at dp -/
def acp (st : List Value) (h : AH) (k : List Value → AH → Nx) : Nx := match st with
  | .int n :: .int dp :: .ref a :: .int sp :: .ref a0 :: r =>
    if a0 < hn h ∧ a < hn h ∧ (hSh h a0).1 = 13 ∧ (hSh h a).1 = 13 ∧ ¬ sp < 0 ∧ ¬ dp < 0 ∧ ¬ n < 0 ∧ sp.toNatClampNeg + n.toNatClampNeg ≤ (hSh h a0).2 ∧ dp.toNatClampNeg + n.toNatClampNeg ≤ (hSh h a).2 ∧ ncat r ≤ 8 then
      k r (sI h (va_up (hI h) a (va_cpy (hI h a0) (hI h a) sp.toNatClampNeg dp.toNatClampNeg n.toNatClampNeg)))
    else none
  | _ => none
def stp (Ω : AO) (o : Nat) (ini : Bool) (i : Instr) (len pc : Nat) (L st : List Value) (h : AH) : Nx := match i with
  | .iconst n => some (pc + 1, L, .int (Int32.ofInt n) :: st, h)
  | .bipush n => some (pc + 2, L, .int (Int8.ofInt n).toInt32 :: st, h)
  | .sipush n => some (pc + 3, L, .int (Int16.ofInt n).toInt32 :: st, h)
  | .lconst n => some (pc + 1, L, .long (Int64.ofNat (n : Nat)) :: st, h)
  | .ldc x => (match iInf o x with
    | some v => some (pc + 2, L, .int v :: st, h)
    | none => (match sInf o x with
      | some j => some (pc + 2, L, .retAddr (16 + j) :: st, h)
      | none => none))
  | .ldc2_w x => (match lInf o x with
    | some v => some (pc + 3, L, .long v :: st, h)
    | none => none)
  | .iload j => ldI L j (fun x => some (pc + 2, L, .int x :: st, h))
  | .iload_n j => ldI L j (fun x => some (pc + 1, L, .int x :: st, h))
  | .lload j => ldL L j (fun x => some (pc + 2, L, .long x :: st, h))
  | .lload_n j => ldL L j (fun x => some (pc + 1, L, .long x :: st, h))
  | .aload j => ldA L j (fun v => some (pc + 2, L, v :: st, h))
  | .aload_n j => ldA L j (fun v => some (pc + 1, L, v :: st, h))
  | .istore j => p1i st (fun x r => st1 L j (.int x) (fun L' => some (pc + 2, L', r, h)))
  | .istore_n j => p1i st (fun x r => st1 L j (.int x) (fun L' => some (pc + 1, L', r, h)))
  | .lstore j => p1l st (fun x r => st2 L j (.long x) (fun L' => some (pc + 2, L', r, h)))
  | .lstore_n j => p1l st (fun x r => st2 L j (.long x) (fun L' => some (pc + 1, L', r, h)))
  | .astore j => (match st with
    | v :: r => if isR v = true then st1 L j v (fun L' => some (pc + 2, L', r, h)) else none
    | _ => none)
  | .astore_n j => (match st with
    | v :: r => if isR v = true then st1 L j v (fun L' => some (pc + 1, L', r, h)) else none
    | _ => none)
  | .iinc j n => ldI L j (fun x => st1 L j (.int (x + Int32.ofInt n)) (fun L' => some (pc + 3, L', st, h)))
  | .iadd => p2i st (fun x y r => some (pc + 1, L, .int (x + y) :: r, h))
  | .isub => p2i st (fun x y r => some (pc + 1, L, .int (x - y) :: r, h))
  | .imul => p2i st (fun x y r => some (pc + 1, L, .int (x * y) :: r, h))
  | .iand => p2i st (fun x y r => some (pc + 1, L, .int (x &&& y) :: r, h))
  | .idiv => p2i st (fun x y r => if y = 0 then none else some (pc + 1, L, .int (x / y) :: r, h))
  | .irem => p2i st (fun x y r => if y = 0 then none else some (pc + 1, L, .int (x - x / y * y) :: r, h))
  | .ineg => p1i st (fun x r => some (pc + 1, L, .int (-x) :: r, h))
  | .ishr => p2i st (fun x y r => some (pc + 1, L, .int (x >>> (y &&& 31)) :: r, h))
  | .iushr => p2i st (fun x y r => some (pc + 1, L, .int (x.toUInt32 >>> (y.toUInt32 &&& Int32.toUInt32 31)).toInt32 :: r, h))
  | .ladd => p2l st (fun x y r => some (pc + 1, L, .long (x + y) :: r, h))
  | .lsub => p2l st (fun x y r => some (pc + 1, L, .long (x - y) :: r, h))
  | .lmul => p2l st (fun x y r => some (pc + 1, L, .long (x * y) :: r, h))
  | .land => p2l st (fun x y r => some (pc + 1, L, .long (x &&& y) :: r, h))
  | .lor => p2l st (fun x y r => some (pc + 1, L, .long (x ||| y) :: r, h))
  | .ldiv => p2l st (fun x y r => if y = 0 then none else some (pc + 1, L, .long (x / y) :: r, h))
  | .lrem => p2l st (fun x y r => if y = 0 then none else some (pc + 1, L, .long (x - x / y * y) :: r, h))
  | .lcmp => p2l st (fun x y r => some (pc + 1, L, .int (lg_cmp x y) :: r, h))
  | .lshl => p2li st (fun x y r => some (pc + 1, L, .long (x <<< (y.toInt64 &&& 63)) :: r, h))
  | .lshr => p2li st (fun x y r => some (pc + 1, L, .long (x >>> (y.toInt64 &&& 63)) :: r, h))
  | .lushr => p2li st (fun x y r => some (pc + 1, L, .long (x.toUInt64 >>> (y.toInt64.toUInt64 &&& Int64.toUInt64 63)).toInt64 :: r, h))
  | .i2l => p1i st (fun x r => some (pc + 1, L, .long x.toInt64 :: r, h))
  | .l2i => p1l st (fun x r => some (pc + 1, L, .int x.toInt32 :: r, h))
  | .i2b => p1i st (fun x r => some (pc + 1, L, .int x.toInt8.toInt32 :: r, h))
  | .i2s => p1i st (fun x r => some (pc + 1, L, .int x.toInt16.toInt32 :: r, h))
  | .i2c => p1i st (fun x r => some (pc + 1, L, .int (x.toUInt32 % 65536).toInt32 :: r, h))
  | .dup => (match st with
    | v :: r => if nl v = true then some (pc + 1, L, v :: v :: r, h) else none
    | _ => none)
  | .dup2 => (match st with
    | v :: w :: r => if nl v = true ∧ nl w = true then some (pc + 1, L, v :: w :: v :: w :: r, h) else none
    | _ => none)
  | .pop => (match st with
    | v :: r => if nl v = true then some (pc + 1, L, r, h) else none
    | _ => none)
  | .ifCond c off => p1i st (fun x r => brn pc off (cnd c x 0) L r h)
  | .if_icmp c off => p2i st (fun x y r => brn pc off (cnd c x y) L r h)
  | .goto off => jmp pc off L st h
  | .tableswitch df lo hi offs => p1i st (fun x r => if x.toInt < lo ∨ hi < x.toInt then jmp pc df L r h else (match offs[(x.toInt - lo).toNat]? with
    | some off => jmp pc off L r h
    | none => none))
  | .lookupswitch df ps => p1i st (fun x r => if (ps.toList.zip (ps.toList.drop 1)).all (fun (a, next) => a.1 < next.1) = true then jmp pc (Op.lookupswitch.offset ps.toList df x.toInt) L r h else none)
  | .iaload => ald 13 Ω .int (fun a k => .int (hI h a k)) st h (fun v r => some (pc + 1, L, v :: r, h))
  | .baload => ald 12 Ω .byte (fun a k => .int (hI h a k)) st h (fun v r => some (pc + 1, L, v :: r, h))
  | .laload => ald 14 Ω .long (fun a k => .long (hJ h a k)) st h (fun v r => some (pc + 1, L, v :: r, h))
  | .aaload => rk st (fun a i r => if own h (hSh h a).1 a i = true ∧ 15 ≤ (hSh h a).1 ∧ (hSh h a).1 ≤ 17 then some (pc + 1, L, va_rf (hA h a i.toNatClampNeg) :: r, h) else none)
  | .iastore => p1i st (fun x r => rk r (fun a i r' => if own h 13 a i = true then some (pc + 1, L, r', sI h (wr (hI h) a i.toNatClampNeg x)) else none))
  | .bastore => p1i st (fun x r => rk r (fun a i r' => if own h 12 a i = true then some (pc + 1, L, r', sI h (wr (hI h) a i.toNatClampNeg x.toInt8.toInt32)) else none))
  | .lastore => p1l st (fun x r => rk r (fun a i r' => if own h 14 a i = true then some (pc + 1, L, r', sJ h (wr (hJ h) a i.toNatClampNeg x)) else none))
  | .aastore => (match st with
    | .ref q :: r => rk r (fun a i r' => if own h (hSh h a).1 a i = true ∧ 15 ≤ (hSh h a).1 ∧ (hSh h a).1 ≤ 17 ∧ q < hn h ∧ (hSh h q).1 = aCl (hSh h a).1 then some (pc + 1, L, r', sA h (wr (hA h) a i.toNatClampNeg (some q))) else none)
    | _ => none)
  | .arraylength => (match st with
    | .ref a :: r => if a < hn h ∧ 12 ≤ (hSh h a).1 ∧ (hSh h a).1 ≤ 17 then some (pc + 1, L, .int (Int32.ofNat (hSh h a).2) :: r, h) else none
    | .retAddr j :: r => (match xA Ω j with
      | some (_, N, _) => some (pc + 1, L, .int (Int32.ofNat N) :: r, h)
      | none => none)
    | _ => none)
  | .newarray t => p1i st (fun x r => if atKd t ≤ 14 ∧ ¬ x < 0 ∧ x.toNatClampNeg ≤ 1000000 then some (pc + 2, L, .ref (hn h) :: r, mkC h (atKd t) x.toNatClampNeg x.toNatClampNeg) else none)
  | .anewarray x => p1i st (fun v r => (match aInf o x with
    | some c => if ¬ v < 0 ∧ v.toNatClampNeg ≤ 1000000 then some (pc + 3, L, .ref (hn h) :: r, mkC h (aKd c) v.toNatClampNeg v.toNatClampNeg) else none
    | none => none))
  | .new x => (match nInf o x with
    | some c => some (pc + 3, L, .ref (hn h) :: st, mkC h c 0 (kN c))
    | none => none)
  | .getfield x => gfd o x st h (fun v r => some (pc + 3, L, v :: r, h))
  | .putfield x => pfd o x ini st h (fun r h' => some (pc + 3, L, r, h'))
  | .getstatic x => gst o x (fun v => some (pc + 3, L, v :: st, h))
  | .invokespecial x => if oInf o x = true then (match st with
    | .ref _ :: r => if ncat r ≤ 8 then some (pc + 3, L, r, h) else none
    | _ => none) else none
  | .invokestatic x => (match mInf o x with
    | some 0 => p2i st (fun u v r => if ncat r ≤ 8 then some (pc + 3, L, .int (if u < v then v else u) :: r, h) else none)
    | some _ => p2i st (fun u v r => if ncat r ≤ 8 then some (pc + 3, L, .int (if v < u then v else u) :: r, h) else none)
    | none => if yInf o x = true then acp st h (fun r h' => some (pc + 3, L, r, h')) else none)
  | _ => none
/-- a return: its value -/
def rtn (rt : Option FieldType) (i : Instr) (st : List Value) : Option (Option Value) := match i with
  | .return_ => (match rt, st with
    | none, [] => some none
    | _, _ => none)
  | .ireturn => (match rt, st with
    | some t, [.int v] => if narrow t (.int v) = .int v then some (some (.int v)) else none
    | _, _ => none)
  | .lreturn => (match rt, st with
    | some .long, [.long v] => some (some (.long v))
    | _, _ => none)
  | .areturn => (match rt, st with
    | some (.object _), [v] => if isR v = true then some (some v) else none
    | some (.array _), [v] => if isR v = true then some (some v) else none
    | _, _ => none)
  | _ => none
/-- may this be called on that (kind 1: a constructor, 2: a method) -/
def rcv (kd y : Nat) (args : List Value) (h : AH) : Bool := match kd with
  | 0 => true
  | 1 => (match args with
    | .ref _ :: _ => true
    | _ => false)
  | _ => (match args with
    | .ref a :: _ => decide (a < hn h) && (decide ((hSh h a).1 = mO y) && decide (mO y < 12))
    | .retAddr j :: _ => decide (16 ≤ j) && (decide (j < 30) && decide (mO y = 13))
    | _ => false)
def cal (o : Nat) (x kd : Nat) (st : List Value) (h : AH) : Option (Nat × List Value × List Value) := match cInf o x with
  | some (y, n, kd') => if kd' = kd ∧ n ≤ st.length ∧ rcv kd y (st.take n).reverse h = true ∧ ncat (st.drop n) ≤ 8 then some (y, (st.take n).reverse, st.drop n) else none
  | none => none
def cll (o : Nat) (i : Instr) (st : List Value) (h : AH) : Option (Nat × List Value × List Value) := match i with
  | .invokestatic x => cal o x 0 st h
  | .invokespecial x => cal o x 1 st h
  | .invokevirtual x => cal o x 2 st h
  | _ => none
def entL (n : Nat) (args : List Value) : List Value := (args.flatMap fun v => if nl v = true then [v] else [v, jk]) ++ List.replicate (n - (args.flatMap fun v => if nl v = true then [v] else [v, jk]).length) jk
abbrev Rs : Type := Option (Option Value × AH)
/-- the length that an instruction has -/
def okL (i : Instr) (len : Nat) : Bool := match i with
  | .tableswitch .. => true
  | .lookupswitch .. => true
  | .bipush _ => len == 2
  | .ldc _ => len == 2
  | .iload _ => len == 2
  | .lload _ => len == 2
  | .aload _ => len == 2
  | .istore _ => len == 2
  | .lstore _ => len == 2
  | .astore _ => len == 2
  | .newarray _ => len == 2
  | .sipush _ => len == 3
  | .ldc2_w _ => len == 3
  | .iinc .. => len == 3
  | .ifCond .. => len == 3
  | .if_icmp .. => len == 3
  | .goto _ => len == 3
  | .getfield _ => len == 3
  | .putfield _ => len == 3
  | .getstatic _ => len == 3
  | .new _ => len == 3
  | .anewarray _ => len == 3
  | .invokespecial _ => len == 3
  | .invokestatic _ => len == 3
  | .invokevirtual _ => len == 3
  | _ => len == 1
def evG (Ω : AO) (rec : Nat → Nat → Nat → List Value → List Value → AH → Rs) (d μ pc : Nat) (L st : List Value) (h : AH) (i : Instr) (len : Nat) : Rs :=
  match rtn (mR μ) i st with
  | some r => some (r, h)
  | none => (match cll (mO μ) i st h with
    | some (y, args, rest) => (match d with
      | 0 => none
      | d' + 1 => if (entL (mL y) args).length = mL y then (match rec d' y 0 (entL (mL y) args) [] h with
        | some (r, h') => rec (d' + 1) μ (pc + 3) L (r.toList ++ rest) h'
        | none => none) else none)
    | none => (match stp Ω (mO μ) (isIni μ) i len pc L st h with
      | some (pc', L', st', h') => if hn h ≤ hn h' ∧ hz h ≤ hz h' then rec d μ pc' L' st' h' else none
      | none => none))
def ev (Ω : AO) : Nat → Nat → Nat → Nat → List Value → List Value → AH → Rs
  | 0, _, _, _, _, _, _ => none
  | f + 1, d, μ, pc, L, st, h => match decode (mB μ) pc with
    | .ok (i, len) => if okL i len = true then evG Ω (ev Ω f) d μ pc L st h i len else none
    | _ => none
